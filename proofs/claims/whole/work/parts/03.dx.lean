theorem dX0_init_0 : decode cX0_init 0 = .ok (.aload_n 0, 1) := by decide +kernel
theorem dX0_init_1 : decode cX0_init 1 = .ok (.invokespecial 3, 3) := by decide +kernel
theorem dX0_init_4 : decode cX0_init 4 = .ok (.aload_n 0, 1) := by decide +kernel
theorem dX0_init_5 : decode cX0_init 5 = .ok (.iconst 3, 1) := by decide +kernel
theorem dX0_init_6 : decode cX0_init 6 = .ok (.newarray .int, 2) := by decide +kernel
theorem dX0_init_8 : decode cX0_init 8 = .ok (.dup, 1) := by decide +kernel
theorem dX0_init_9 : decode cX0_init 9 = .ok (.iconst 0, 1) := by decide +kernel
theorem dX0_init_10 : decode cX0_init 10 = .ok (.iconst (-1), 1) := by decide +kernel
theorem dX0_init_11 : decode cX0_init 11 = .ok (.iastore, 1) := by decide +kernel
theorem dX0_init_12 : decode cX0_init 12 = .ok (.dup, 1) := by decide +kernel
theorem dX0_init_13 : decode cX0_init 13 = .ok (.iconst 1, 1) := by decide +kernel
theorem dX0_init_14 : decode cX0_init 14 = .ok (.iconst (-1), 1) := by decide +kernel
theorem dX0_init_15 : decode cX0_init 15 = .ok (.iastore, 1) := by decide +kernel
theorem dX0_init_16 : decode cX0_init 16 = .ok (.dup, 1) := by decide +kernel
theorem dX0_init_17 : decode cX0_init 17 = .ok (.iconst 2, 1) := by decide +kernel
theorem dX0_init_18 : decode cX0_init 18 = .ok (.iconst (-1), 1) := by decide +kernel
theorem dX0_init_19 : decode cX0_init 19 = .ok (.iastore, 1) := by decide +kernel
theorem dX0_init_20 : decode cX0_init 20 = .ok (.putfield 9, 3) := by decide +kernel
theorem dX0_init_23 : decode cX0_init 23 = .ok (.aload_n 0, 1) := by decide +kernel
theorem dX0_init_24 : decode cX0_init 24 = .ok (.iconst 3, 1) := by decide +kernel
theorem dX0_init_25 : decode cX0_init 25 = .ok (.newarray .int, 2) := by decide +kernel
theorem dX0_init_27 : decode cX0_init 27 = .ok (.putfield 15, 3) := by decide +kernel
theorem dX0_init_30 : decode cX0_init 30 = .ok (.return_, 1) := by decide +kernel
theorem dX0_clear_0 : decode cX0_clear 0 = .ok (.aload_n 0, 1) := by decide +kernel
theorem dX0_clear_1 : decode cX0_clear 1 = .ok (.getfield 9, 3) := by decide +kernel
theorem dX0_clear_4 : decode cX0_clear 4 = .ok (.iconst (-1), 1) := by decide +kernel
theorem dX0_clear_5 : decode cX0_clear 5 = .ok (.invokestatic 18, 3) := by decide +kernel
theorem dX0_clear_8 : decode cX0_clear 8 = .ok (.aload_n 0, 1) := by decide +kernel
theorem dX0_clear_9 : decode cX0_clear 9 = .ok (.iconst 0, 1) := by decide +kernel
theorem dX0_clear_10 : decode cX0_clear 10 = .ok (.putfield 22, 3) := by decide +kernel
theorem dX0_clear_13 : decode cX0_clear 13 = .ok (.return_, 1) := by decide +kernel
theorem dX0_read_0 : decode cX0_read 0 = .ok (.aload_n 0, 1) := by decide +kernel
theorem dX0_read_1 : decode cX0_read 1 = .ok (.getfield 15, 3) := by decide +kernel
theorem dX0_read_4 : decode cX0_read 4 = .ok (.iconst (-1), 1) := by decide +kernel
theorem dX0_read_5 : decode cX0_read 5 = .ok (.invokestatic 18, 3) := by decide +kernel
theorem dX0_read_8 : decode cX0_read 8 = .ok (.iconst 0, 1) := by decide +kernel
theorem dX0_read_9 : decode cX0_read 9 = .ok (.istore_n 2, 1) := by decide +kernel
theorem dX0_read_10 : decode cX0_read 10 = .ok (.iload_n 2, 1) := by decide +kernel
theorem dX0_read_11 : decode cX0_read 11 = .ok (.bipush 60, 2) := by decide +kernel
theorem dX0_read_13 : decode cX0_read 13 = .ok (.if_icmp .ge 71, 3) := by decide +kernel
theorem dX0_read_16 : decode cX0_read 16 = .ok (.aload_n 1, 1) := by decide +kernel
theorem dX0_read_17 : decode cX0_read 17 = .ok (.invokevirtual 26, 3) := by decide +kernel
theorem dX0_read_20 : decode cX0_read 20 = .ok (.ifCond .ne 64, 3) := by decide +kernel
theorem dX0_read_23 : decode cX0_read 23 = .ok (.aload_n 1, 1) := by decide +kernel
theorem dX0_read_24 : decode cX0_read 24 = .ok (.invokevirtual 32, 3) := by decide +kernel
theorem dX0_read_27 : decode cX0_read 27 = .ok (.iconst (-1), 1) := by decide +kernel
theorem dX0_read_28 : decode cX0_read 28 = .ok (.if_icmp .eq 56, 3) := by decide +kernel
theorem dX0_read_31 : decode cX0_read 31 = .ok (.aload_n 1, 1) := by decide +kernel
theorem dX0_read_32 : decode cX0_read 32 = .ok (.iconst 2, 1) := by decide +kernel
theorem dX0_read_33 : decode cX0_read 33 = .ok (.invokevirtual 36, 3) := by decide +kernel
theorem dX0_read_36 : decode cX0_read 36 = .ok (.istore_n 3, 1) := by decide +kernel
theorem dX0_read_37 : decode cX0_read 37 = .ok (.aload_n 0, 1) := by decide +kernel
theorem dX0_read_38 : decode cX0_read 38 = .ok (.getfield 15, 3) := by decide +kernel
theorem dX0_read_41 : decode cX0_read 41 = .ok (.iload_n 3, 1) := by decide +kernel
theorem dX0_read_42 : decode cX0_read 42 = .ok (.invokestatic 40, 3) := by decide +kernel
theorem dX0_read_45 : decode cX0_read 45 = .ok (.iconst (-1), 1) := by decide +kernel
theorem dX0_read_46 : decode cX0_read 46 = .ok (.if_icmp .eq 12, 3) := by decide +kernel
theorem dX0_read_49 : decode cX0_read 49 = .ok (.aload_n 1, 1) := by decide +kernel
theorem dX0_read_50 : decode cX0_read 50 = .ok (.iconst 2, 1) := by decide +kernel
theorem dX0_read_51 : decode cX0_read 51 = .ok (.aload_n 1, 1) := by decide +kernel
theorem dX0_read_52 : decode cX0_read 52 = .ok (.getfield 44, 3) := by decide +kernel
theorem dX0_read_55 : decode cX0_read 55 = .ok (.invokevirtual 47, 3) := by decide +kernel
theorem dX0_read_58 : decode cX0_read 58 = .ok (.aload_n 0, 1) := by decide +kernel
theorem dX0_read_59 : decode cX0_read 59 = .ok (.getfield 15, 3) := by decide +kernel
theorem dX0_read_62 : decode cX0_read 62 = .ok (.iload_n 3, 1) := by decide +kernel
theorem dX0_read_63 : decode cX0_read 63 = .ok (.aload_n 1, 1) := by decide +kernel
theorem dX0_read_64 : decode cX0_read 64 = .ok (.bipush 9, 2) := by decide +kernel
theorem dX0_read_66 : decode cX0_read 66 = .ok (.invokevirtual 36, 3) := by decide +kernel
theorem dX0_read_69 : decode cX0_read 69 = .ok (.invokestatic 51, 3) := by decide +kernel
theorem dX0_read_72 : decode cX0_read 72 = .ok (.aload_n 1, 1) := by decide +kernel
theorem dX0_read_73 : decode cX0_read 73 = .ok (.bipush 59, 2) := by decide +kernel
theorem dX0_read_75 : decode cX0_read 75 = .ok (.invokevirtual 55, 3) := by decide +kernel
theorem dX0_read_78 : decode cX0_read 78 = .ok (.iinc 2 1, 3) := by decide +kernel
theorem dX0_read_81 : decode cX0_read 81 = .ok (.goto (-71), 3) := by decide +kernel
theorem dX0_read_84 : decode cX0_read 84 = .ok (.aload_n 1, 1) := by decide +kernel
theorem dX0_read_85 : decode cX0_read 85 = .ok (.invokevirtual 26, 3) := by decide +kernel
theorem dX0_read_88 : decode cX0_read 88 = .ok (.ifCond .ne 22, 3) := by decide +kernel
theorem dX0_read_91 : decode cX0_read 91 = .ok (.aload_n 0, 1) := by decide +kernel
theorem dX0_read_92 : decode cX0_read 92 = .ok (.getfield 15, 3) := by decide +kernel
theorem dX0_read_95 : decode cX0_read 95 = .ok (.iconst 0, 1) := by decide +kernel
theorem dX0_read_96 : decode cX0_read 96 = .ok (.aload_n 0, 1) := by decide +kernel
theorem dX0_read_97 : decode cX0_read 97 = .ok (.getfield 9, 3) := by decide +kernel
theorem dX0_read_100 : decode cX0_read 100 = .ok (.iconst 0, 1) := by decide +kernel
theorem dX0_read_101 : decode cX0_read 101 = .ok (.iconst 3, 1) := by decide +kernel
theorem dX0_read_102 : decode cX0_read 102 = .ok (.invokestatic 59, 3) := by decide +kernel
theorem dX0_read_105 : decode cX0_read 105 = .ok (.aload_n 0, 1) := by decide +kernel
theorem dX0_read_106 : decode cX0_read 106 = .ok (.iload_n 2, 1) := by decide +kernel
theorem dX0_read_107 : decode cX0_read 107 = .ok (.putfield 22, 3) := by decide +kernel
theorem dX0_read_110 : decode cX0_read 110 = .ok (.return_, 1) := by decide +kernel
theorem dX0_tells_0 : decode cX0_tells 0 = .ok (.aload_n 0, 1) := by decide +kernel
theorem dX0_tells_1 : decode cX0_tells 1 = .ok (.getfield 9, 3) := by decide +kernel
theorem dX0_tells_4 : decode cX0_tells 4 = .ok (.iload_n 1, 1) := by decide +kernel
theorem dX0_tells_5 : decode cX0_tells 5 = .ok (.invokestatic 40, 3) := by decide +kernel
theorem dX0_tells_8 : decode cX0_tells 8 = .ok (.iconst (-1), 1) := by decide +kernel
theorem dX0_tells_9 : decode cX0_tells 9 = .ok (.if_icmp .eq 7, 3) := by decide +kernel
theorem dX0_tells_12 : decode cX0_tells 12 = .ok (.iconst 1, 1) := by decide +kernel
theorem dX0_tells_13 : decode cX0_tells 13 = .ok (.goto 4, 3) := by decide +kernel
theorem dX0_tells_16 : decode cX0_tells 16 = .ok (.iconst 0, 1) := by decide +kernel
theorem dX0_tells_17 : decode cX0_tells 17 = .ok (.ireturn, 1) := by decide +kernel
theorem dX0_mayBear_0 : decode cX0_mayBear 0 = .ok (.iconst 0, 1) := by decide +kernel
theorem dX0_mayBear_1 : decode cX0_mayBear 1 = .ok (.istore_n 3, 1) := by decide +kernel
theorem dX0_mayBear_2 : decode cX0_mayBear 2 = .ok (.iload_n 3, 1) := by decide +kernel
theorem dX0_mayBear_3 : decode cX0_mayBear 3 = .ok (.iconst 3, 1) := by decide +kernel
theorem dX0_mayBear_4 : decode cX0_mayBear 4 = .ok (.if_icmp .ge 47, 3) := by decide +kernel
theorem dX0_mayBear_7 : decode cX0_mayBear 7 = .ok (.aload_n 0, 1) := by decide +kernel
theorem dX0_mayBear_8 : decode cX0_mayBear 8 = .ok (.getfield 9, 3) := by decide +kernel
theorem dX0_mayBear_11 : decode cX0_mayBear 11 = .ok (.iload_n 3, 1) := by decide +kernel
theorem dX0_mayBear_12 : decode cX0_mayBear 12 = .ok (.invokestatic 40, 3) := by decide +kernel
theorem dX0_mayBear_15 : decode cX0_mayBear 15 = .ok (.istore 4, 2) := by decide +kernel
theorem dX0_mayBear_17 : decode cX0_mayBear 17 = .ok (.iload 4, 2) := by decide +kernel
theorem dX0_mayBear_19 : decode cX0_mayBear 19 = .ok (.iconst (-1), 1) := by decide +kernel
theorem dX0_mayBear_20 : decode cX0_mayBear 20 = .ok (.if_icmp .eq 25, 3) := by decide +kernel
theorem dX0_mayBear_23 : decode cX0_mayBear 23 = .ok (.iload_n 1, 1) := by decide +kernel
theorem dX0_mayBear_24 : decode cX0_mayBear 24 = .ok (.iload_n 3, 1) := by decide +kernel
theorem dX0_mayBear_25 : decode cX0_mayBear 25 = .ok (.invokestatic 63, 3) := by decide +kernel
theorem dX0_mayBear_28 : decode cX0_mayBear 28 = .ok (.iload 4, 2) := by decide +kernel
theorem dX0_mayBear_30 : decode cX0_mayBear 30 = .ok (.if_icmp .eq 15, 3) := by decide +kernel
theorem dX0_mayBear_33 : decode cX0_mayBear 33 = .ok (.iload_n 2, 1) := by decide +kernel
theorem dX0_mayBear_34 : decode cX0_mayBear 34 = .ok (.iload_n 3, 1) := by decide +kernel
theorem dX0_mayBear_35 : decode cX0_mayBear 35 = .ok (.invokestatic 63, 3) := by decide +kernel
theorem dX0_mayBear_38 : decode cX0_mayBear 38 = .ok (.iload 4, 2) := by decide +kernel
theorem dX0_mayBear_40 : decode cX0_mayBear 40 = .ok (.if_icmp .eq 5, 3) := by decide +kernel
theorem dX0_mayBear_43 : decode cX0_mayBear 43 = .ok (.iconst 0, 1) := by decide +kernel
theorem dX0_mayBear_44 : decode cX0_mayBear 44 = .ok (.ireturn, 1) := by decide +kernel
theorem dX0_mayBear_45 : decode cX0_mayBear 45 = .ok (.iinc 3 1, 3) := by decide +kernel
theorem dX0_mayBear_48 : decode cX0_mayBear 48 = .ok (.goto (-46), 3) := by decide +kernel
theorem dX0_mayBear_51 : decode cX0_mayBear 51 = .ok (.iconst 1, 1) := by decide +kernel
theorem dX0_mayBear_52 : decode cX0_mayBear 52 = .ok (.ireturn, 1) := by decide +kernel
theorem dX0_allFits_0 : decode cX0_allFits 0 = .ok (.iconst 0, 1) := by decide +kernel
theorem dX0_allFits_1 : decode cX0_allFits 1 = .ok (.istore_n 3, 1) := by decide +kernel
theorem dX0_allFits_2 : decode cX0_allFits 2 = .ok (.iconst 0, 1) := by decide +kernel
theorem dX0_allFits_3 : decode cX0_allFits 3 = .ok (.istore 4, 2) := by decide +kernel
theorem dX0_allFits_5 : decode cX0_allFits 5 = .ok (.iload 4, 2) := by decide +kernel
theorem dX0_allFits_7 : decode cX0_allFits 7 = .ok (.iload_n 2, 1) := by decide +kernel
theorem dX0_allFits_8 : decode cX0_allFits 8 = .ok (.if_icmp .ge 51, 3) := by decide +kernel
theorem dX0_allFits_11 : decode cX0_allFits 11 = .ok (.iload 4, 2) := by decide +kernel
theorem dX0_allFits_13 : decode cX0_allFits 13 = .ok (.iconst 1, 1) := by decide +kernel
theorem dX0_allFits_14 : decode cX0_allFits 14 = .ok (.iadd, 1) := by decide +kernel
theorem dX0_allFits_15 : decode cX0_allFits 15 = .ok (.istore 5, 2) := by decide +kernel
theorem dX0_allFits_17 : decode cX0_allFits 17 = .ok (.iload 5, 2) := by decide +kernel
theorem dX0_allFits_19 : decode cX0_allFits 19 = .ok (.iload_n 2, 1) := by decide +kernel
theorem dX0_allFits_20 : decode cX0_allFits 20 = .ok (.if_icmp .ge 33, 3) := by decide +kernel
theorem dX0_allFits_23 : decode cX0_allFits 23 = .ok (.aload_n 0, 1) := by decide +kernel
theorem dX0_allFits_24 : decode cX0_allFits 24 = .ok (.aload_n 1, 1) := by decide +kernel
theorem dX0_allFits_25 : decode cX0_allFits 25 = .ok (.iload 4, 2) := by decide +kernel
theorem dX0_allFits_27 : decode cX0_allFits 27 = .ok (.iconst 0, 1) := by decide +kernel
theorem dX0_allFits_28 : decode cX0_allFits 28 = .ok (.invokevirtual 67, 3) := by decide +kernel
theorem dX0_allFits_31 : decode cX0_allFits 31 = .ok (.aload_n 1, 1) := by decide +kernel
theorem dX0_allFits_32 : decode cX0_allFits 32 = .ok (.iload 5, 2) := by decide +kernel
theorem dX0_allFits_34 : decode cX0_allFits 34 = .ok (.iconst 0, 1) := by decide +kernel
theorem dX0_allFits_35 : decode cX0_allFits 35 = .ok (.invokevirtual 67, 3) := by decide +kernel
theorem dX0_allFits_38 : decode cX0_allFits 38 = .ok (.invokevirtual 72, 3) := by decide +kernel
theorem dX0_allFits_41 : decode cX0_allFits 41 = .ok (.ifCond .eq 6, 3) := by decide +kernel
theorem dX0_allFits_44 : decode cX0_allFits 44 = .ok (.iinc 3 1, 3) := by decide +kernel
theorem dX0_allFits_47 : decode cX0_allFits 47 = .ok (.iinc 5 1, 3) := by decide +kernel
theorem dX0_allFits_50 : decode cX0_allFits 50 = .ok (.goto (-33), 3) := by decide +kernel
theorem dX0_allFits_53 : decode cX0_allFits 53 = .ok (.iinc 4 1, 3) := by decide +kernel
theorem dX0_allFits_56 : decode cX0_allFits 56 = .ok (.goto (-51), 3) := by decide +kernel
theorem dX0_allFits_59 : decode cX0_allFits 59 = .ok (.iload_n 3, 1) := by decide +kernel
theorem dX0_allFits_60 : decode cX0_allFits 60 = .ok (.ireturn, 1) := by decide +kernel
theorem dX0_firstFit_0 : decode cX0_firstFit 0 = .ok (.iconst 0, 1) := by decide +kernel
theorem dX0_firstFit_1 : decode cX0_firstFit 1 = .ok (.istore_n 3, 1) := by decide +kernel
theorem dX0_firstFit_2 : decode cX0_firstFit 2 = .ok (.iload_n 3, 1) := by decide +kernel
theorem dX0_firstFit_3 : decode cX0_firstFit 3 = .ok (.iload_n 2, 1) := by decide +kernel
theorem dX0_firstFit_4 : decode cX0_firstFit 4 = .ok (.if_icmp .ge 54, 3) := by decide +kernel
theorem dX0_firstFit_7 : decode cX0_firstFit 7 = .ok (.iload_n 3, 1) := by decide +kernel
theorem dX0_firstFit_8 : decode cX0_firstFit 8 = .ok (.iconst 1, 1) := by decide +kernel
theorem dX0_firstFit_9 : decode cX0_firstFit 9 = .ok (.iadd, 1) := by decide +kernel
theorem dX0_firstFit_10 : decode cX0_firstFit 10 = .ok (.istore 4, 2) := by decide +kernel
theorem dX0_firstFit_12 : decode cX0_firstFit 12 = .ok (.iload 4, 2) := by decide +kernel
theorem dX0_firstFit_14 : decode cX0_firstFit 14 = .ok (.iload_n 2, 1) := by decide +kernel
theorem dX0_firstFit_15 : decode cX0_firstFit 15 = .ok (.if_icmp .ge 37, 3) := by decide +kernel
theorem dX0_firstFit_18 : decode cX0_firstFit 18 = .ok (.aload_n 0, 1) := by decide +kernel
theorem dX0_firstFit_19 : decode cX0_firstFit 19 = .ok (.aload_n 1, 1) := by decide +kernel
theorem dX0_firstFit_20 : decode cX0_firstFit 20 = .ok (.iload_n 3, 1) := by decide +kernel
theorem dX0_firstFit_21 : decode cX0_firstFit 21 = .ok (.iconst 0, 1) := by decide +kernel
theorem dX0_firstFit_22 : decode cX0_firstFit 22 = .ok (.invokevirtual 67, 3) := by decide +kernel
theorem dX0_firstFit_25 : decode cX0_firstFit 25 = .ok (.aload_n 1, 1) := by decide +kernel
theorem dX0_firstFit_26 : decode cX0_firstFit 26 = .ok (.iload 4, 2) := by decide +kernel
theorem dX0_firstFit_28 : decode cX0_firstFit 28 = .ok (.iconst 0, 1) := by decide +kernel
theorem dX0_firstFit_29 : decode cX0_firstFit 29 = .ok (.invokevirtual 67, 3) := by decide +kernel
theorem dX0_firstFit_32 : decode cX0_firstFit 32 = .ok (.invokevirtual 72, 3) := by decide +kernel
theorem dX0_firstFit_35 : decode cX0_firstFit 35 = .ok (.ifCond .eq 11, 3) := by decide +kernel
theorem dX0_firstFit_38 : decode cX0_firstFit 38 = .ok (.bipush 10, 2) := by decide +kernel
theorem dX0_firstFit_40 : decode cX0_firstFit 40 = .ok (.iload_n 3, 1) := by decide +kernel
theorem dX0_firstFit_41 : decode cX0_firstFit 41 = .ok (.imul, 1) := by decide +kernel
theorem dX0_firstFit_42 : decode cX0_firstFit 42 = .ok (.iload 4, 2) := by decide +kernel
theorem dX0_firstFit_44 : decode cX0_firstFit 44 = .ok (.iadd, 1) := by decide +kernel
theorem dX0_firstFit_45 : decode cX0_firstFit 45 = .ok (.ireturn, 1) := by decide +kernel
theorem dX0_firstFit_46 : decode cX0_firstFit 46 = .ok (.iinc 4 1, 3) := by decide +kernel
theorem dX0_firstFit_49 : decode cX0_firstFit 49 = .ok (.goto (-37), 3) := by decide +kernel
theorem dX0_firstFit_52 : decode cX0_firstFit 52 = .ok (.iinc 3 1, 3) := by decide +kernel
theorem dX0_firstFit_55 : decode cX0_firstFit 55 = .ok (.goto (-53), 3) := by decide +kernel
theorem dX0_firstFit_58 : decode cX0_firstFit 58 = .ok (.iconst (-1), 1) := by decide +kernel
theorem dX0_firstFit_59 : decode cX0_firstFit 59 = .ok (.ireturn, 1) := by decide +kernel
theorem dX0_mostLeft_0 : decode cX0_mostLeft 0 = .ok (.iconst 0, 1) := by decide +kernel
theorem dX0_mostLeft_1 : decode cX0_mostLeft 1 = .ok (.istore 4, 2) := by decide +kernel
theorem dX0_mostLeft_3 : decode cX0_mostLeft 3 = .ok (.iconst 0, 1) := by decide +kernel
theorem dX0_mostLeft_4 : decode cX0_mostLeft 4 = .ok (.istore 5, 2) := by decide +kernel
theorem dX0_mostLeft_6 : decode cX0_mostLeft 6 = .ok (.iload 5, 2) := by decide +kernel
theorem dX0_mostLeft_8 : decode cX0_mostLeft 8 = .ok (.bipush 9, 2) := by decide +kernel
theorem dX0_mostLeft_10 : decode cX0_mostLeft 10 = .ok (.if_icmp .gt 25, 3) := by decide +kernel
theorem dX0_mostLeft_13 : decode cX0_mostLeft 13 = .ok (.iload 4, 2) := by decide +kernel
theorem dX0_mostLeft_15 : decode cX0_mostLeft 15 = .ok (.aload_n 0, 1) := by decide +kernel
theorem dX0_mostLeft_16 : decode cX0_mostLeft 16 = .ok (.aload_n 1, 1) := by decide +kernel
theorem dX0_mostLeft_17 : decode cX0_mostLeft 17 = .ok (.iload_n 2, 1) := by decide +kernel
theorem dX0_mostLeft_18 : decode cX0_mostLeft 18 = .ok (.iload_n 3, 1) := by decide +kernel
theorem dX0_mostLeft_19 : decode cX0_mostLeft 19 = .ok (.iload 5, 2) := by decide +kernel
theorem dX0_mostLeft_21 : decode cX0_mostLeft 21 = .ok (.invokevirtual 76, 3) := by decide +kernel
theorem dX0_mostLeft_24 : decode cX0_mostLeft 24 = .ok (.invokestatic 80, 3) := by decide +kernel
theorem dX0_mostLeft_27 : decode cX0_mostLeft 27 = .ok (.istore 4, 2) := by decide +kernel
theorem dX0_mostLeft_29 : decode cX0_mostLeft 29 = .ok (.iinc 5 1, 3) := by decide +kernel
theorem dX0_mostLeft_32 : decode cX0_mostLeft 32 = .ok (.goto (-26), 3) := by decide +kernel
theorem dX0_mostLeft_35 : decode cX0_mostLeft 35 = .ok (.iload 4, 2) := by decide +kernel
theorem dX0_mostLeft_37 : decode cX0_mostLeft 37 = .ok (.ireturn, 1) := by decide +kernel
theorem dX0_left_0 : decode cX0_left 0 = .ok (.iconst 0, 1) := by decide +kernel
theorem dX0_left_1 : decode cX0_left 1 = .ok (.istore 5, 2) := by decide +kernel
theorem dX0_left_3 : decode cX0_left 3 = .ok (.iconst 0, 1) := by decide +kernel
theorem dX0_left_4 : decode cX0_left 4 = .ok (.istore 6, 2) := by decide +kernel
theorem dX0_left_6 : decode cX0_left 6 = .ok (.iload 6, 2) := by decide +kernel
theorem dX0_left_8 : decode cX0_left 8 = .ok (.iload_n 2, 1) := by decide +kernel
theorem dX0_left_9 : decode cX0_left 9 = .ok (.if_icmp .ge 93, 3) := by decide +kernel
theorem dX0_left_12 : decode cX0_left 12 = .ok (.aload_n 1, 1) := by decide +kernel
theorem dX0_left_13 : decode cX0_left 13 = .ok (.iload 6, 2) := by decide +kernel
theorem dX0_left_15 : decode cX0_left 15 = .ok (.iconst 0, 1) := by decide +kernel
theorem dX0_left_16 : decode cX0_left 16 = .ok (.invokevirtual 67, 3) := by decide +kernel
theorem dX0_left_19 : decode cX0_left 19 = .ok (.istore 7, 2) := by decide +kernel
theorem dX0_left_21 : decode cX0_left 21 = .ok (.iload 6, 2) := by decide +kernel
theorem dX0_left_23 : decode cX0_left 23 = .ok (.iconst 1, 1) := by decide +kernel
theorem dX0_left_24 : decode cX0_left 24 = .ok (.iadd, 1) := by decide +kernel
theorem dX0_left_25 : decode cX0_left 25 = .ok (.istore 8, 2) := by decide +kernel
theorem dX0_left_27 : decode cX0_left 27 = .ok (.iload 8, 2) := by decide +kernel
theorem dX0_left_29 : decode cX0_left 29 = .ok (.iload_n 2, 1) := by decide +kernel
theorem dX0_left_30 : decode cX0_left 30 = .ok (.if_icmp .ge 66, 3) := by decide +kernel
theorem dX0_left_33 : decode cX0_left 33 = .ok (.aload_n 1, 1) := by decide +kernel
theorem dX0_left_34 : decode cX0_left 34 = .ok (.iload 8, 2) := by decide +kernel
theorem dX0_left_36 : decode cX0_left 36 = .ok (.iconst 0, 1) := by decide +kernel
theorem dX0_left_37 : decode cX0_left 37 = .ok (.invokevirtual 67, 3) := by decide +kernel
theorem dX0_left_40 : decode cX0_left 40 = .ok (.istore 9, 2) := by decide +kernel
theorem dX0_left_42 : decode cX0_left 42 = .ok (.iload 7, 2) := by decide +kernel
theorem dX0_left_44 : decode cX0_left 44 = .ok (.iload_n 3, 1) := by decide +kernel
theorem dX0_left_45 : decode cX0_left 45 = .ok (.invokestatic 63, 3) := by decide +kernel
theorem dX0_left_48 : decode cX0_left 48 = .ok (.iload 4, 2) := by decide +kernel
theorem dX0_left_50 : decode cX0_left 50 = .ok (.if_icmp .eq 14, 3) := by decide +kernel
theorem dX0_left_53 : decode cX0_left 53 = .ok (.iload 9, 2) := by decide +kernel
theorem dX0_left_55 : decode cX0_left 55 = .ok (.iload_n 3, 1) := by decide +kernel
theorem dX0_left_56 : decode cX0_left 56 = .ok (.invokestatic 63, 3) := by decide +kernel
theorem dX0_left_59 : decode cX0_left 59 = .ok (.iload 4, 2) := by decide +kernel
theorem dX0_left_61 : decode cX0_left 61 = .ok (.if_icmp .ne 7, 3) := by decide +kernel
theorem dX0_left_64 : decode cX0_left 64 = .ok (.iconst 1, 1) := by decide +kernel
theorem dX0_left_65 : decode cX0_left 65 = .ok (.goto 4, 3) := by decide +kernel
theorem dX0_left_68 : decode cX0_left 68 = .ok (.iconst 0, 1) := by decide +kernel
theorem dX0_left_69 : decode cX0_left 69 = .ok (.istore 10, 2) := by decide +kernel
theorem dX0_left_71 : decode cX0_left 71 = .ok (.iload 10, 2) := by decide +kernel
theorem dX0_left_73 : decode cX0_left 73 = .ok (.ifCond .eq 17, 3) := by decide +kernel
theorem dX0_left_76 : decode cX0_left 76 = .ok (.aload_n 0, 1) := by decide +kernel
theorem dX0_left_77 : decode cX0_left 77 = .ok (.iload 7, 2) := by decide +kernel
theorem dX0_left_79 : decode cX0_left 79 = .ok (.iload 9, 2) := by decide +kernel
theorem dX0_left_81 : decode cX0_left 81 = .ok (.invokevirtual 72, 3) := by decide +kernel
theorem dX0_left_84 : decode cX0_left 84 = .ok (.ifCond .eq 6, 3) := by decide +kernel
theorem dX0_left_87 : decode cX0_left 87 = .ok (.iinc 5 1, 3) := by decide +kernel
theorem dX0_left_90 : decode cX0_left 90 = .ok (.iinc 8 1, 3) := by decide +kernel
theorem dX0_left_93 : decode cX0_left 93 = .ok (.goto (-66), 3) := by decide +kernel
theorem dX0_left_96 : decode cX0_left 96 = .ok (.iinc 6 1, 3) := by decide +kernel
theorem dX0_left_99 : decode cX0_left 99 = .ok (.goto (-93), 3) := by decide +kernel
theorem dX0_left_102 : decode cX0_left 102 = .ok (.iload 5, 2) := by decide +kernel
theorem dX0_left_104 : decode cX0_left 104 = .ok (.ireturn, 1) := by decide +kernel
theorem dX1_init_0 : decode cX1_init 0 = .ok (.aload_n 0, 1) := by decide +kernel
theorem dX1_init_1 : decode cX1_init 1 = .ok (.invokespecial 3, 3) := by decide +kernel
theorem dX1_init_4 : decode cX1_init 4 = .ok (.aload_n 0, 1) := by decide +kernel
theorem dX1_init_5 : decode cX1_init 5 = .ok (.bipush 6, 2) := by decide +kernel
theorem dX1_init_7 : decode cX1_init 7 = .ok (.newarray .int, 2) := by decide +kernel
theorem dX1_init_9 : decode cX1_init 9 = .ok (.putfield 9, 3) := by decide +kernel
theorem dX1_init_12 : decode cX1_init 12 = .ok (.aload_n 0, 1) := by decide +kernel
theorem dX1_init_13 : decode cX1_init 13 = .ok (.bipush 6, 2) := by decide +kernel
theorem dX1_init_15 : decode cX1_init 15 = .ok (.newarray .int, 2) := by decide +kernel
theorem dX1_init_17 : decode cX1_init 17 = .ok (.putfield 15, 3) := by decide +kernel
theorem dX1_init_20 : decode cX1_init 20 = .ok (.aload_n 0, 1) := by decide +kernel
theorem dX1_init_21 : decode cX1_init 21 = .ok (.bipush 8, 2) := by decide +kernel
theorem dX1_init_23 : decode cX1_init 23 = .ok (.newarray .int, 2) := by decide +kernel
theorem dX1_init_25 : decode cX1_init 25 = .ok (.putfield 18, 3) := by decide +kernel
theorem dX1_init_28 : decode cX1_init 28 = .ok (.aload_n 0, 1) := by decide +kernel
theorem dX1_init_29 : decode cX1_init 29 = .ok (.bipush 8, 2) := by decide +kernel
theorem dX1_init_31 : decode cX1_init 31 = .ok (.newarray .int, 2) := by decide +kernel
theorem dX1_init_33 : decode cX1_init 33 = .ok (.putfield 21, 3) := by decide +kernel
theorem dX1_init_36 : decode cX1_init 36 = .ok (.aload_n 0, 1) := by decide +kernel
theorem dX1_init_37 : decode cX1_init 37 = .ok (.iconst 3, 1) := by decide +kernel
theorem dX1_init_38 : decode cX1_init 38 = .ok (.newarray .int, 2) := by decide +kernel
theorem dX1_init_40 : decode cX1_init 40 = .ok (.dup, 1) := by decide +kernel
theorem dX1_init_41 : decode cX1_init 41 = .ok (.iconst 0, 1) := by decide +kernel
theorem dX1_init_42 : decode cX1_init 42 = .ok (.bipush 50, 2) := by decide +kernel
theorem dX1_init_44 : decode cX1_init 44 = .ok (.iastore, 1) := by decide +kernel
theorem dX1_init_45 : decode cX1_init 45 = .ok (.dup, 1) := by decide +kernel
theorem dX1_init_46 : decode cX1_init 46 = .ok (.iconst 1, 1) := by decide +kernel
theorem dX1_init_47 : decode cX1_init 47 = .ok (.bipush 50, 2) := by decide +kernel
theorem dX1_init_49 : decode cX1_init 49 = .ok (.iastore, 1) := by decide +kernel
theorem dX1_init_50 : decode cX1_init 50 = .ok (.dup, 1) := by decide +kernel
theorem dX1_init_51 : decode cX1_init 51 = .ok (.iconst 2, 1) := by decide +kernel
theorem dX1_init_52 : decode cX1_init 52 = .ok (.bipush 50, 2) := by decide +kernel
theorem dX1_init_54 : decode cX1_init 54 = .ok (.iastore, 1) := by decide +kernel
theorem dX1_init_55 : decode cX1_init 55 = .ok (.putfield 24, 3) := by decide +kernel
theorem dX1_init_58 : decode cX1_init 58 = .ok (.aload_n 0, 1) := by decide +kernel
theorem dX1_init_59 : decode cX1_init 59 = .ok (.iconst 5, 1) := by decide +kernel
theorem dX1_init_60 : decode cX1_init 60 = .ok (.putfield 27, 3) := by decide +kernel
theorem dX1_init_63 : decode cX1_init 63 = .ok (.return_, 1) := by decide +kernel
theorem dX1_read_0 : decode cX1_read 0 = .ok (.iconst 0, 1) := by decide +kernel
theorem dX1_read_1 : decode cX1_read 1 = .ok (.istore_n 2, 1) := by decide +kernel
theorem dX1_read_2 : decode cX1_read 2 = .ok (.iload_n 2, 1) := by decide +kernel
theorem dX1_read_3 : decode cX1_read 3 = .ok (.sipush 600, 3) := by decide +kernel
theorem dX1_read_6 : decode cX1_read 6 = .ok (.if_icmp .ge 36, 3) := by decide +kernel
theorem dX1_read_9 : decode cX1_read 9 = .ok (.aload_n 1, 1) := by decide +kernel
theorem dX1_read_10 : decode cX1_read 10 = .ok (.invokevirtual 31, 3) := by decide +kernel
theorem dX1_read_13 : decode cX1_read 13 = .ok (.ifCond .ne 29, 3) := by decide +kernel
theorem dX1_read_16 : decode cX1_read 16 = .ok (.aload_n 1, 1) := by decide +kernel
theorem dX1_read_17 : decode cX1_read 17 = .ok (.invokevirtual 37, 3) := by decide +kernel
theorem dX1_read_20 : decode cX1_read 20 = .ok (.iconst (-1), 1) := by decide +kernel
theorem dX1_read_21 : decode cX1_read 21 = .ok (.if_icmp .eq 21, 3) := by decide +kernel
theorem dX1_read_24 : decode cX1_read 24 = .ok (.aload_n 0, 1) := by decide +kernel
theorem dX1_read_25 : decode cX1_read 25 = .ok (.aload_n 1, 1) := by decide +kernel
theorem dX1_read_26 : decode cX1_read 26 = .ok (.iload_n 2, 1) := by decide +kernel
theorem dX1_read_27 : decode cX1_read 27 = .ok (.invokevirtual 41, 3) := by decide +kernel
theorem dX1_read_30 : decode cX1_read 30 = .ok (.aload_n 1, 1) := by decide +kernel
theorem dX1_read_31 : decode cX1_read 31 = .ok (.bipush 59, 2) := by decide +kernel
theorem dX1_read_33 : decode cX1_read 33 = .ok (.invokevirtual 45, 3) := by decide +kernel
theorem dX1_read_36 : decode cX1_read 36 = .ok (.iinc 2 1, 3) := by decide +kernel
theorem dX1_read_39 : decode cX1_read 39 = .ok (.goto (-37), 3) := by decide +kernel
theorem dX1_read_42 : decode cX1_read 42 = .ok (.return_, 1) := by decide +kernel
theorem dX1_readClause_0 : decode cX1_readClause 0 = .ok (.aload_n 1, 1) := by decide +kernel
theorem dX1_readClause_1 : decode cX1_readClause 1 = .ok (.ldc 49, 2) := by decide +kernel
theorem dX1_readClause_3 : decode cX1_readClause 3 = .ok (.invokevirtual 51, 3) := by decide +kernel
theorem dX1_readClause_6 : decode cX1_readClause 6 = .ok (.istore_n 3, 1) := by decide +kernel
theorem dX1_readClause_7 : decode cX1_readClause 7 = .ok (.iload_n 2, 1) := by decide +kernel
theorem dX1_readClause_8 : decode cX1_readClause 8 = .ok (.bipush 60, 2) := by decide +kernel
theorem dX1_readClause_10 : decode cX1_readClause 10 = .ok (.if_icmp .ge 30, 3) := by decide +kernel
theorem dX1_readClause_13 : decode cX1_readClause 13 = .ok (.iload_n 3, 1) := by decide +kernel
theorem dX1_readClause_14 : decode cX1_readClause 14 = .ok (.ifCond .ne 12, 3) := by decide +kernel
theorem dX1_readClause_17 : decode cX1_readClause 17 = .ok (.aload_n 0, 1) := by decide +kernel
theorem dX1_readClause_18 : decode cX1_readClause 18 = .ok (.getfield 55, 3) := by decide +kernel
theorem dX1_readClause_21 : decode cX1_readClause 21 = .ok (.bipush 6, 2) := by decide +kernel
theorem dX1_readClause_23 : decode cX1_readClause 23 = .ok (.if_icmp .ge 17, 3) := by decide +kernel
theorem dX1_readClause_26 : decode cX1_readClause 26 = .ok (.iload_n 3, 1) := by decide +kernel
theorem dX1_readClause_27 : decode cX1_readClause 27 = .ok (.iconst 1, 1) := by decide +kernel
theorem dX1_readClause_28 : decode cX1_readClause 28 = .ok (.if_icmp .ne 16, 3) := by decide +kernel
theorem dX1_readClause_31 : decode cX1_readClause 31 = .ok (.aload_n 0, 1) := by decide +kernel
theorem dX1_readClause_32 : decode cX1_readClause 32 = .ok (.getfield 58, 3) := by decide +kernel
theorem dX1_readClause_35 : decode cX1_readClause 35 = .ok (.bipush 8, 2) := by decide +kernel
theorem dX1_readClause_37 : decode cX1_readClause 37 = .ok (.if_icmp .lt 7, 3) := by decide +kernel
theorem dX1_readClause_40 : decode cX1_readClause 40 = .ok (.iconst 1, 1) := by decide +kernel
theorem dX1_readClause_41 : decode cX1_readClause 41 = .ok (.goto 4, 3) := by decide +kernel
theorem dX1_readClause_44 : decode cX1_readClause 44 = .ok (.iconst 0, 1) := by decide +kernel
theorem dX1_readClause_45 : decode cX1_readClause 45 = .ok (.istore 4, 2) := by decide +kernel
theorem dX1_readClause_47 : decode cX1_readClause 47 = .ok (.iload_n 3, 1) := by decide +kernel
theorem dX1_readClause_48 : decode cX1_readClause 48 = .ok (.iconst (-1), 1) := by decide +kernel
theorem dX1_readClause_49 : decode cX1_readClause 49 = .ok (.if_icmp .ne 15, 3) := by decide +kernel
theorem dX1_readClause_52 : decode cX1_readClause 52 = .ok (.aload_n 1, 1) := by decide +kernel
theorem dX1_readClause_53 : decode cX1_readClause 53 = .ok (.iconst 1, 1) := by decide +kernel
theorem dX1_readClause_54 : decode cX1_readClause 54 = .ok (.aload_n 1, 1) := by decide +kernel
theorem dX1_readClause_55 : decode cX1_readClause 55 = .ok (.getfield 61, 3) := by decide +kernel
theorem dX1_readClause_58 : decode cX1_readClause 58 = .ok (.invokevirtual 64, 3) := by decide +kernel
theorem dX1_readClause_61 : decode cX1_readClause 61 = .ok (.goto 26, 3) := by decide +kernel
theorem dX1_readClause_64 : decode cX1_readClause 64 = .ok (.iload 4, 2) := by decide +kernel
theorem dX1_readClause_66 : decode cX1_readClause 66 = .ok (.ifCond .eq 15, 3) := by decide +kernel
theorem dX1_readClause_69 : decode cX1_readClause 69 = .ok (.aload_n 1, 1) := by decide +kernel
theorem dX1_readClause_70 : decode cX1_readClause 70 = .ok (.iconst 3, 1) := by decide +kernel
theorem dX1_readClause_71 : decode cX1_readClause 71 = .ok (.aload_n 1, 1) := by decide +kernel
theorem dX1_readClause_72 : decode cX1_readClause 72 = .ok (.getfield 68, 3) := by decide +kernel
theorem dX1_readClause_75 : decode cX1_readClause 75 = .ok (.invokevirtual 64, 3) := by decide +kernel
theorem dX1_readClause_78 : decode cX1_readClause 78 = .ok (.goto 9, 3) := by decide +kernel
theorem dX1_readClause_81 : decode cX1_readClause 81 = .ok (.aload_n 0, 1) := by decide +kernel
theorem dX1_readClause_82 : decode cX1_readClause 82 = .ok (.aload_n 1, 1) := by decide +kernel
theorem dX1_readClause_83 : decode cX1_readClause 83 = .ok (.iload_n 3, 1) := by decide +kernel
theorem dX1_readClause_84 : decode cX1_readClause 84 = .ok (.invokevirtual 71, 3) := by decide +kernel
theorem dX1_readClause_87 : decode cX1_readClause 87 = .ok (.return_, 1) := by decide +kernel
theorem dX1_readRest_0 : decode cX1_readRest 0 = .ok (.iload_n 2, 1) := by decide +kernel
theorem dX1_readRest_1 : decode cX1_readRest 1 = .ok (.ifCond .ne 77, 3) := by decide +kernel
theorem dX1_readRest_4 : decode cX1_readRest 4 = .ok (.iconst 0, 1) := by decide +kernel
theorem dX1_readRest_5 : decode cX1_readRest 5 = .ok (.istore_n 3, 1) := by decide +kernel
theorem dX1_readRest_6 : decode cX1_readRest 6 = .ok (.iconst 0, 1) := by decide +kernel
theorem dX1_readRest_7 : decode cX1_readRest 7 = .ok (.istore 4, 2) := by decide +kernel
theorem dX1_readRest_9 : decode cX1_readRest 9 = .ok (.iload 4, 2) := by decide +kernel
theorem dX1_readRest_11 : decode cX1_readRest 11 = .ok (.iconst 3, 1) := by decide +kernel
theorem dX1_readRest_12 : decode cX1_readRest 12 = .ok (.if_icmp .ge 24, 3) := by decide +kernel
theorem dX1_readRest_15 : decode cX1_readRest 15 = .ok (.iload_n 3, 1) := by decide +kernel
theorem dX1_readRest_16 : decode cX1_readRest 16 = .ok (.aload_n 1, 1) := by decide +kernel
theorem dX1_readRest_17 : decode cX1_readRest 17 = .ok (.bipush 9, 2) := by decide +kernel
theorem dX1_readRest_19 : decode cX1_readRest 19 = .ok (.invokevirtual 74, 3) := by decide +kernel
theorem dX1_readRest_22 : decode cX1_readRest 22 = .ok (.iload 4, 2) := by decide +kernel
theorem dX1_readRest_24 : decode cX1_readRest 24 = .ok (.invokestatic 78, 3) := by decide +kernel
theorem dX1_readRest_27 : decode cX1_readRest 27 = .ok (.imul, 1) := by decide +kernel
theorem dX1_readRest_28 : decode cX1_readRest 28 = .ok (.iadd, 1) := by decide +kernel
theorem dX1_readRest_29 : decode cX1_readRest 29 = .ok (.istore_n 3, 1) := by decide +kernel
theorem dX1_readRest_30 : decode cX1_readRest 30 = .ok (.iinc 4 1, 3) := by decide +kernel
theorem dX1_readRest_33 : decode cX1_readRest 33 = .ok (.goto (-24), 3) := by decide +kernel
theorem dX1_readRest_36 : decode cX1_readRest 36 = .ok (.aload_n 0, 1) := by decide +kernel
theorem dX1_readRest_37 : decode cX1_readRest 37 = .ok (.getfield 9, 3) := by decide +kernel
theorem dX1_readRest_40 : decode cX1_readRest 40 = .ok (.aload_n 0, 1) := by decide +kernel
theorem dX1_readRest_41 : decode cX1_readRest 41 = .ok (.getfield 55, 3) := by decide +kernel
theorem dX1_readRest_44 : decode cX1_readRest 44 = .ok (.iload_n 3, 1) := by decide +kernel
theorem dX1_readRest_45 : decode cX1_readRest 45 = .ok (.invokestatic 81, 3) := by decide +kernel
theorem dX1_readRest_48 : decode cX1_readRest 48 = .ok (.aload_n 0, 1) := by decide +kernel
theorem dX1_readRest_49 : decode cX1_readRest 49 = .ok (.getfield 15, 3) := by decide +kernel
theorem dX1_readRest_52 : decode cX1_readRest 52 = .ok (.aload_n 0, 1) := by decide +kernel
theorem dX1_readRest_53 : decode cX1_readRest 53 = .ok (.getfield 55, 3) := by decide +kernel
theorem dX1_readRest_56 : decode cX1_readRest 56 = .ok (.aload_n 1, 1) := by decide +kernel
theorem dX1_readRest_57 : decode cX1_readRest 57 = .ok (.bipush 9, 2) := by decide +kernel
theorem dX1_readRest_59 : decode cX1_readRest 59 = .ok (.invokevirtual 74, 3) := by decide +kernel
theorem dX1_readRest_62 : decode cX1_readRest 62 = .ok (.invokestatic 81, 3) := by decide +kernel
theorem dX1_readRest_65 : decode cX1_readRest 65 = .ok (.aload_n 0, 1) := by decide +kernel
theorem dX1_readRest_66 : decode cX1_readRest 66 = .ok (.dup, 1) := by decide +kernel
theorem dX1_readRest_67 : decode cX1_readRest 67 = .ok (.getfield 55, 3) := by decide +kernel
theorem dX1_readRest_70 : decode cX1_readRest 70 = .ok (.iconst 1, 1) := by decide +kernel
theorem dX1_readRest_71 : decode cX1_readRest 71 = .ok (.iadd, 1) := by decide +kernel
theorem dX1_readRest_72 : decode cX1_readRest 72 = .ok (.putfield 55, 3) := by decide +kernel
theorem dX1_readRest_75 : decode cX1_readRest 75 = .ok (.goto 98, 3) := by decide +kernel
theorem dX1_readRest_78 : decode cX1_readRest 78 = .ok (.iload_n 2, 1) := by decide +kernel
theorem dX1_readRest_79 : decode cX1_readRest 79 = .ok (.iconst 1, 1) := by decide +kernel
theorem dX1_readRest_80 : decode cX1_readRest 80 = .ok (.if_icmp .ne 54, 3) := by decide +kernel
theorem dX1_readRest_83 : decode cX1_readRest 83 = .ok (.aload_n 0, 1) := by decide +kernel
theorem dX1_readRest_84 : decode cX1_readRest 84 = .ok (.getfield 18, 3) := by decide +kernel
theorem dX1_readRest_87 : decode cX1_readRest 87 = .ok (.aload_n 0, 1) := by decide +kernel
theorem dX1_readRest_88 : decode cX1_readRest 88 = .ok (.getfield 58, 3) := by decide +kernel
theorem dX1_readRest_91 : decode cX1_readRest 91 = .ok (.aload_n 1, 1) := by decide +kernel
theorem dX1_readRest_92 : decode cX1_readRest 92 = .ok (.aload_n 0, 1) := by decide +kernel
theorem dX1_readRest_93 : decode cX1_readRest 93 = .ok (.getfield 55, 3) := by decide +kernel
theorem dX1_readRest_96 : decode cX1_readRest 96 = .ok (.iconst 1, 1) := by decide +kernel
theorem dX1_readRest_97 : decode cX1_readRest 97 = .ok (.isub, 1) := by decide +kernel
theorem dX1_readRest_98 : decode cX1_readRest 98 = .ok (.invokevirtual 74, 3) := by decide +kernel
theorem dX1_readRest_101 : decode cX1_readRest 101 = .ok (.invokestatic 81, 3) := by decide +kernel
theorem dX1_readRest_104 : decode cX1_readRest 104 = .ok (.aload_n 0, 1) := by decide +kernel
theorem dX1_readRest_105 : decode cX1_readRest 105 = .ok (.getfield 21, 3) := by decide +kernel
theorem dX1_readRest_108 : decode cX1_readRest 108 = .ok (.aload_n 0, 1) := by decide +kernel
theorem dX1_readRest_109 : decode cX1_readRest 109 = .ok (.getfield 58, 3) := by decide +kernel
theorem dX1_readRest_112 : decode cX1_readRest 112 = .ok (.aload_n 1, 1) := by decide +kernel
theorem dX1_readRest_113 : decode cX1_readRest 113 = .ok (.bipush 60, 2) := by decide +kernel
theorem dX1_readRest_115 : decode cX1_readRest 115 = .ok (.invokevirtual 74, 3) := by decide +kernel
theorem dX1_readRest_118 : decode cX1_readRest 118 = .ok (.invokestatic 81, 3) := by decide +kernel
theorem dX1_readRest_121 : decode cX1_readRest 121 = .ok (.aload_n 0, 1) := by decide +kernel
theorem dX1_readRest_122 : decode cX1_readRest 122 = .ok (.dup, 1) := by decide +kernel
theorem dX1_readRest_123 : decode cX1_readRest 123 = .ok (.getfield 58, 3) := by decide +kernel
theorem dX1_readRest_126 : decode cX1_readRest 126 = .ok (.iconst 1, 1) := by decide +kernel
theorem dX1_readRest_127 : decode cX1_readRest 127 = .ok (.iadd, 1) := by decide +kernel
theorem dX1_readRest_128 : decode cX1_readRest 128 = .ok (.putfield 58, 3) := by decide +kernel
theorem dX1_readRest_131 : decode cX1_readRest 131 = .ok (.goto 42, 3) := by decide +kernel
theorem dX1_readRest_134 : decode cX1_readRest 134 = .ok (.iload_n 2, 1) := by decide +kernel
theorem dX1_readRest_135 : decode cX1_readRest 135 = .ok (.iconst 2, 1) := by decide +kernel
theorem dX1_readRest_136 : decode cX1_readRest 136 = .ok (.if_icmp .ne 27, 3) := by decide +kernel
theorem dX1_readRest_139 : decode cX1_readRest 139 = .ok (.aload_n 1, 1) := by decide +kernel
theorem dX1_readRest_140 : decode cX1_readRest 140 = .ok (.iconst 2, 1) := by decide +kernel
theorem dX1_readRest_141 : decode cX1_readRest 141 = .ok (.invokevirtual 74, 3) := by decide +kernel
theorem dX1_readRest_144 : decode cX1_readRest 144 = .ok (.istore_n 3, 1) := by decide +kernel
theorem dX1_readRest_145 : decode cX1_readRest 145 = .ok (.aload_n 0, 1) := by decide +kernel
theorem dX1_readRest_146 : decode cX1_readRest 146 = .ok (.getfield 24, 3) := by decide +kernel
theorem dX1_readRest_149 : decode cX1_readRest 149 = .ok (.iload_n 3, 1) := by decide +kernel
theorem dX1_readRest_150 : decode cX1_readRest 150 = .ok (.aload_n 1, 1) := by decide +kernel
theorem dX1_readRest_151 : decode cX1_readRest 151 = .ok (.sipush 200, 3) := by decide +kernel
theorem dX1_readRest_154 : decode cX1_readRest 154 = .ok (.invokevirtual 74, 3) := by decide +kernel
theorem dX1_readRest_157 : decode cX1_readRest 157 = .ok (.invokestatic 81, 3) := by decide +kernel
theorem dX1_readRest_160 : decode cX1_readRest 160 = .ok (.goto 13, 3) := by decide +kernel
theorem dX1_readRest_163 : decode cX1_readRest 163 = .ok (.aload_n 0, 1) := by decide +kernel
theorem dX1_readRest_164 : decode cX1_readRest 164 = .ok (.aload_n 1, 1) := by decide +kernel
theorem dX1_readRest_165 : decode cX1_readRest 165 = .ok (.bipush 20, 2) := by decide +kernel
theorem dX1_readRest_167 : decode cX1_readRest 167 = .ok (.invokevirtual 74, 3) := by decide +kernel
theorem dX1_readRest_170 : decode cX1_readRest 170 = .ok (.putfield 27, 3) := by decide +kernel
theorem dX1_readRest_173 : decode cX1_readRest 173 = .ok (.return_, 1) := by decide +kernel
theorem dX1_hasStreet_0 : decode cX1_hasStreet 0 = .ok (.iload_n 1, 1) := by decide +kernel
theorem dX1_hasStreet_1 : decode cX1_hasStreet 1 = .ok (.ifCond .lt 15, 3) := by decide +kernel
theorem dX1_hasStreet_4 : decode cX1_hasStreet 4 = .ok (.iload_n 1, 1) := by decide +kernel
theorem dX1_hasStreet_5 : decode cX1_hasStreet 5 = .ok (.aload_n 0, 1) := by decide +kernel
theorem dX1_hasStreet_6 : decode cX1_hasStreet 6 = .ok (.getfield 55, 3) := by decide +kernel
theorem dX1_hasStreet_9 : decode cX1_hasStreet 9 = .ok (.if_icmp .ge 7, 3) := by decide +kernel
theorem dX1_hasStreet_12 : decode cX1_hasStreet 12 = .ok (.iconst 1, 1) := by decide +kernel
theorem dX1_hasStreet_13 : decode cX1_hasStreet 13 = .ok (.goto 4, 3) := by decide +kernel
theorem dX1_hasStreet_16 : decode cX1_hasStreet 16 = .ok (.iconst 0, 1) := by decide +kernel
theorem dX1_hasStreet_17 : decode cX1_hasStreet 17 = .ok (.ireturn, 1) := by decide +kernel
theorem dX1_hasPerson_0 : decode cX1_hasPerson 0 = .ok (.iload_n 1, 1) := by decide +kernel
theorem dX1_hasPerson_1 : decode cX1_hasPerson 1 = .ok (.ifCond .lt 15, 3) := by decide +kernel
theorem dX1_hasPerson_4 : decode cX1_hasPerson 4 = .ok (.iload_n 1, 1) := by decide +kernel
theorem dX1_hasPerson_5 : decode cX1_hasPerson 5 = .ok (.aload_n 0, 1) := by decide +kernel
theorem dX1_hasPerson_6 : decode cX1_hasPerson 6 = .ok (.getfield 58, 3) := by decide +kernel
theorem dX1_hasPerson_9 : decode cX1_hasPerson 9 = .ok (.if_icmp .ge 7, 3) := by decide +kernel
theorem dX1_hasPerson_12 : decode cX1_hasPerson 12 = .ok (.iconst 1, 1) := by decide +kernel
theorem dX1_hasPerson_13 : decode cX1_hasPerson 13 = .ok (.goto 4, 3) := by decide +kernel
theorem dX1_hasPerson_16 : decode cX1_hasPerson 16 = .ok (.iconst 0, 1) := by decide +kernel
theorem dX1_hasPerson_17 : decode cX1_hasPerson 17 = .ok (.ireturn, 1) := by decide +kernel
theorem dX1_vatOf_0 : decode cX1_vatOf 0 = .ok (.aload_n 0, 1) := by decide +kernel
theorem dX1_vatOf_1 : decode cX1_vatOf 1 = .ok (.getfield 9, 3) := by decide +kernel
theorem dX1_vatOf_4 : decode cX1_vatOf 4 = .ok (.iload_n 1, 1) := by decide +kernel
theorem dX1_vatOf_5 : decode cX1_vatOf 5 = .ok (.invokestatic 85, 3) := by decide +kernel
theorem dX1_vatOf_8 : decode cX1_vatOf 8 = .ok (.ireturn, 1) := by decide +kernel
theorem dX1_rankOf_0 : decode cX1_rankOf 0 = .ok (.aload_n 0, 1) := by decide +kernel
theorem dX1_rankOf_1 : decode cX1_rankOf 1 = .ok (.getfield 15, 3) := by decide +kernel
theorem dX1_rankOf_4 : decode cX1_rankOf 4 = .ok (.iload_n 1, 1) := by decide +kernel
theorem dX1_rankOf_5 : decode cX1_rankOf 5 = .ok (.invokestatic 85, 3) := by decide +kernel
theorem dX1_rankOf_8 : decode cX1_rankOf 8 = .ok (.ireturn, 1) := by decide +kernel
theorem dX1_homeOf_0 : decode cX1_homeOf 0 = .ok (.aload_n 0, 1) := by decide +kernel
theorem dX1_homeOf_1 : decode cX1_homeOf 1 = .ok (.getfield 18, 3) := by decide +kernel
theorem dX1_homeOf_4 : decode cX1_homeOf 4 = .ok (.iload_n 1, 1) := by decide +kernel
theorem dX1_homeOf_5 : decode cX1_homeOf 5 = .ok (.invokestatic 85, 3) := by decide +kernel
theorem dX1_homeOf_8 : decode cX1_homeOf 8 = .ok (.ireturn, 1) := by decide +kernel
theorem dX1_bornIn_0 : decode cX1_bornIn 0 = .ok (.iconst 0, 1) := by decide +kernel
theorem dX1_bornIn_1 : decode cX1_bornIn 1 = .ok (.istore_n 2, 1) := by decide +kernel
theorem dX1_bornIn_2 : decode cX1_bornIn 2 = .ok (.iconst 0, 1) := by decide +kernel
theorem dX1_bornIn_3 : decode cX1_bornIn 3 = .ok (.istore_n 3, 1) := by decide +kernel
theorem dX1_bornIn_4 : decode cX1_bornIn 4 = .ok (.iload_n 3, 1) := by decide +kernel
theorem dX1_bornIn_5 : decode cX1_bornIn 5 = .ok (.aload_n 0, 1) := by decide +kernel
theorem dX1_bornIn_6 : decode cX1_bornIn 6 = .ok (.getfield 58, 3) := by decide +kernel
theorem dX1_bornIn_9 : decode cX1_bornIn 9 = .ok (.if_icmp .ge 21, 3) := by decide +kernel
theorem dX1_bornIn_12 : decode cX1_bornIn 12 = .ok (.aload_n 0, 1) := by decide +kernel
theorem dX1_bornIn_13 : decode cX1_bornIn 13 = .ok (.iload_n 3, 1) := by decide +kernel
theorem dX1_bornIn_14 : decode cX1_bornIn 14 = .ok (.invokevirtual 89, 3) := by decide +kernel
theorem dX1_bornIn_17 : decode cX1_bornIn 17 = .ok (.iload_n 1, 1) := by decide +kernel
theorem dX1_bornIn_18 : decode cX1_bornIn 18 = .ok (.if_icmp .ne 6, 3) := by decide +kernel
theorem dX1_bornIn_21 : decode cX1_bornIn 21 = .ok (.iinc 2 1, 3) := by decide +kernel
theorem dX1_bornIn_24 : decode cX1_bornIn 24 = .ok (.iinc 3 1, 3) := by decide +kernel
theorem dX1_bornIn_27 : decode cX1_bornIn 27 = .ok (.goto (-23), 3) := by decide +kernel
theorem dX1_bornIn_30 : decode cX1_bornIn 30 = .ok (.iload_n 2, 1) := by decide +kernel
theorem dX1_bornIn_31 : decode cX1_bornIn 31 = .ok (.ireturn, 1) := by decide +kernel
theorem dX1_nearest_0 : decode cX1_nearest 0 = .ok (.iconst (-1), 1) := by decide +kernel
theorem dX1_nearest_1 : decode cX1_nearest 1 = .ok (.istore_n 2, 1) := by decide +kernel
theorem dX1_nearest_2 : decode cX1_nearest 2 = .ok (.iconst 0, 1) := by decide +kernel
theorem dX1_nearest_3 : decode cX1_nearest 3 = .ok (.istore_n 3, 1) := by decide +kernel
theorem dX1_nearest_4 : decode cX1_nearest 4 = .ok (.iconst 0, 1) := by decide +kernel
theorem dX1_nearest_5 : decode cX1_nearest 5 = .ok (.istore 4, 2) := by decide +kernel
theorem dX1_nearest_7 : decode cX1_nearest 7 = .ok (.iload 4, 2) := by decide +kernel
theorem dX1_nearest_9 : decode cX1_nearest 9 = .ok (.aload_n 0, 1) := by decide +kernel
theorem dX1_nearest_10 : decode cX1_nearest 10 = .ok (.getfield 55, 3) := by decide +kernel
theorem dX1_nearest_13 : decode cX1_nearest 13 = .ok (.if_icmp .ge 38, 3) := by decide +kernel
theorem dX1_nearest_16 : decode cX1_nearest 16 = .ok (.iload_n 1, 1) := by decide +kernel
theorem dX1_nearest_17 : decode cX1_nearest 17 = .ok (.aload_n 0, 1) := by decide +kernel
theorem dX1_nearest_18 : decode cX1_nearest 18 = .ok (.iload 4, 2) := by decide +kernel
theorem dX1_nearest_20 : decode cX1_nearest 20 = .ok (.invokevirtual 92, 3) := by decide +kernel
theorem dX1_nearest_23 : decode cX1_nearest 23 = .ok (.invokestatic 95, 3) := by decide +kernel
theorem dX1_nearest_26 : decode cX1_nearest 26 = .ok (.istore 5, 2) := by decide +kernel
theorem dX1_nearest_28 : decode cX1_nearest 28 = .ok (.iload_n 2, 1) := by decide +kernel
theorem dX1_nearest_29 : decode cX1_nearest 29 = .ok (.iconst (-1), 1) := by decide +kernel
theorem dX1_nearest_30 : decode cX1_nearest 30 = .ok (.if_icmp .eq 9, 3) := by decide +kernel
theorem dX1_nearest_33 : decode cX1_nearest 33 = .ok (.iload 5, 2) := by decide +kernel
theorem dX1_nearest_35 : decode cX1_nearest 35 = .ok (.iload_n 3, 1) := by decide +kernel
theorem dX1_nearest_36 : decode cX1_nearest 36 = .ok (.if_icmp .ge 9, 3) := by decide +kernel
theorem dX1_nearest_39 : decode cX1_nearest 39 = .ok (.iload 4, 2) := by decide +kernel
theorem dX1_nearest_41 : decode cX1_nearest 41 = .ok (.istore_n 2, 1) := by decide +kernel
theorem dX1_nearest_42 : decode cX1_nearest 42 = .ok (.iload 5, 2) := by decide +kernel
theorem dX1_nearest_44 : decode cX1_nearest 44 = .ok (.istore_n 3, 1) := by decide +kernel
theorem dX1_nearest_45 : decode cX1_nearest 45 = .ok (.iinc 4 1, 3) := by decide +kernel
theorem dX1_nearest_48 : decode cX1_nearest 48 = .ok (.goto (-41), 3) := by decide +kernel
theorem dX1_nearest_51 : decode cX1_nearest 51 = .ok (.iload_n 2, 1) := by decide +kernel
theorem dX1_nearest_52 : decode cX1_nearest 52 = .ok (.ireturn, 1) := by decide +kernel
theorem dX2_init_0 : decode cX2_init 0 = .ok (.aload_n 0, 1) := by decide +kernel
theorem dX2_init_1 : decode cX2_init 1 = .ok (.invokespecial 3, 3) := by decide +kernel
theorem dX2_init_4 : decode cX2_init 4 = .ok (.aload_n 0, 1) := by decide +kernel
theorem dX2_init_5 : decode cX2_init 5 = .ok (.sipush 256, 3) := by decide +kernel
theorem dX2_init_8 : decode cX2_init 8 = .ok (.newarray .int, 2) := by decide +kernel
theorem dX2_init_10 : decode cX2_init 10 = .ok (.putfield 9, 3) := by decide +kernel
theorem dX2_init_13 : decode cX2_init 13 = .ok (.aload_n 0, 1) := by decide +kernel
theorem dX2_init_14 : decode cX2_init 14 = .ok (.bipush 64, 2) := by decide +kernel
theorem dX2_init_16 : decode cX2_init 16 = .ok (.newarray .int, 2) := by decide +kernel
theorem dX2_init_18 : decode cX2_init 18 = .ok (.putfield 15, 3) := by decide +kernel
theorem dX2_init_21 : decode cX2_init 21 = .ok (.aload_n 0, 1) := by decide +kernel
theorem dX2_init_22 : decode cX2_init 22 = .ok (.bipush 8, 2) := by decide +kernel
theorem dX2_init_24 : decode cX2_init 24 = .ok (.newarray .int, 2) := by decide +kernel
theorem dX2_init_26 : decode cX2_init 26 = .ok (.putfield 18, 3) := by decide +kernel
theorem dX2_init_29 : decode cX2_init 29 = .ok (.return_, 1) := by decide +kernel
theorem dX2_arrange_0 : decode cX2_arrange 0 = .ok (.aload_n 0, 1) := by decide +kernel
theorem dX2_arrange_1 : decode cX2_arrange 1 = .ok (.aload_n 1, 1) := by decide +kernel
theorem dX2_arrange_2 : decode cX2_arrange 2 = .ok (.aload_n 2, 1) := by decide +kernel
theorem dX2_arrange_3 : decode cX2_arrange 3 = .ok (.invokevirtual 21, 3) := by decide +kernel
theorem dX2_arrange_6 : decode cX2_arrange 6 = .ok (.iconst 1, 1) := by decide +kernel
theorem dX2_arrange_7 : decode cX2_arrange 7 = .ok (.aload_n 1, 1) := by decide +kernel
theorem dX2_arrange_8 : decode cX2_arrange 8 = .ok (.getfield 25, 3) := by decide +kernel
theorem dX2_arrange_11 : decode cX2_arrange 11 = .ok (.ishl, 1) := by decide +kernel
theorem dX2_arrange_12 : decode cX2_arrange 12 = .ok (.iconst 1, 1) := by decide +kernel
theorem dX2_arrange_13 : decode cX2_arrange 13 = .ok (.isub, 1) := by decide +kernel
theorem dX2_arrange_14 : decode cX2_arrange 14 = .ok (.istore_n 3, 1) := by decide +kernel
theorem dX2_arrange_15 : decode cX2_arrange 15 = .ok (.iconst 1, 1) := by decide +kernel
theorem dX2_arrange_16 : decode cX2_arrange 16 = .ok (.istore 4, 2) := by decide +kernel
theorem dX2_arrange_18 : decode cX2_arrange 18 = .ok (.iload 4, 2) := by decide +kernel
theorem dX2_arrange_20 : decode cX2_arrange 20 = .ok (.iload_n 3, 1) := by decide +kernel
theorem dX2_arrange_21 : decode cX2_arrange 21 = .ok (.if_icmp .gt 28, 3) := by decide +kernel
theorem dX2_arrange_24 : decode cX2_arrange 24 = .ok (.aload_n 0, 1) := by decide +kernel
theorem dX2_arrange_25 : decode cX2_arrange 25 = .ok (.getfield 9, 3) := by decide +kernel
theorem dX2_arrange_28 : decode cX2_arrange 28 = .ok (.iload 4, 2) := by decide +kernel
theorem dX2_arrange_30 : decode cX2_arrange 30 = .ok (.aload_n 0, 1) := by decide +kernel
theorem dX2_arrange_31 : decode cX2_arrange 31 = .ok (.aload_n 1, 1) := by decide +kernel
theorem dX2_arrange_32 : decode cX2_arrange 32 = .ok (.getfield 25, 3) := by decide +kernel
theorem dX2_arrange_35 : decode cX2_arrange 35 = .ok (.iload 4, 2) := by decide +kernel
theorem dX2_arrange_37 : decode cX2_arrange 37 = .ok (.invokevirtual 31, 3) := by decide +kernel
theorem dX2_arrange_40 : decode cX2_arrange 40 = .ok (.invokestatic 35, 3) := by decide +kernel
theorem dX2_arrange_43 : decode cX2_arrange 43 = .ok (.iinc 4 1, 3) := by decide +kernel
theorem dX2_arrange_46 : decode cX2_arrange 46 = .ok (.goto (-28), 3) := by decide +kernel
theorem dX2_arrange_49 : decode cX2_arrange 49 = .ok (.aload_n 0, 1) := by decide +kernel
theorem dX2_arrange_50 : decode cX2_arrange 50 = .ok (.aload_n 1, 1) := by decide +kernel
theorem dX2_arrange_51 : decode cX2_arrange 51 = .ok (.getfield 25, 3) := by decide +kernel
theorem dX2_arrange_54 : decode cX2_arrange 54 = .ok (.iload_n 3, 1) := by decide +kernel
theorem dX2_arrange_55 : decode cX2_arrange 55 = .ok (.invokevirtual 39, 3) := by decide +kernel
theorem dX2_arrange_58 : decode cX2_arrange 58 = .ok (.aload_n 0, 1) := by decide +kernel
theorem dX2_arrange_59 : decode cX2_arrange 59 = .ok (.aload_n 1, 1) := by decide +kernel
theorem dX2_arrange_60 : decode cX2_arrange 60 = .ok (.getfield 25, 3) := by decide +kernel
theorem dX2_arrange_63 : decode cX2_arrange 63 = .ok (.aload_n 2, 1) := by decide +kernel
theorem dX2_arrange_64 : decode cX2_arrange 64 = .ok (.invokevirtual 43, 3) := by decide +kernel
theorem dX2_arrange_67 : decode cX2_arrange 67 = .ok (.return_, 1) := by decide +kernel
theorem dX2_partnerOf_0 : decode cX2_partnerOf 0 = .ok (.aload_n 0, 1) := by decide +kernel
theorem dX2_partnerOf_1 : decode cX2_partnerOf 1 = .ok (.getfield 18, 3) := by decide +kernel
theorem dX2_partnerOf_4 : decode cX2_partnerOf 4 = .ok (.iload_n 1, 1) := by decide +kernel
theorem dX2_partnerOf_5 : decode cX2_partnerOf 5 = .ok (.invokestatic 47, 3) := by decide +kernel
theorem dX2_partnerOf_8 : decode cX2_partnerOf 8 = .ok (.ireturn, 1) := by decide +kernel
theorem dX2_weighAll_0 : decode cX2_weighAll 0 = .ok (.iconst 0, 1) := by decide +kernel
theorem dX2_weighAll_1 : decode cX2_weighAll 1 = .ok (.istore_n 3, 1) := by decide +kernel
theorem dX2_weighAll_2 : decode cX2_weighAll 2 = .ok (.iload_n 3, 1) := by decide +kernel
theorem dX2_weighAll_3 : decode cX2_weighAll 3 = .ok (.aload_n 1, 1) := by decide +kernel
theorem dX2_weighAll_4 : decode cX2_weighAll 4 = .ok (.getfield 25, 3) := by decide +kernel
theorem dX2_weighAll_7 : decode cX2_weighAll 7 = .ok (.if_icmp .ge 49, 3) := by decide +kernel
theorem dX2_weighAll_10 : decode cX2_weighAll 10 = .ok (.iconst 0, 1) := by decide +kernel
theorem dX2_weighAll_11 : decode cX2_weighAll 11 = .ok (.istore 4, 2) := by decide +kernel
theorem dX2_weighAll_13 : decode cX2_weighAll 13 = .ok (.iload 4, 2) := by decide +kernel
theorem dX2_weighAll_15 : decode cX2_weighAll 15 = .ok (.aload_n 1, 1) := by decide +kernel
theorem dX2_weighAll_16 : decode cX2_weighAll 16 = .ok (.getfield 25, 3) := by decide +kernel
theorem dX2_weighAll_19 : decode cX2_weighAll 19 = .ok (.if_icmp .ge 31, 3) := by decide +kernel
theorem dX2_weighAll_22 : decode cX2_weighAll 22 = .ok (.aload_n 0, 1) := by decide +kernel
theorem dX2_weighAll_23 : decode cX2_weighAll 23 = .ok (.getfield 15, 3) := by decide +kernel
theorem dX2_weighAll_26 : decode cX2_weighAll 26 = .ok (.iload_n 3, 1) := by decide +kernel
theorem dX2_weighAll_27 : decode cX2_weighAll 27 = .ok (.bipush 8, 2) := by decide +kernel
theorem dX2_weighAll_29 : decode cX2_weighAll 29 = .ok (.imul, 1) := by decide +kernel
theorem dX2_weighAll_30 : decode cX2_weighAll 30 = .ok (.iload 4, 2) := by decide +kernel
theorem dX2_weighAll_32 : decode cX2_weighAll 32 = .ok (.iadd, 1) := by decide +kernel
theorem dX2_weighAll_33 : decode cX2_weighAll 33 = .ok (.aload_n 1, 1) := by decide +kernel
theorem dX2_weighAll_34 : decode cX2_weighAll 34 = .ok (.aload_n 2, 1) := by decide +kernel
theorem dX2_weighAll_35 : decode cX2_weighAll 35 = .ok (.iload_n 3, 1) := by decide +kernel
theorem dX2_weighAll_36 : decode cX2_weighAll 36 = .ok (.iload 4, 2) := by decide +kernel
theorem dX2_weighAll_38 : decode cX2_weighAll 38 = .ok (.invokestatic 51, 3) := by decide +kernel
theorem dX2_weighAll_41 : decode cX2_weighAll 41 = .ok (.invokestatic 35, 3) := by decide +kernel
theorem dX2_weighAll_44 : decode cX2_weighAll 44 = .ok (.iinc 4 1, 3) := by decide +kernel
theorem dX2_weighAll_47 : decode cX2_weighAll 47 = .ok (.goto (-34), 3) := by decide +kernel
theorem dX2_weighAll_50 : decode cX2_weighAll 50 = .ok (.iinc 3 1, 3) := by decide +kernel
theorem dX2_weighAll_53 : decode cX2_weighAll 53 = .ok (.goto (-51), 3) := by decide +kernel
theorem dX2_weighAll_56 : decode cX2_weighAll 56 = .ok (.return_, 1) := by decide +kernel
theorem dX2_gainOf_0 : decode cX2_gainOf 0 = .ok (.aload_n 1, 1) := by decide +kernel
theorem dX2_gainOf_1 : decode cX2_gainOf 1 = .ok (.iload_n 2, 1) := by decide +kernel
theorem dX2_gainOf_2 : decode cX2_gainOf 2 = .ok (.iconst 0, 1) := by decide +kernel
theorem dX2_gainOf_3 : decode cX2_gainOf 3 = .ok (.invokevirtual 55, 3) := by decide +kernel
theorem dX2_gainOf_6 : decode cX2_gainOf 6 = .ok (.aload_n 1, 1) := by decide +kernel
theorem dX2_gainOf_7 : decode cX2_gainOf 7 = .ok (.iload_n 3, 1) := by decide +kernel
theorem dX2_gainOf_8 : decode cX2_gainOf 8 = .ok (.iconst 0, 1) := by decide +kernel
theorem dX2_gainOf_9 : decode cX2_gainOf 9 = .ok (.invokevirtual 55, 3) := by decide +kernel
theorem dX2_gainOf_12 : decode cX2_gainOf 12 = .ok (.invokestatic 60, 3) := by decide +kernel
theorem dX2_gainOf_15 : decode cX2_gainOf 15 = .ok (.istore 4, 2) := by decide +kernel
theorem dX2_gainOf_17 : decode cX2_gainOf 17 = .ok (.iload 4, 2) := by decide +kernel
theorem dX2_gainOf_19 : decode cX2_gainOf 19 = .ok (.bipush 6, 2) := by decide +kernel
theorem dX2_gainOf_21 : decode cX2_gainOf 21 = .ok (.if_icmp .gt 40, 3) := by decide +kernel
theorem dX2_gainOf_24 : decode cX2_gainOf 24 = .ok (.aload_n 0, 1) := by decide +kernel
theorem dX2_gainOf_25 : decode cX2_gainOf 25 = .ok (.iload_n 2, 1) := by decide +kernel
theorem dX2_gainOf_26 : decode cX2_gainOf 26 = .ok (.invokevirtual 63, 3) := by decide +kernel
theorem dX2_gainOf_29 : decode cX2_gainOf 29 = .ok (.aload_n 0, 1) := by decide +kernel
theorem dX2_gainOf_30 : decode cX2_gainOf 30 = .ok (.iload_n 3, 1) := by decide +kernel
theorem dX2_gainOf_31 : decode cX2_gainOf 31 = .ok (.invokevirtual 63, 3) := by decide +kernel
theorem dX2_gainOf_34 : decode cX2_gainOf 34 = .ok (.if_icmp .eq 27, 3) := by decide +kernel
theorem dX2_gainOf_37 : decode cX2_gainOf 37 = .ok (.aload_n 1, 1) := by decide +kernel
theorem dX2_gainOf_38 : decode cX2_gainOf 38 = .ok (.iload_n 2, 1) := by decide +kernel
theorem dX2_gainOf_39 : decode cX2_gainOf 39 = .ok (.iconst 3, 1) := by decide +kernel
theorem dX2_gainOf_40 : decode cX2_gainOf 40 = .ok (.invokevirtual 55, 3) := by decide +kernel
theorem dX2_gainOf_43 : decode cX2_gainOf 43 = .ok (.iconst (-1), 1) := by decide +kernel
theorem dX2_gainOf_44 : decode cX2_gainOf 44 = .ok (.if_icmp .ne 17, 3) := by decide +kernel
theorem dX2_gainOf_47 : decode cX2_gainOf 47 = .ok (.aload_n 1, 1) := by decide +kernel
theorem dX2_gainOf_48 : decode cX2_gainOf 48 = .ok (.iload_n 3, 1) := by decide +kernel
theorem dX2_gainOf_49 : decode cX2_gainOf 49 = .ok (.iconst 3, 1) := by decide +kernel
theorem dX2_gainOf_50 : decode cX2_gainOf 50 = .ok (.invokevirtual 55, 3) := by decide +kernel
theorem dX2_gainOf_53 : decode cX2_gainOf 53 = .ok (.iconst (-1), 1) := by decide +kernel
theorem dX2_gainOf_54 : decode cX2_gainOf 54 = .ok (.if_icmp .ne 7, 3) := by decide +kernel
theorem dX2_gainOf_57 : decode cX2_gainOf 57 = .ok (.iconst 1, 1) := by decide +kernel
theorem dX2_gainOf_58 : decode cX2_gainOf 58 = .ok (.goto 4, 3) := by decide +kernel
theorem dX2_gainOf_61 : decode cX2_gainOf 61 = .ok (.iconst 0, 1) := by decide +kernel
theorem dX2_gainOf_62 : decode cX2_gainOf 62 = .ok (.istore 5, 2) := by decide +kernel
theorem dX2_gainOf_64 : decode cX2_gainOf 64 = .ok (.iload 5, 2) := by decide +kernel
theorem dX2_gainOf_66 : decode cX2_gainOf 66 = .ok (.ifCond .eq 11, 3) := by decide +kernel
theorem dX2_gainOf_69 : decode cX2_gainOf 69 = .ok (.bipush 100, 2) := by decide +kernel
theorem dX2_gainOf_71 : decode cX2_gainOf 71 = .ok (.iload 4, 2) := by decide +kernel
theorem dX2_gainOf_73 : decode cX2_gainOf 73 = .ok (.isub, 1) := by decide +kernel
theorem dX2_gainOf_74 : decode cX2_gainOf 74 = .ok (.goto 4, 3) := by decide +kernel
theorem dX2_gainOf_77 : decode cX2_gainOf 77 = .ok (.iconst 0, 1) := by decide +kernel
theorem dX2_gainOf_78 : decode cX2_gainOf 78 = .ok (.ireturn, 1) := by decide +kernel
theorem dX2_gain_0 : decode cX2_gain 0 = .ok (.aload_n 0, 1) := by decide +kernel
theorem dX2_gain_1 : decode cX2_gain 1 = .ok (.getfield 15, 3) := by decide +kernel
theorem dX2_gain_4 : decode cX2_gain 4 = .ok (.iload_n 1, 1) := by decide +kernel
theorem dX2_gain_5 : decode cX2_gain 5 = .ok (.bipush 8, 2) := by decide +kernel
theorem dX2_gain_7 : decode cX2_gain 7 = .ok (.imul, 1) := by decide +kernel
theorem dX2_gain_8 : decode cX2_gain 8 = .ok (.iload_n 2, 1) := by decide +kernel
theorem dX2_gain_9 : decode cX2_gain 9 = .ok (.iadd, 1) := by decide +kernel
theorem dX2_gain_10 : decode cX2_gain 10 = .ok (.invokestatic 47, 3) := by decide +kernel
theorem dX2_gain_13 : decode cX2_gain 13 = .ok (.ireturn, 1) := by decide +kernel
theorem dX2_bestOf_0 : decode cX2_bestOf 0 = .ok (.iload_n 1, 1) := by decide +kernel
theorem dX2_bestOf_1 : decode cX2_bestOf 1 = .ok (.iload_n 2, 1) := by decide +kernel
theorem dX2_bestOf_2 : decode cX2_bestOf 2 = .ok (.invokestatic 67, 3) := by decide +kernel
theorem dX2_bestOf_5 : decode cX2_bestOf 5 = .ok (.istore_n 3, 1) := by decide +kernel
theorem dX2_bestOf_6 : decode cX2_bestOf 6 = .ok (.iload_n 2, 1) := by decide +kernel
theorem dX2_bestOf_7 : decode cX2_bestOf 7 = .ok (.iconst 1, 1) := by decide +kernel
theorem dX2_bestOf_8 : decode cX2_bestOf 8 = .ok (.iload_n 3, 1) := by decide +kernel
theorem dX2_bestOf_9 : decode cX2_bestOf 9 = .ok (.ishl, 1) := by decide +kernel
theorem dX2_bestOf_10 : decode cX2_bestOf 10 = .ok (.iconst (-1), 1) := by decide +kernel
theorem dX2_bestOf_11 : decode cX2_bestOf 11 = .ok (.ixor, 1) := by decide +kernel
theorem dX2_bestOf_12 : decode cX2_bestOf 12 = .ok (.iand, 1) := by decide +kernel
theorem dX2_bestOf_13 : decode cX2_bestOf 13 = .ok (.istore 4, 2) := by decide +kernel
theorem dX2_bestOf_15 : decode cX2_bestOf 15 = .ok (.aload_n 0, 1) := by decide +kernel
theorem dX2_bestOf_16 : decode cX2_bestOf 16 = .ok (.getfield 9, 3) := by decide +kernel
theorem dX2_bestOf_19 : decode cX2_bestOf 19 = .ok (.iload 4, 2) := by decide +kernel
theorem dX2_bestOf_21 : decode cX2_bestOf 21 = .ok (.invokestatic 47, 3) := by decide +kernel
theorem dX2_bestOf_24 : decode cX2_bestOf 24 = .ok (.istore 5, 2) := by decide +kernel
theorem dX2_bestOf_26 : decode cX2_bestOf 26 = .ok (.iload_n 3, 1) := by decide +kernel
theorem dX2_bestOf_27 : decode cX2_bestOf 27 = .ok (.iconst 1, 1) := by decide +kernel
theorem dX2_bestOf_28 : decode cX2_bestOf 28 = .ok (.iadd, 1) := by decide +kernel
theorem dX2_bestOf_29 : decode cX2_bestOf 29 = .ok (.istore 6, 2) := by decide +kernel
theorem dX2_bestOf_31 : decode cX2_bestOf 31 = .ok (.iload 6, 2) := by decide +kernel
theorem dX2_bestOf_33 : decode cX2_bestOf 33 = .ok (.iload_n 1, 1) := by decide +kernel
theorem dX2_bestOf_34 : decode cX2_bestOf 34 = .ok (.if_icmp .ge 60, 3) := by decide +kernel
theorem dX2_bestOf_37 : decode cX2_bestOf 37 = .ok (.iload 4, 2) := by decide +kernel
theorem dX2_bestOf_39 : decode cX2_bestOf 39 = .ok (.iload 6, 2) := by decide +kernel
theorem dX2_bestOf_41 : decode cX2_bestOf 41 = .ok (.invokestatic 70, 3) := by decide +kernel
theorem dX2_bestOf_44 : decode cX2_bestOf 44 = .ok (.ifCond .eq 44, 3) := by decide +kernel
theorem dX2_bestOf_47 : decode cX2_bestOf 47 = .ok (.aload_n 0, 1) := by decide +kernel
theorem dX2_bestOf_48 : decode cX2_bestOf 48 = .ok (.iload_n 3, 1) := by decide +kernel
theorem dX2_bestOf_49 : decode cX2_bestOf 49 = .ok (.iload 6, 2) := by decide +kernel
theorem dX2_bestOf_51 : decode cX2_bestOf 51 = .ok (.invokevirtual 74, 3) := by decide +kernel
theorem dX2_bestOf_54 : decode cX2_bestOf 54 = .ok (.ifCond .le 34, 3) := by decide +kernel
theorem dX2_bestOf_57 : decode cX2_bestOf 57 = .ok (.iload 5, 2) := by decide +kernel
theorem dX2_bestOf_59 : decode cX2_bestOf 59 = .ok (.aload_n 0, 1) := by decide +kernel
theorem dX2_bestOf_60 : decode cX2_bestOf 60 = .ok (.iload_n 3, 1) := by decide +kernel
theorem dX2_bestOf_61 : decode cX2_bestOf 61 = .ok (.iload 6, 2) := by decide +kernel
theorem dX2_bestOf_63 : decode cX2_bestOf 63 = .ok (.invokevirtual 74, 3) := by decide +kernel
theorem dX2_bestOf_66 : decode cX2_bestOf 66 = .ok (.aload_n 0, 1) := by decide +kernel
theorem dX2_bestOf_67 : decode cX2_bestOf 67 = .ok (.getfield 9, 3) := by decide +kernel
theorem dX2_bestOf_70 : decode cX2_bestOf 70 = .ok (.iload 4, 2) := by decide +kernel
theorem dX2_bestOf_72 : decode cX2_bestOf 72 = .ok (.iconst 1, 1) := by decide +kernel
theorem dX2_bestOf_73 : decode cX2_bestOf 73 = .ok (.iload 6, 2) := by decide +kernel
theorem dX2_bestOf_75 : decode cX2_bestOf 75 = .ok (.ishl, 1) := by decide +kernel
theorem dX2_bestOf_76 : decode cX2_bestOf 76 = .ok (.iconst (-1), 1) := by decide +kernel
theorem dX2_bestOf_77 : decode cX2_bestOf 77 = .ok (.ixor, 1) := by decide +kernel
theorem dX2_bestOf_78 : decode cX2_bestOf 78 = .ok (.iand, 1) := by decide +kernel
theorem dX2_bestOf_79 : decode cX2_bestOf 79 = .ok (.invokestatic 47, 3) := by decide +kernel
theorem dX2_bestOf_82 : decode cX2_bestOf 82 = .ok (.iadd, 1) := by decide +kernel
theorem dX2_bestOf_83 : decode cX2_bestOf 83 = .ok (.invokestatic 77, 3) := by decide +kernel
theorem dX2_bestOf_86 : decode cX2_bestOf 86 = .ok (.istore 5, 2) := by decide +kernel
theorem dX2_bestOf_88 : decode cX2_bestOf 88 = .ok (.iinc 6 1, 3) := by decide +kernel
theorem dX2_bestOf_91 : decode cX2_bestOf 91 = .ok (.goto (-60), 3) := by decide +kernel
theorem dX2_bestOf_94 : decode cX2_bestOf 94 = .ok (.iload 5, 2) := by decide +kernel
theorem dX2_bestOf_96 : decode cX2_bestOf 96 = .ok (.ireturn, 1) := by decide +kernel
theorem dX2_choose_0 : decode cX2_choose 0 = .ok (.aload_n 0, 1) := by decide +kernel
theorem dX2_choose_1 : decode cX2_choose 1 = .ok (.getfield 18, 3) := by decide +kernel
theorem dX2_choose_4 : decode cX2_choose 4 = .ok (.iconst (-1), 1) := by decide +kernel
theorem dX2_choose_5 : decode cX2_choose 5 = .ok (.invokestatic 82, 3) := by decide +kernel
theorem dX2_choose_8 : decode cX2_choose 8 = .ok (.iload_n 2, 1) := by decide +kernel
theorem dX2_choose_9 : decode cX2_choose 9 = .ok (.istore_n 3, 1) := by decide +kernel
theorem dX2_choose_10 : decode cX2_choose 10 = .ok (.iconst 0, 1) := by decide +kernel
theorem dX2_choose_11 : decode cX2_choose 11 = .ok (.istore 4, 2) := by decide +kernel
theorem dX2_choose_13 : decode cX2_choose 13 = .ok (.iload 4, 2) := by decide +kernel
theorem dX2_choose_15 : decode cX2_choose 15 = .ok (.iload_n 1, 1) := by decide +kernel
theorem dX2_choose_16 : decode cX2_choose 16 = .ok (.if_icmp .ge 74, 3) := by decide +kernel
theorem dX2_choose_19 : decode cX2_choose 19 = .ok (.iload_n 3, 1) := by decide +kernel
theorem dX2_choose_20 : decode cX2_choose 20 = .ok (.iload 4, 2) := by decide +kernel
theorem dX2_choose_22 : decode cX2_choose 22 = .ok (.invokestatic 70, 3) := by decide +kernel
theorem dX2_choose_25 : decode cX2_choose 25 = .ok (.ifCond .eq 59, 3) := by decide +kernel
theorem dX2_choose_28 : decode cX2_choose 28 = .ok (.aload_n 0, 1) := by decide +kernel
theorem dX2_choose_29 : decode cX2_choose 29 = .ok (.iload_n 1, 1) := by decide +kernel
theorem dX2_choose_30 : decode cX2_choose 30 = .ok (.iload_n 3, 1) := by decide +kernel
theorem dX2_choose_31 : decode cX2_choose 31 = .ok (.iload 4, 2) := by decide +kernel
theorem dX2_choose_33 : decode cX2_choose 33 = .ok (.invokevirtual 86, 3) := by decide +kernel
theorem dX2_choose_36 : decode cX2_choose 36 = .ok (.istore 5, 2) := by decide +kernel
theorem dX2_choose_38 : decode cX2_choose 38 = .ok (.iload_n 3, 1) := by decide +kernel
theorem dX2_choose_39 : decode cX2_choose 39 = .ok (.iconst 1, 1) := by decide +kernel
theorem dX2_choose_40 : decode cX2_choose 40 = .ok (.iload 4, 2) := by decide +kernel
theorem dX2_choose_42 : decode cX2_choose 42 = .ok (.ishl, 1) := by decide +kernel
theorem dX2_choose_43 : decode cX2_choose 43 = .ok (.iconst (-1), 1) := by decide +kernel
theorem dX2_choose_44 : decode cX2_choose 44 = .ok (.ixor, 1) := by decide +kernel
theorem dX2_choose_45 : decode cX2_choose 45 = .ok (.iand, 1) := by decide +kernel
theorem dX2_choose_46 : decode cX2_choose 46 = .ok (.istore_n 3, 1) := by decide +kernel
theorem dX2_choose_47 : decode cX2_choose 47 = .ok (.iload 5, 2) := by decide +kernel
theorem dX2_choose_49 : decode cX2_choose 49 = .ok (.iconst (-1), 1) := by decide +kernel
theorem dX2_choose_50 : decode cX2_choose 50 = .ok (.if_icmp .eq 34, 3) := by decide +kernel
theorem dX2_choose_53 : decode cX2_choose 53 = .ok (.iload_n 3, 1) := by decide +kernel
theorem dX2_choose_54 : decode cX2_choose 54 = .ok (.iconst 1, 1) := by decide +kernel
theorem dX2_choose_55 : decode cX2_choose 55 = .ok (.iload 5, 2) := by decide +kernel
theorem dX2_choose_57 : decode cX2_choose 57 = .ok (.ishl, 1) := by decide +kernel
theorem dX2_choose_58 : decode cX2_choose 58 = .ok (.iconst (-1), 1) := by decide +kernel
theorem dX2_choose_59 : decode cX2_choose 59 = .ok (.ixor, 1) := by decide +kernel
theorem dX2_choose_60 : decode cX2_choose 60 = .ok (.iand, 1) := by decide +kernel
theorem dX2_choose_61 : decode cX2_choose 61 = .ok (.istore_n 3, 1) := by decide +kernel
theorem dX2_choose_62 : decode cX2_choose 62 = .ok (.aload_n 0, 1) := by decide +kernel
theorem dX2_choose_63 : decode cX2_choose 63 = .ok (.getfield 18, 3) := by decide +kernel
theorem dX2_choose_66 : decode cX2_choose 66 = .ok (.iload 4, 2) := by decide +kernel
theorem dX2_choose_68 : decode cX2_choose 68 = .ok (.iload 5, 2) := by decide +kernel
theorem dX2_choose_70 : decode cX2_choose 70 = .ok (.invokestatic 35, 3) := by decide +kernel
theorem dX2_choose_73 : decode cX2_choose 73 = .ok (.aload_n 0, 1) := by decide +kernel
theorem dX2_choose_74 : decode cX2_choose 74 = .ok (.getfield 18, 3) := by decide +kernel
theorem dX2_choose_77 : decode cX2_choose 77 = .ok (.iload 5, 2) := by decide +kernel
theorem dX2_choose_79 : decode cX2_choose 79 = .ok (.iload 4, 2) := by decide +kernel
theorem dX2_choose_81 : decode cX2_choose 81 = .ok (.invokestatic 35, 3) := by decide +kernel
theorem dX2_choose_84 : decode cX2_choose 84 = .ok (.iinc 4 1, 3) := by decide +kernel
theorem dX2_choose_87 : decode cX2_choose 87 = .ok (.goto (-74), 3) := by decide +kernel
theorem dX2_choose_90 : decode cX2_choose 90 = .ok (.return_, 1) := by decide +kernel
theorem dX2_firstPartner_0 : decode cX2_firstPartner 0 = .ok (.iload_n 2, 1) := by decide +kernel
theorem dX2_firstPartner_1 : decode cX2_firstPartner 1 = .ok (.iconst 1, 1) := by decide +kernel
theorem dX2_firstPartner_2 : decode cX2_firstPartner 2 = .ok (.iload_n 3, 1) := by decide +kernel
theorem dX2_firstPartner_3 : decode cX2_firstPartner 3 = .ok (.ishl, 1) := by decide +kernel
theorem dX2_firstPartner_4 : decode cX2_firstPartner 4 = .ok (.iconst (-1), 1) := by decide +kernel
theorem dX2_firstPartner_5 : decode cX2_firstPartner 5 = .ok (.ixor, 1) := by decide +kernel
theorem dX2_firstPartner_6 : decode cX2_firstPartner 6 = .ok (.iand, 1) := by decide +kernel
theorem dX2_firstPartner_7 : decode cX2_firstPartner 7 = .ok (.istore 4, 2) := by decide +kernel
theorem dX2_firstPartner_9 : decode cX2_firstPartner 9 = .ok (.iload_n 3, 1) := by decide +kernel
theorem dX2_firstPartner_10 : decode cX2_firstPartner 10 = .ok (.iconst 1, 1) := by decide +kernel
theorem dX2_firstPartner_11 : decode cX2_firstPartner 11 = .ok (.iadd, 1) := by decide +kernel
theorem dX2_firstPartner_12 : decode cX2_firstPartner 12 = .ok (.istore 5, 2) := by decide +kernel
theorem dX2_firstPartner_14 : decode cX2_firstPartner 14 = .ok (.iload 5, 2) := by decide +kernel
theorem dX2_firstPartner_16 : decode cX2_firstPartner 16 = .ok (.iload_n 1, 1) := by decide +kernel
theorem dX2_firstPartner_17 : decode cX2_firstPartner 17 = .ok (.if_icmp .ge 67, 3) := by decide +kernel
theorem dX2_firstPartner_20 : decode cX2_firstPartner 20 = .ok (.iload 4, 2) := by decide +kernel
theorem dX2_firstPartner_22 : decode cX2_firstPartner 22 = .ok (.iload 5, 2) := by decide +kernel
theorem dX2_firstPartner_24 : decode cX2_firstPartner 24 = .ok (.invokestatic 70, 3) := by decide +kernel
theorem dX2_firstPartner_27 : decode cX2_firstPartner 27 = .ok (.ifCond .eq 51, 3) := by decide +kernel
theorem dX2_firstPartner_30 : decode cX2_firstPartner 30 = .ok (.aload_n 0, 1) := by decide +kernel
theorem dX2_firstPartner_31 : decode cX2_firstPartner 31 = .ok (.iload_n 3, 1) := by decide +kernel
theorem dX2_firstPartner_32 : decode cX2_firstPartner 32 = .ok (.iload 5, 2) := by decide +kernel
theorem dX2_firstPartner_34 : decode cX2_firstPartner 34 = .ok (.invokevirtual 74, 3) := by decide +kernel
theorem dX2_firstPartner_37 : decode cX2_firstPartner 37 = .ok (.ifCond .le 41, 3) := by decide +kernel
theorem dX2_firstPartner_40 : decode cX2_firstPartner 40 = .ok (.aload_n 0, 1) := by decide +kernel
theorem dX2_firstPartner_41 : decode cX2_firstPartner 41 = .ok (.iload_n 3, 1) := by decide +kernel
theorem dX2_firstPartner_42 : decode cX2_firstPartner 42 = .ok (.iload 5, 2) := by decide +kernel
theorem dX2_firstPartner_44 : decode cX2_firstPartner 44 = .ok (.invokevirtual 74, 3) := by decide +kernel
theorem dX2_firstPartner_47 : decode cX2_firstPartner 47 = .ok (.aload_n 0, 1) := by decide +kernel
theorem dX2_firstPartner_48 : decode cX2_firstPartner 48 = .ok (.getfield 9, 3) := by decide +kernel
theorem dX2_firstPartner_51 : decode cX2_firstPartner 51 = .ok (.iload 4, 2) := by decide +kernel
theorem dX2_firstPartner_53 : decode cX2_firstPartner 53 = .ok (.iconst 1, 1) := by decide +kernel
theorem dX2_firstPartner_54 : decode cX2_firstPartner 54 = .ok (.iload 5, 2) := by decide +kernel
theorem dX2_firstPartner_56 : decode cX2_firstPartner 56 = .ok (.ishl, 1) := by decide +kernel
theorem dX2_firstPartner_57 : decode cX2_firstPartner 57 = .ok (.iconst (-1), 1) := by decide +kernel
theorem dX2_firstPartner_58 : decode cX2_firstPartner 58 = .ok (.ixor, 1) := by decide +kernel
theorem dX2_firstPartner_59 : decode cX2_firstPartner 59 = .ok (.iand, 1) := by decide +kernel
theorem dX2_firstPartner_60 : decode cX2_firstPartner 60 = .ok (.invokestatic 47, 3) := by decide +kernel
theorem dX2_firstPartner_63 : decode cX2_firstPartner 63 = .ok (.iadd, 1) := by decide +kernel
theorem dX2_firstPartner_64 : decode cX2_firstPartner 64 = .ok (.aload_n 0, 1) := by decide +kernel
theorem dX2_firstPartner_65 : decode cX2_firstPartner 65 = .ok (.getfield 9, 3) := by decide +kernel
theorem dX2_firstPartner_68 : decode cX2_firstPartner 68 = .ok (.iload_n 2, 1) := by decide +kernel
theorem dX2_firstPartner_69 : decode cX2_firstPartner 69 = .ok (.invokestatic 47, 3) := by decide +kernel
theorem dX2_firstPartner_72 : decode cX2_firstPartner 72 = .ok (.if_icmp .ne 6, 3) := by decide +kernel
theorem dX2_firstPartner_75 : decode cX2_firstPartner 75 = .ok (.iload 5, 2) := by decide +kernel
theorem dX2_firstPartner_77 : decode cX2_firstPartner 77 = .ok (.ireturn, 1) := by decide +kernel
theorem dX2_firstPartner_78 : decode cX2_firstPartner 78 = .ok (.iinc 5 1, 3) := by decide +kernel
theorem dX2_firstPartner_81 : decode cX2_firstPartner 81 = .ok (.goto (-67), 3) := by decide +kernel
theorem dX2_firstPartner_84 : decode cX2_firstPartner 84 = .ok (.iconst (-1), 1) := by decide +kernel
theorem dX2_firstPartner_85 : decode cX2_firstPartner 85 = .ok (.ireturn, 1) := by decide +kernel
theorem dX2_sumUp_0 : decode cX2_sumUp 0 = .ok (.aload_n 0, 1) := by decide +kernel
theorem dX2_sumUp_1 : decode cX2_sumUp 1 = .ok (.iconst 0, 1) := by decide +kernel
theorem dX2_sumUp_2 : decode cX2_sumUp 2 = .ok (.putfield 90, 3) := by decide +kernel
theorem dX2_sumUp_5 : decode cX2_sumUp 5 = .ok (.aload_n 0, 1) := by decide +kernel
theorem dX2_sumUp_6 : decode cX2_sumUp 6 = .ok (.iconst 0, 1) := by decide +kernel
theorem dX2_sumUp_7 : decode cX2_sumUp 7 = .ok (.putfield 93, 3) := by decide +kernel
theorem dX2_sumUp_10 : decode cX2_sumUp 10 = .ok (.iconst 0, 1) := by decide +kernel
theorem dX2_sumUp_11 : decode cX2_sumUp 11 = .ok (.istore_n 3, 1) := by decide +kernel
theorem dX2_sumUp_12 : decode cX2_sumUp 12 = .ok (.iload_n 3, 1) := by decide +kernel
theorem dX2_sumUp_13 : decode cX2_sumUp 13 = .ok (.iload_n 1, 1) := by decide +kernel
theorem dX2_sumUp_14 : decode cX2_sumUp 14 = .ok (.if_icmp .ge 57, 3) := by decide +kernel
theorem dX2_sumUp_17 : decode cX2_sumUp 17 = .ok (.aload_n 0, 1) := by decide +kernel
theorem dX2_sumUp_18 : decode cX2_sumUp 18 = .ok (.iload_n 3, 1) := by decide +kernel
theorem dX2_sumUp_19 : decode cX2_sumUp 19 = .ok (.invokevirtual 96, 3) := by decide +kernel
theorem dX2_sumUp_22 : decode cX2_sumUp 22 = .ok (.istore 4, 2) := by decide +kernel
theorem dX2_sumUp_24 : decode cX2_sumUp 24 = .ok (.iload 4, 2) := by decide +kernel
theorem dX2_sumUp_26 : decode cX2_sumUp 26 = .ok (.iload_n 3, 1) := by decide +kernel
theorem dX2_sumUp_27 : decode cX2_sumUp 27 = .ok (.if_icmp .le 38, 3) := by decide +kernel
theorem dX2_sumUp_30 : decode cX2_sumUp 30 = .ok (.aload_n 0, 1) := by decide +kernel
theorem dX2_sumUp_31 : decode cX2_sumUp 31 = .ok (.dup, 1) := by decide +kernel
theorem dX2_sumUp_32 : decode cX2_sumUp 32 = .ok (.getfield 90, 3) := by decide +kernel
theorem dX2_sumUp_35 : decode cX2_sumUp 35 = .ok (.iconst 1, 1) := by decide +kernel
theorem dX2_sumUp_36 : decode cX2_sumUp 36 = .ok (.iadd, 1) := by decide +kernel
theorem dX2_sumUp_37 : decode cX2_sumUp 37 = .ok (.putfield 90, 3) := by decide +kernel
theorem dX2_sumUp_40 : decode cX2_sumUp 40 = .ok (.aload_n 0, 1) := by decide +kernel
theorem dX2_sumUp_41 : decode cX2_sumUp 41 = .ok (.dup, 1) := by decide +kernel
theorem dX2_sumUp_42 : decode cX2_sumUp 42 = .ok (.getfield 93, 3) := by decide +kernel
theorem dX2_sumUp_45 : decode cX2_sumUp 45 = .ok (.aload_n 2, 1) := by decide +kernel
theorem dX2_sumUp_46 : decode cX2_sumUp 46 = .ok (.iload_n 3, 1) := by decide +kernel
theorem dX2_sumUp_47 : decode cX2_sumUp 47 = .ok (.iconst 0, 1) := by decide +kernel
theorem dX2_sumUp_48 : decode cX2_sumUp 48 = .ok (.invokevirtual 55, 3) := by decide +kernel
theorem dX2_sumUp_51 : decode cX2_sumUp 51 = .ok (.aload_n 2, 1) := by decide +kernel
theorem dX2_sumUp_52 : decode cX2_sumUp 52 = .ok (.iload 4, 2) := by decide +kernel
theorem dX2_sumUp_54 : decode cX2_sumUp 54 = .ok (.iconst 0, 1) := by decide +kernel
theorem dX2_sumUp_55 : decode cX2_sumUp 55 = .ok (.invokevirtual 55, 3) := by decide +kernel
theorem dX2_sumUp_58 : decode cX2_sumUp 58 = .ok (.invokestatic 60, 3) := by decide +kernel
theorem dX2_sumUp_61 : decode cX2_sumUp 61 = .ok (.iadd, 1) := by decide +kernel
theorem dX2_sumUp_62 : decode cX2_sumUp 62 = .ok (.putfield 93, 3) := by decide +kernel
theorem dX2_sumUp_65 : decode cX2_sumUp 65 = .ok (.iinc 3 1, 3) := by decide +kernel
theorem dX2_sumUp_68 : decode cX2_sumUp 68 = .ok (.goto (-56), 3) := by decide +kernel
theorem dX2_sumUp_71 : decode cX2_sumUp 71 = .ok (.return_, 1) := by decide +kernel
theorem dX2_leastIn_0 : decode cX2_leastIn 0 = .ok (.iconst 0, 1) := by decide +kernel
theorem dX2_leastIn_1 : decode cX2_leastIn 1 = .ok (.istore_n 2, 1) := by decide +kernel
theorem dX2_leastIn_2 : decode cX2_leastIn 2 = .ok (.iload_n 2, 1) := by decide +kernel
theorem dX2_leastIn_3 : decode cX2_leastIn 3 = .ok (.iload_n 0, 1) := by decide +kernel
theorem dX2_leastIn_4 : decode cX2_leastIn 4 = .ok (.if_icmp .ge 19, 3) := by decide +kernel
theorem dX2_leastIn_7 : decode cX2_leastIn 7 = .ok (.iload_n 1, 1) := by decide +kernel
theorem dX2_leastIn_8 : decode cX2_leastIn 8 = .ok (.iload_n 2, 1) := by decide +kernel
theorem dX2_leastIn_9 : decode cX2_leastIn 9 = .ok (.invokestatic 70, 3) := by decide +kernel
theorem dX2_leastIn_12 : decode cX2_leastIn 12 = .ok (.ifCond .eq 5, 3) := by decide +kernel
theorem dX2_leastIn_15 : decode cX2_leastIn 15 = .ok (.iload_n 2, 1) := by decide +kernel
theorem dX2_leastIn_16 : decode cX2_leastIn 16 = .ok (.ireturn, 1) := by decide +kernel
theorem dX2_leastIn_17 : decode cX2_leastIn 17 = .ok (.iinc 2 1, 3) := by decide +kernel
theorem dX2_leastIn_20 : decode cX2_leastIn 20 = .ok (.goto (-18), 3) := by decide +kernel
theorem dX2_leastIn_23 : decode cX2_leastIn 23 = .ok (.iconst 0, 1) := by decide +kernel
theorem dX2_leastIn_24 : decode cX2_leastIn 24 = .ok (.ireturn, 1) := by decide +kernel
theorem dX2_isIn_0 : decode cX2_isIn 0 = .ok (.iload_n 0, 1) := by decide +kernel
theorem dX2_isIn_1 : decode cX2_isIn 1 = .ok (.iload_n 1, 1) := by decide +kernel
theorem dX2_isIn_2 : decode cX2_isIn 2 = .ok (.ishr, 1) := by decide +kernel
theorem dX2_isIn_3 : decode cX2_isIn 3 = .ok (.iconst 1, 1) := by decide +kernel
theorem dX2_isIn_4 : decode cX2_isIn 4 = .ok (.iand, 1) := by decide +kernel
theorem dX2_isIn_5 : decode cX2_isIn 5 = .ok (.iconst 1, 1) := by decide +kernel
theorem dX2_isIn_6 : decode cX2_isIn 6 = .ok (.if_icmp .ne 7, 3) := by decide +kernel
theorem dX2_isIn_9 : decode cX2_isIn 9 = .ok (.iconst 1, 1) := by decide +kernel
theorem dX2_isIn_10 : decode cX2_isIn 10 = .ok (.goto 4, 3) := by decide +kernel
theorem dX2_isIn_13 : decode cX2_isIn 13 = .ok (.iconst 0, 1) := by decide +kernel
theorem dX2_isIn_14 : decode cX2_isIn 14 = .ok (.ireturn, 1) := by decide +kernel
theorem dX3_init_0 : decode cX3_init 0 = .ok (.aload_n 0, 1) := by decide +kernel
theorem dX3_init_1 : decode cX3_init 1 = .ok (.invokespecial 1, 3) := by decide +kernel
theorem dX3_init_4 : decode cX3_init 4 = .ok (.return_, 1) := by decide +kernel
theorem dX3_live_0 : decode cX3_live 0 = .ok (.aload_n 0, 1) := by decide +kernel
theorem dX3_live_1 : decode cX3_live 1 = .ok (.iload_n 3, 1) := by decide +kernel
theorem dX3_live_2 : decode cX3_live 2 = .ok (.putfield 7, 3) := by decide +kernel
theorem dX3_live_5 : decode cX3_live 5 = .ok (.aload_n 0, 1) := by decide +kernel
theorem dX3_live_6 : decode cX3_live 6 = .ok (.iconst 0, 1) := by decide +kernel
theorem dX3_live_7 : decode cX3_live 7 = .ok (.putfield 13, 3) := by decide +kernel
theorem dX3_live_10 : decode cX3_live 10 = .ok (.aload_n 0, 1) := by decide +kernel
theorem dX3_live_11 : decode cX3_live 11 = .ok (.iconst 0, 1) := by decide +kernel
theorem dX3_live_12 : decode cX3_live 12 = .ok (.putfield 16, 3) := by decide +kernel
theorem dX3_live_15 : decode cX3_live 15 = .ok (.iconst 0, 1) := by decide +kernel
theorem dX3_live_16 : decode cX3_live 16 = .ok (.istore 6, 2) := by decide +kernel
theorem dX3_live_18 : decode cX3_live 18 = .ok (.iload 6, 2) := by decide +kernel
theorem dX3_live_20 : decode cX3_live 20 = .ok (.iload 5, 2) := by decide +kernel
theorem dX3_live_22 : decode cX3_live 22 = .ok (.if_icmp .ge 112, 3) := by decide +kernel
theorem dX3_live_25 : decode cX3_live 25 = .ok (.aload_n 0, 1) := by decide +kernel
theorem dX3_live_26 : decode cX3_live 26 = .ok (.bipush 16, 2) := by decide +kernel
theorem dX3_live_28 : decode cX3_live 28 = .ok (.invokevirtual 19, 3) := by decide +kernel
theorem dX3_live_31 : decode cX3_live 31 = .ok (.iload 4, 2) := by decide +kernel
theorem dX3_live_33 : decode cX3_live 33 = .ok (.if_icmp .ge 24, 3) := by decide +kernel
theorem dX3_live_36 : decode cX3_live 36 = .ok (.aload_n 2, 1) := by decide +kernel
theorem dX3_live_37 : decode cX3_live 37 = .ok (.aload_n 1, 1) := by decide +kernel
theorem dX3_live_38 : decode cX3_live 38 = .ok (.getfield 23, 3) := by decide +kernel
theorem dX3_live_41 : decode cX3_live 41 = .ok (.invokevirtual 28, 3) := by decide +kernel
theorem dX3_live_44 : decode cX3_live 44 = .ok (.ifCond .eq 13, 3) := by decide +kernel
theorem dX3_live_47 : decode cX3_live 47 = .ok (.aload_n 0, 1) := by decide +kernel
theorem dX3_live_48 : decode cX3_live 48 = .ok (.dup, 1) := by decide +kernel
theorem dX3_live_49 : decode cX3_live 49 = .ok (.getfield 16, 3) := by decide +kernel
theorem dX3_live_52 : decode cX3_live 52 = .ok (.iconst 1, 1) := by decide +kernel
theorem dX3_live_53 : decode cX3_live 53 = .ok (.iadd, 1) := by decide +kernel
theorem dX3_live_54 : decode cX3_live 54 = .ok (.putfield 16, 3) := by decide +kernel
theorem dX3_live_57 : decode cX3_live 57 = .ok (.aload_n 1, 1) := by decide +kernel
theorem dX3_live_58 : decode cX3_live 58 = .ok (.getfield 23, 3) := by decide +kernel
theorem dX3_live_61 : decode cX3_live 61 = .ok (.ifCond .le 55, 3) := by decide +kernel
theorem dX3_live_64 : decode cX3_live 64 = .ok (.aload_n 1, 1) := by decide +kernel
theorem dX3_live_65 : decode cX3_live 65 = .ok (.getfield 34, 3) := by decide +kernel
theorem dX3_live_68 : decode cX3_live 68 = .ok (.ifCond .le 48, 3) := by decide +kernel
theorem dX3_live_71 : decode cX3_live 71 = .ok (.aload_n 0, 1) := by decide +kernel
theorem dX3_live_72 : decode cX3_live 72 = .ok (.aload_n 1, 1) := by decide +kernel
theorem dX3_live_73 : decode cX3_live 73 = .ok (.getfield 23, 3) := by decide +kernel
theorem dX3_live_76 : decode cX3_live 76 = .ok (.invokevirtual 19, 3) := by decide +kernel
theorem dX3_live_79 : decode cX3_live 79 = .ok (.istore 7, 2) := by decide +kernel
theorem dX3_live_81 : decode cX3_live 81 = .ok (.aload_n 0, 1) := by decide +kernel
theorem dX3_live_82 : decode cX3_live 82 = .ok (.aload_n 1, 1) := by decide +kernel
theorem dX3_live_83 : decode cX3_live 83 = .ok (.getfield 34, 3) := by decide +kernel
theorem dX3_live_86 : decode cX3_live 86 = .ok (.invokevirtual 19, 3) := by decide +kernel
theorem dX3_live_89 : decode cX3_live 89 = .ok (.istore 8, 2) := by decide +kernel
theorem dX3_live_91 : decode cX3_live 91 = .ok (.aload_n 2, 1) := by decide +kernel
theorem dX3_live_92 : decode cX3_live 92 = .ok (.iload 7, 2) := by decide +kernel
theorem dX3_live_94 : decode cX3_live 94 = .ok (.aload_n 1, 1) := by decide +kernel
theorem dX3_live_95 : decode cX3_live 95 = .ok (.iload 8, 2) := by decide +kernel
theorem dX3_live_97 : decode cX3_live 97 = .ok (.invokevirtual 37, 3) := by decide +kernel
theorem dX3_live_100 : decode cX3_live 100 = .ok (.invokevirtual 40, 3) := by decide +kernel
theorem dX3_live_103 : decode cX3_live 103 = .ok (.ifCond .eq 13, 3) := by decide +kernel
theorem dX3_live_106 : decode cX3_live 106 = .ok (.aload_n 0, 1) := by decide +kernel
theorem dX3_live_107 : decode cX3_live 107 = .ok (.dup, 1) := by decide +kernel
theorem dX3_live_108 : decode cX3_live 108 = .ok (.getfield 13, 3) := by decide +kernel
theorem dX3_live_111 : decode cX3_live 111 = .ok (.iconst 1, 1) := by decide +kernel
theorem dX3_live_112 : decode cX3_live 112 = .ok (.iadd, 1) := by decide +kernel
theorem dX3_live_113 : decode cX3_live 113 = .ok (.putfield 13, 3) := by decide +kernel
theorem dX3_live_116 : decode cX3_live 116 = .ok (.aload_n 2, 1) := by decide +kernel
theorem dX3_live_117 : decode cX3_live 117 = .ok (.aload_n 1, 1) := by decide +kernel
theorem dX3_live_118 : decode cX3_live 118 = .ok (.getfield 23, 3) := by decide +kernel
theorem dX3_live_121 : decode cX3_live 121 = .ok (.aload_n 1, 1) := by decide +kernel
theorem dX3_live_122 : decode cX3_live 122 = .ok (.getfield 44, 3) := by decide +kernel
theorem dX3_live_125 : decode cX3_live 125 = .ok (.invokevirtual 47, 3) := by decide +kernel
theorem dX3_live_128 : decode cX3_live 128 = .ok (.iinc 6 1, 3) := by decide +kernel
theorem dX3_live_131 : decode cX3_live 131 = .ok (.goto (-113), 3) := by decide +kernel
theorem dX3_live_134 : decode cX3_live 134 = .ok (.return_, 1) := by decide +kernel
theorem dX3_draw_0 : decode cX3_draw 0 = .ok (.aload_n 0, 1) := by decide +kernel
theorem dX3_draw_1 : decode cX3_draw 1 = .ok (.aload_n 0, 1) := by decide +kernel
theorem dX3_draw_2 : decode cX3_draw 2 = .ok (.getfield 7, 3) := by decide +kernel
theorem dX3_draw_5 : decode cX3_draw 5 = .ok (.ldc 51, 2) := by decide +kernel
theorem dX3_draw_7 : decode cX3_draw 7 = .ok (.imul, 1) := by decide +kernel
theorem dX3_draw_8 : decode cX3_draw 8 = .ok (.sipush 12345, 3) := by decide +kernel
theorem dX3_draw_11 : decode cX3_draw 11 = .ok (.iadd, 1) := by decide +kernel
theorem dX3_draw_12 : decode cX3_draw 12 = .ok (.putfield 7, 3) := by decide +kernel
theorem dX3_draw_15 : decode cX3_draw 15 = .ok (.iload_n 1, 1) := by decide +kernel
theorem dX3_draw_16 : decode cX3_draw 16 = .ok (.ifCond .le 19, 3) := by decide +kernel
theorem dX3_draw_19 : decode cX3_draw 19 = .ok (.aload_n 0, 1) := by decide +kernel
theorem dX3_draw_20 : decode cX3_draw 20 = .ok (.getfield 7, 3) := by decide +kernel
theorem dX3_draw_23 : decode cX3_draw 23 = .ok (.bipush 16, 2) := by decide +kernel
theorem dX3_draw_25 : decode cX3_draw 25 = .ok (.iushr, 1) := by decide +kernel
theorem dX3_draw_26 : decode cX3_draw 26 = .ok (.sipush 32767, 3) := by decide +kernel
theorem dX3_draw_29 : decode cX3_draw 29 = .ok (.iand, 1) := by decide +kernel
theorem dX3_draw_30 : decode cX3_draw 30 = .ok (.iload_n 1, 1) := by decide +kernel
theorem dX3_draw_31 : decode cX3_draw 31 = .ok (.irem, 1) := by decide +kernel
theorem dX3_draw_32 : decode cX3_draw 32 = .ok (.goto 4, 3) := by decide +kernel
theorem dX3_draw_35 : decode cX3_draw 35 = .ok (.iconst 0, 1) := by decide +kernel
theorem dX3_draw_36 : decode cX3_draw 36 = .ok (.ireturn, 1) := by decide +kernel
theorem dX4_init_0 : decode cX4_init 0 = .ok (.aload_n 0, 1) := by decide +kernel
theorem dX4_init_1 : decode cX4_init 1 = .ok (.invokespecial 3, 3) := by decide +kernel
theorem dX4_init_4 : decode cX4_init 4 = .ok (.aload_n 0, 1) := by decide +kernel
theorem dX4_init_5 : decode cX4_init 5 = .ok (.sipush 704, 3) := by decide +kernel
theorem dX4_init_8 : decode cX4_init 8 = .ok (.newarray .int, 2) := by decide +kernel
theorem dX4_init_10 : decode cX4_init 10 = .ok (.putfield 9, 3) := by decide +kernel
theorem dX4_init_13 : decode cX4_init 13 = .ok (.aload_n 0, 1) := by decide +kernel
theorem dX4_init_14 : decode cX4_init 14 = .ok (.sipush 2244, 3) := by decide +kernel
theorem dX4_init_17 : decode cX4_init 17 = .ok (.newarray .int, 2) := by decide +kernel
theorem dX4_init_19 : decode cX4_init 19 = .ok (.putfield 15, 3) := by decide +kernel
theorem dX4_init_22 : decode cX4_init 22 = .ok (.aload_n 0, 1) := by decide +kernel
theorem dX4_init_23 : decode cX4_init 23 = .ok (.iconst 3, 1) := by decide +kernel
theorem dX4_init_24 : decode cX4_init 24 = .ok (.newarray .int, 2) := by decide +kernel
theorem dX4_init_26 : decode cX4_init 26 = .ok (.putfield 18, 3) := by decide +kernel
theorem dX4_init_29 : decode cX4_init 29 = .ok (.return_, 1) := by decide +kernel
theorem dX4_clear_0 : decode cX4_clear 0 = .ok (.aload_n 0, 1) := by decide +kernel
theorem dX4_clear_1 : decode cX4_clear 1 = .ok (.iconst 0, 1) := by decide +kernel
theorem dX4_clear_2 : decode cX4_clear 2 = .ok (.putfield 21, 3) := by decide +kernel
theorem dX4_clear_5 : decode cX4_clear 5 = .ok (.aload_n 0, 1) := by decide +kernel
theorem dX4_clear_6 : decode cX4_clear 6 = .ok (.iconst 0, 1) := by decide +kernel
theorem dX4_clear_7 : decode cX4_clear 7 = .ok (.putfield 25, 3) := by decide +kernel
theorem dX4_clear_10 : decode cX4_clear 10 = .ok (.return_, 1) := by decide +kernel
theorem dX4_remember_0 : decode cX4_remember 0 = .ok (.aload_n 1, 1) := by decide +kernel
theorem dX4_remember_1 : decode cX4_remember 1 = .ok (.aload_n 0, 1) := by decide +kernel
theorem dX4_remember_2 : decode cX4_remember 2 = .ok (.getfield 9, 3) := by decide +kernel
theorem dX4_remember_5 : decode cX4_remember 5 = .ok (.aload_n 0, 1) := by decide +kernel
theorem dX4_remember_6 : decode cX4_remember 6 = .ok (.getfield 21, 3) := by decide +kernel
theorem dX4_remember_9 : decode cX4_remember 9 = .ok (.bipush 44, 2) := by decide +kernel
theorem dX4_remember_11 : decode cX4_remember 11 = .ok (.imul, 1) := by decide +kernel
theorem dX4_remember_12 : decode cX4_remember 12 = .ok (.invokevirtual 28, 3) := by decide +kernel
theorem dX4_remember_15 : decode cX4_remember 15 = .ok (.aload_n 0, 1) := by decide +kernel
theorem dX4_remember_16 : decode cX4_remember 16 = .ok (.dup, 1) := by decide +kernel
theorem dX4_remember_17 : decode cX4_remember 17 = .ok (.getfield 21, 3) := by decide +kernel
theorem dX4_remember_20 : decode cX4_remember 20 = .ok (.iconst 1, 1) := by decide +kernel
theorem dX4_remember_21 : decode cX4_remember 21 = .ok (.iadd, 1) := by decide +kernel
theorem dX4_remember_22 : decode cX4_remember 22 = .ok (.putfield 21, 3) := by decide +kernel
theorem dX4_remember_25 : decode cX4_remember 25 = .ok (.return_, 1) := by decide +kernel
theorem dX4_takeBack_0 : decode cX4_takeBack 0 = .ok (.aload_n 0, 1) := by decide +kernel
theorem dX4_takeBack_1 : decode cX4_takeBack 1 = .ok (.dup, 1) := by decide +kernel
theorem dX4_takeBack_2 : decode cX4_takeBack 2 = .ok (.getfield 21, 3) := by decide +kernel
theorem dX4_takeBack_5 : decode cX4_takeBack 5 = .ok (.iconst 1, 1) := by decide +kernel
theorem dX4_takeBack_6 : decode cX4_takeBack 6 = .ok (.isub, 1) := by decide +kernel
theorem dX4_takeBack_7 : decode cX4_takeBack 7 = .ok (.putfield 21, 3) := by decide +kernel
theorem dX4_takeBack_10 : decode cX4_takeBack 10 = .ok (.aload_n 1, 1) := by decide +kernel
theorem dX4_takeBack_11 : decode cX4_takeBack 11 = .ok (.aload_n 0, 1) := by decide +kernel
theorem dX4_takeBack_12 : decode cX4_takeBack 12 = .ok (.getfield 9, 3) := by decide +kernel
theorem dX4_takeBack_15 : decode cX4_takeBack 15 = .ok (.aload_n 0, 1) := by decide +kernel
theorem dX4_takeBack_16 : decode cX4_takeBack 16 = .ok (.getfield 21, 3) := by decide +kernel
theorem dX4_takeBack_19 : decode cX4_takeBack 19 = .ok (.bipush 44, 2) := by decide +kernel
theorem dX4_takeBack_21 : decode cX4_takeBack 21 = .ok (.imul, 1) := by decide +kernel
theorem dX4_takeBack_22 : decode cX4_takeBack 22 = .ok (.invokevirtual 34, 3) := by decide +kernel
theorem dX4_takeBack_25 : decode cX4_takeBack 25 = .ok (.return_, 1) := by decide +kernel
theorem dX4_keepImage_0 : decode cX4_keepImage 0 = .ok (.aload_n 0, 1) := by decide +kernel
theorem dX4_keepImage_1 : decode cX4_keepImage 1 = .ok (.getfield 25, 3) := by decide +kernel
theorem dX4_keepImage_4 : decode cX4_keepImage 4 = .ok (.sipush 748, 3) := by decide +kernel
theorem dX4_keepImage_7 : decode cX4_keepImage 7 = .ok (.imul, 1) := by decide +kernel
theorem dX4_keepImage_8 : decode cX4_keepImage 8 = .ok (.istore_n 2, 1) := by decide +kernel
theorem dX4_keepImage_9 : decode cX4_keepImage 9 = .ok (.aload_n 1, 1) := by decide +kernel
theorem dX4_keepImage_10 : decode cX4_keepImage 10 = .ok (.aload_n 0, 1) := by decide +kernel
theorem dX4_keepImage_11 : decode cX4_keepImage 11 = .ok (.getfield 15, 3) := by decide +kernel
theorem dX4_keepImage_14 : decode cX4_keepImage 14 = .ok (.iload_n 2, 1) := by decide +kernel
theorem dX4_keepImage_15 : decode cX4_keepImage 15 = .ok (.invokevirtual 28, 3) := by decide +kernel
theorem dX4_keepImage_18 : decode cX4_keepImage 18 = .ok (.aload_n 0, 1) := by decide +kernel
theorem dX4_keepImage_19 : decode cX4_keepImage 19 = .ok (.getfield 9, 3) := by decide +kernel
theorem dX4_keepImage_22 : decode cX4_keepImage 22 = .ok (.iconst 0, 1) := by decide +kernel
theorem dX4_keepImage_23 : decode cX4_keepImage 23 = .ok (.aload_n 0, 1) := by decide +kernel
theorem dX4_keepImage_24 : decode cX4_keepImage 24 = .ok (.getfield 15, 3) := by decide +kernel
theorem dX4_keepImage_27 : decode cX4_keepImage 27 = .ok (.iload_n 2, 1) := by decide +kernel
theorem dX4_keepImage_28 : decode cX4_keepImage 28 = .ok (.bipush 44, 2) := by decide +kernel
theorem dX4_keepImage_30 : decode cX4_keepImage 30 = .ok (.iadd, 1) := by decide +kernel
theorem dX4_keepImage_31 : decode cX4_keepImage 31 = .ok (.aload_n 0, 1) := by decide +kernel
theorem dX4_keepImage_32 : decode cX4_keepImage 32 = .ok (.getfield 21, 3) := by decide +kernel
theorem dX4_keepImage_35 : decode cX4_keepImage 35 = .ok (.bipush 44, 2) := by decide +kernel
theorem dX4_keepImage_37 : decode cX4_keepImage 37 = .ok (.imul, 1) := by decide +kernel
theorem dX4_keepImage_38 : decode cX4_keepImage 38 = .ok (.invokestatic 37, 3) := by decide +kernel
theorem dX4_keepImage_41 : decode cX4_keepImage 41 = .ok (.aload_n 0, 1) := by decide +kernel
theorem dX4_keepImage_42 : decode cX4_keepImage 42 = .ok (.getfield 18, 3) := by decide +kernel
theorem dX4_keepImage_45 : decode cX4_keepImage 45 = .ok (.aload_n 0, 1) := by decide +kernel
theorem dX4_keepImage_46 : decode cX4_keepImage 46 = .ok (.getfield 25, 3) := by decide +kernel
theorem dX4_keepImage_49 : decode cX4_keepImage 49 = .ok (.aload_n 0, 1) := by decide +kernel
theorem dX4_keepImage_50 : decode cX4_keepImage 50 = .ok (.getfield 21, 3) := by decide +kernel
theorem dX4_keepImage_53 : decode cX4_keepImage 53 = .ok (.invokestatic 41, 3) := by decide +kernel
theorem dX4_keepImage_56 : decode cX4_keepImage 56 = .ok (.aload_n 0, 1) := by decide +kernel
theorem dX4_keepImage_57 : decode cX4_keepImage 57 = .ok (.dup, 1) := by decide +kernel
theorem dX4_keepImage_58 : decode cX4_keepImage 58 = .ok (.getfield 25, 3) := by decide +kernel
theorem dX4_keepImage_61 : decode cX4_keepImage 61 = .ok (.iconst 1, 1) := by decide +kernel
theorem dX4_keepImage_62 : decode cX4_keepImage 62 = .ok (.iadd, 1) := by decide +kernel
theorem dX4_keepImage_63 : decode cX4_keepImage 63 = .ok (.putfield 25, 3) := by decide +kernel
theorem dX4_keepImage_66 : decode cX4_keepImage 66 = .ok (.return_, 1) := by decide +kernel
theorem dX4_bringBack_0 : decode cX4_bringBack 0 = .ok (.aload_n 0, 1) := by decide +kernel
theorem dX4_bringBack_1 : decode cX4_bringBack 1 = .ok (.dup, 1) := by decide +kernel
theorem dX4_bringBack_2 : decode cX4_bringBack 2 = .ok (.getfield 25, 3) := by decide +kernel
theorem dX4_bringBack_5 : decode cX4_bringBack 5 = .ok (.iconst 1, 1) := by decide +kernel
theorem dX4_bringBack_6 : decode cX4_bringBack 6 = .ok (.isub, 1) := by decide +kernel
theorem dX4_bringBack_7 : decode cX4_bringBack 7 = .ok (.putfield 25, 3) := by decide +kernel
theorem dX4_bringBack_10 : decode cX4_bringBack 10 = .ok (.aload_n 0, 1) := by decide +kernel
theorem dX4_bringBack_11 : decode cX4_bringBack 11 = .ok (.getfield 25, 3) := by decide +kernel
theorem dX4_bringBack_14 : decode cX4_bringBack 14 = .ok (.sipush 748, 3) := by decide +kernel
theorem dX4_bringBack_17 : decode cX4_bringBack 17 = .ok (.imul, 1) := by decide +kernel
theorem dX4_bringBack_18 : decode cX4_bringBack 18 = .ok (.istore_n 2, 1) := by decide +kernel
theorem dX4_bringBack_19 : decode cX4_bringBack 19 = .ok (.aload_n 1, 1) := by decide +kernel
theorem dX4_bringBack_20 : decode cX4_bringBack 20 = .ok (.aload_n 0, 1) := by decide +kernel
theorem dX4_bringBack_21 : decode cX4_bringBack 21 = .ok (.getfield 15, 3) := by decide +kernel
theorem dX4_bringBack_24 : decode cX4_bringBack 24 = .ok (.iload_n 2, 1) := by decide +kernel
theorem dX4_bringBack_25 : decode cX4_bringBack 25 = .ok (.invokevirtual 34, 3) := by decide +kernel
theorem dX4_bringBack_28 : decode cX4_bringBack 28 = .ok (.aload_n 0, 1) := by decide +kernel
theorem dX4_bringBack_29 : decode cX4_bringBack 29 = .ok (.aload_n 0, 1) := by decide +kernel
theorem dX4_bringBack_30 : decode cX4_bringBack 30 = .ok (.getfield 18, 3) := by decide +kernel
theorem dX4_bringBack_33 : decode cX4_bringBack 33 = .ok (.aload_n 0, 1) := by decide +kernel
theorem dX4_bringBack_34 : decode cX4_bringBack 34 = .ok (.getfield 25, 3) := by decide +kernel
theorem dX4_bringBack_37 : decode cX4_bringBack 37 = .ok (.invokestatic 45, 3) := by decide +kernel
theorem dX4_bringBack_40 : decode cX4_bringBack 40 = .ok (.putfield 21, 3) := by decide +kernel
theorem dX4_bringBack_43 : decode cX4_bringBack 43 = .ok (.aload_n 0, 1) := by decide +kernel
theorem dX4_bringBack_44 : decode cX4_bringBack 44 = .ok (.getfield 15, 3) := by decide +kernel
theorem dX4_bringBack_47 : decode cX4_bringBack 47 = .ok (.iload_n 2, 1) := by decide +kernel
theorem dX4_bringBack_48 : decode cX4_bringBack 48 = .ok (.bipush 44, 2) := by decide +kernel
theorem dX4_bringBack_50 : decode cX4_bringBack 50 = .ok (.iadd, 1) := by decide +kernel
theorem dX4_bringBack_51 : decode cX4_bringBack 51 = .ok (.aload_n 0, 1) := by decide +kernel
theorem dX4_bringBack_52 : decode cX4_bringBack 52 = .ok (.getfield 9, 3) := by decide +kernel
theorem dX4_bringBack_55 : decode cX4_bringBack 55 = .ok (.iconst 0, 1) := by decide +kernel
theorem dX4_bringBack_56 : decode cX4_bringBack 56 = .ok (.aload_n 0, 1) := by decide +kernel
theorem dX4_bringBack_57 : decode cX4_bringBack 57 = .ok (.getfield 21, 3) := by decide +kernel
theorem dX4_bringBack_60 : decode cX4_bringBack 60 = .ok (.bipush 44, 2) := by decide +kernel
theorem dX4_bringBack_62 : decode cX4_bringBack 62 = .ok (.imul, 1) := by decide +kernel
theorem dX4_bringBack_63 : decode cX4_bringBack 63 = .ok (.invokestatic 37, 3) := by decide +kernel
theorem dX4_bringBack_66 : decode cX4_bringBack 66 = .ok (.return_, 1) := by decide +kernel
theorem dX5_init_0 : decode cX5_init 0 = .ok (.aload_n 0, 1) := by decide +kernel
theorem dX5_init_1 : decode cX5_init 1 = .ok (.invokespecial 3, 3) := by decide +kernel
theorem dX5_init_4 : decode cX5_init 4 = .ok (.aload_n 0, 1) := by decide +kernel
theorem dX5_init_5 : decode cX5_init 5 = .ok (.sipush 150, 3) := by decide +kernel
theorem dX5_init_8 : decode cX5_init 8 = .ok (.newarray .int, 2) := by decide +kernel
theorem dX5_init_10 : decode cX5_init 10 = .ok (.putfield 9, 3) := by decide +kernel
theorem dX5_init_13 : decode cX5_init 13 = .ok (.aload_n 0, 1) := by decide +kernel
theorem dX5_init_14 : decode cX5_init 14 = .ok (.sipush 150, 3) := by decide +kernel
theorem dX5_init_17 : decode cX5_init 17 = .ok (.newarray .int, 2) := by decide +kernel
theorem dX5_init_19 : decode cX5_init 19 = .ok (.putfield 15, 3) := by decide +kernel
theorem dX5_init_22 : decode cX5_init 22 = .ok (.aload_n 0, 1) := by decide +kernel
theorem dX5_init_23 : decode cX5_init 23 = .ok (.sipush 150, 3) := by decide +kernel
theorem dX5_init_26 : decode cX5_init 26 = .ok (.newarray .int, 2) := by decide +kernel
theorem dX5_init_28 : decode cX5_init 28 = .ok (.putfield 18, 3) := by decide +kernel
theorem dX5_init_31 : decode cX5_init 31 = .ok (.aload_n 0, 1) := by decide +kernel
theorem dX5_init_32 : decode cX5_init 32 = .ok (.bipush 9, 2) := by decide +kernel
theorem dX5_init_34 : decode cX5_init 34 = .ok (.newarray .int, 2) := by decide +kernel
theorem dX5_init_36 : decode cX5_init 36 = .ok (.putfield 21, 3) := by decide +kernel
theorem dX5_init_39 : decode cX5_init 39 = .ok (.return_, 1) := by decide +kernel
theorem dX5_repeal_0 : decode cX5_repeal 0 = .ok (.aload_n 0, 1) := by decide +kernel
theorem dX5_repeal_1 : decode cX5_repeal 1 = .ok (.iconst 0, 1) := by decide +kernel
theorem dX5_repeal_2 : decode cX5_repeal 2 = .ok (.putfield 24, 3) := by decide +kernel
theorem dX5_repeal_5 : decode cX5_repeal 5 = .ok (.return_, 1) := by decide +kernel
theorem dX5_read_0 : decode cX5_read 0 = .ok (.aload_n 0, 1) := by decide +kernel
theorem dX5_read_1 : decode cX5_read 1 = .ok (.iconst 0, 1) := by decide +kernel
theorem dX5_read_2 : decode cX5_read 2 = .ok (.putfield 28, 3) := by decide +kernel
theorem dX5_read_5 : decode cX5_read 5 = .ok (.aload_n 0, 1) := by decide +kernel
theorem dX5_read_6 : decode cX5_read 6 = .ok (.aload_n 1, 1) := by decide +kernel
theorem dX5_read_7 : decode cX5_read 7 = .ok (.iconst 0, 1) := by decide +kernel
theorem dX5_read_8 : decode cX5_read 8 = .ok (.invokevirtual 32, 3) := by decide +kernel
theorem dX5_read_11 : decode cX5_read 11 = .ok (.aload_n 1, 1) := by decide +kernel
theorem dX5_read_12 : decode cX5_read 12 = .ok (.invokevirtual 36, 3) := by decide +kernel
theorem dX5_read_15 : decode cX5_read 15 = .ok (.iconst (-1), 1) := by decide +kernel
theorem dX5_read_16 : decode cX5_read 16 = .ok (.if_icmp .eq 12, 3) := by decide +kernel
theorem dX5_read_19 : decode cX5_read 19 = .ok (.aload_n 1, 1) := by decide +kernel
theorem dX5_read_20 : decode cX5_read 20 = .ok (.iconst 1, 1) := by decide +kernel
theorem dX5_read_21 : decode cX5_read 21 = .ok (.aload_n 1, 1) := by decide +kernel
theorem dX5_read_22 : decode cX5_read 22 = .ok (.getfield 42, 3) := by decide +kernel
theorem dX5_read_25 : decode cX5_read 25 = .ok (.invokevirtual 45, 3) := by decide +kernel
theorem dX5_read_28 : decode cX5_read 28 = .ok (.aload_n 1, 1) := by decide +kernel
theorem dX5_read_29 : decode cX5_read 29 = .ok (.invokevirtual 49, 3) := by decide +kernel
theorem dX5_read_32 : decode cX5_read 32 = .ok (.ifCond .ne 33, 3) := by decide +kernel
theorem dX5_read_35 : decode cX5_read 35 = .ok (.aload_n 0, 1) := by decide +kernel
theorem dX5_read_36 : decode cX5_read 36 = .ok (.getfield 15, 3) := by decide +kernel
theorem dX5_read_39 : decode cX5_read 39 = .ok (.iconst 0, 1) := by decide +kernel
theorem dX5_read_40 : decode cX5_read 40 = .ok (.aload_n 0, 1) := by decide +kernel
theorem dX5_read_41 : decode cX5_read 41 = .ok (.getfield 9, 3) := by decide +kernel
theorem dX5_read_44 : decode cX5_read 44 = .ok (.iconst 0, 1) := by decide +kernel
theorem dX5_read_45 : decode cX5_read 45 = .ok (.aload_n 0, 1) := by decide +kernel
theorem dX5_read_46 : decode cX5_read 46 = .ok (.getfield 28, 3) := by decide +kernel
theorem dX5_read_49 : decode cX5_read 49 = .ok (.invokestatic 53, 3) := by decide +kernel
theorem dX5_read_52 : decode cX5_read 52 = .ok (.aload_n 0, 1) := by decide +kernel
theorem dX5_read_53 : decode cX5_read 53 = .ok (.aload_n 0, 1) := by decide +kernel
theorem dX5_read_54 : decode cX5_read 54 = .ok (.getfield 28, 3) := by decide +kernel
theorem dX5_read_57 : decode cX5_read 57 = .ok (.putfield 57, 3) := by decide +kernel
theorem dX5_read_60 : decode cX5_read 60 = .ok (.aload_n 0, 1) := by decide +kernel
theorem dX5_read_61 : decode cX5_read 61 = .ok (.iconst 1, 1) := by decide +kernel
theorem dX5_read_62 : decode cX5_read 62 = .ok (.putfield 24, 3) := by decide +kernel
theorem dX5_read_65 : decode cX5_read 65 = .ok (.return_, 1) := by decide +kernel
theorem dX5_readSum_0 : decode cX5_readSum 0 = .ok (.aload_n 0, 1) := by decide +kernel
theorem dX5_readSum_1 : decode cX5_readSum 1 = .ok (.aload_n 1, 1) := by decide +kernel
theorem dX5_readSum_2 : decode cX5_readSum 2 = .ok (.iload_n 2, 1) := by decide +kernel
theorem dX5_readSum_3 : decode cX5_readSum 3 = .ok (.invokevirtual 60, 3) := by decide +kernel
theorem dX5_readSum_6 : decode cX5_readSum 6 = .ok (.iconst 0, 1) := by decide +kernel
theorem dX5_readSum_7 : decode cX5_readSum 7 = .ok (.istore_n 3, 1) := by decide +kernel
theorem dX5_readSum_8 : decode cX5_readSum 8 = .ok (.iload_n 3, 1) := by decide +kernel
theorem dX5_readSum_9 : decode cX5_readSum 9 = .ok (.sipush 150, 3) := by decide +kernel
theorem dX5_readSum_12 : decode cX5_readSum 12 = .ok (.if_icmp .ge 67, 3) := by decide +kernel
theorem dX5_readSum_15 : decode cX5_readSum 15 = .ok (.aload_n 1, 1) := by decide +kernel
theorem dX5_readSum_16 : decode cX5_readSum 16 = .ok (.invokevirtual 49, 3) := by decide +kernel
theorem dX5_readSum_19 : decode cX5_readSum 19 = .ok (.ifCond .ne 60, 3) := by decide +kernel
theorem dX5_readSum_22 : decode cX5_readSum 22 = .ok (.aload_n 1, 1) := by decide +kernel
theorem dX5_readSum_23 : decode cX5_readSum 23 = .ok (.bipush 43, 2) := by decide +kernel
theorem dX5_readSum_25 : decode cX5_readSum 25 = .ok (.invokevirtual 63, 3) := by decide +kernel
theorem dX5_readSum_28 : decode cX5_readSum 28 = .ok (.ifCond .eq 19, 3) := by decide +kernel
theorem dX5_readSum_31 : decode cX5_readSum 31 = .ok (.aload_n 0, 1) := by decide +kernel
theorem dX5_readSum_32 : decode cX5_readSum 32 = .ok (.aload_n 1, 1) := by decide +kernel
theorem dX5_readSum_33 : decode cX5_readSum 33 = .ok (.iload_n 2, 1) := by decide +kernel
theorem dX5_readSum_34 : decode cX5_readSum 34 = .ok (.invokevirtual 60, 3) := by decide +kernel
theorem dX5_readSum_37 : decode cX5_readSum 37 = .ok (.aload_n 0, 1) := by decide +kernel
theorem dX5_readSum_38 : decode cX5_readSum 38 = .ok (.sipush 2002, 3) := by decide +kernel
theorem dX5_readSum_41 : decode cX5_readSum 41 = .ok (.invokevirtual 67, 3) := by decide +kernel
theorem dX5_readSum_44 : decode cX5_readSum 44 = .ok (.goto 29, 3) := by decide +kernel
theorem dX5_readSum_47 : decode cX5_readSum 47 = .ok (.aload_n 1, 1) := by decide +kernel
theorem dX5_readSum_48 : decode cX5_readSum 48 = .ok (.bipush 45, 2) := by decide +kernel
theorem dX5_readSum_50 : decode cX5_readSum 50 = .ok (.invokevirtual 63, 3) := by decide +kernel
theorem dX5_readSum_53 : decode cX5_readSum 53 = .ok (.ifCond .eq 19, 3) := by decide +kernel
theorem dX5_readSum_56 : decode cX5_readSum 56 = .ok (.aload_n 0, 1) := by decide +kernel
theorem dX5_readSum_57 : decode cX5_readSum 57 = .ok (.aload_n 1, 1) := by decide +kernel
theorem dX5_readSum_58 : decode cX5_readSum 58 = .ok (.iload_n 2, 1) := by decide +kernel
theorem dX5_readSum_59 : decode cX5_readSum 59 = .ok (.invokevirtual 60, 3) := by decide +kernel
theorem dX5_readSum_62 : decode cX5_readSum 62 = .ok (.aload_n 0, 1) := by decide +kernel
theorem dX5_readSum_63 : decode cX5_readSum 63 = .ok (.sipush 2003, 3) := by decide +kernel
theorem dX5_readSum_66 : decode cX5_readSum 66 = .ok (.invokevirtual 67, 3) := by decide +kernel
theorem dX5_readSum_69 : decode cX5_readSum 69 = .ok (.goto 4, 3) := by decide +kernel
theorem dX5_readSum_72 : decode cX5_readSum 72 = .ok (.return_, 1) := by decide +kernel
theorem dX5_readSum_73 : decode cX5_readSum 73 = .ok (.iinc 3 1, 3) := by decide +kernel
theorem dX5_readSum_76 : decode cX5_readSum 76 = .ok (.goto (-68), 3) := by decide +kernel
theorem dX5_readSum_79 : decode cX5_readSum 79 = .ok (.return_, 1) := by decide +kernel
theorem dX5_readProduct_0 : decode cX5_readProduct 0 = .ok (.aload_n 0, 1) := by decide +kernel
theorem dX5_readProduct_1 : decode cX5_readProduct 1 = .ok (.aload_n 1, 1) := by decide +kernel
theorem dX5_readProduct_2 : decode cX5_readProduct 2 = .ok (.iload_n 2, 1) := by decide +kernel
theorem dX5_readProduct_3 : decode cX5_readProduct 3 = .ok (.invokevirtual 71, 3) := by decide +kernel
theorem dX5_readProduct_6 : decode cX5_readProduct 6 = .ok (.iconst 0, 1) := by decide +kernel
theorem dX5_readProduct_7 : decode cX5_readProduct 7 = .ok (.istore_n 3, 1) := by decide +kernel
theorem dX5_readProduct_8 : decode cX5_readProduct 8 = .ok (.iload_n 3, 1) := by decide +kernel
theorem dX5_readProduct_9 : decode cX5_readProduct 9 = .ok (.sipush 150, 3) := by decide +kernel
theorem dX5_readProduct_12 : decode cX5_readProduct 12 = .ok (.if_icmp .ge 67, 3) := by decide +kernel
theorem dX5_readProduct_15 : decode cX5_readProduct 15 = .ok (.aload_n 1, 1) := by decide +kernel
theorem dX5_readProduct_16 : decode cX5_readProduct 16 = .ok (.invokevirtual 49, 3) := by decide +kernel
theorem dX5_readProduct_19 : decode cX5_readProduct 19 = .ok (.ifCond .ne 60, 3) := by decide +kernel
theorem dX5_readProduct_22 : decode cX5_readProduct 22 = .ok (.aload_n 1, 1) := by decide +kernel
theorem dX5_readProduct_23 : decode cX5_readProduct 23 = .ok (.bipush 42, 2) := by decide +kernel
theorem dX5_readProduct_25 : decode cX5_readProduct 25 = .ok (.invokevirtual 63, 3) := by decide +kernel
theorem dX5_readProduct_28 : decode cX5_readProduct 28 = .ok (.ifCond .eq 19, 3) := by decide +kernel
theorem dX5_readProduct_31 : decode cX5_readProduct 31 = .ok (.aload_n 0, 1) := by decide +kernel
theorem dX5_readProduct_32 : decode cX5_readProduct 32 = .ok (.aload_n 1, 1) := by decide +kernel
theorem dX5_readProduct_33 : decode cX5_readProduct 33 = .ok (.iload_n 2, 1) := by decide +kernel
theorem dX5_readProduct_34 : decode cX5_readProduct 34 = .ok (.invokevirtual 71, 3) := by decide +kernel
theorem dX5_readProduct_37 : decode cX5_readProduct 37 = .ok (.aload_n 0, 1) := by decide +kernel
theorem dX5_readProduct_38 : decode cX5_readProduct 38 = .ok (.sipush 2004, 3) := by decide +kernel
theorem dX5_readProduct_41 : decode cX5_readProduct 41 = .ok (.invokevirtual 67, 3) := by decide +kernel
theorem dX5_readProduct_44 : decode cX5_readProduct 44 = .ok (.goto 29, 3) := by decide +kernel
theorem dX5_readProduct_47 : decode cX5_readProduct 47 = .ok (.aload_n 1, 1) := by decide +kernel
theorem dX5_readProduct_48 : decode cX5_readProduct 48 = .ok (.bipush 47, 2) := by decide +kernel
theorem dX5_readProduct_50 : decode cX5_readProduct 50 = .ok (.invokevirtual 63, 3) := by decide +kernel
theorem dX5_readProduct_53 : decode cX5_readProduct 53 = .ok (.ifCond .eq 19, 3) := by decide +kernel
theorem dX5_readProduct_56 : decode cX5_readProduct 56 = .ok (.aload_n 0, 1) := by decide +kernel
theorem dX5_readProduct_57 : decode cX5_readProduct 57 = .ok (.aload_n 1, 1) := by decide +kernel
theorem dX5_readProduct_58 : decode cX5_readProduct 58 = .ok (.iload_n 2, 1) := by decide +kernel
theorem dX5_readProduct_59 : decode cX5_readProduct 59 = .ok (.invokevirtual 71, 3) := by decide +kernel
theorem dX5_readProduct_62 : decode cX5_readProduct 62 = .ok (.aload_n 0, 1) := by decide +kernel
theorem dX5_readProduct_63 : decode cX5_readProduct 63 = .ok (.sipush 2005, 3) := by decide +kernel
theorem dX5_readProduct_66 : decode cX5_readProduct 66 = .ok (.invokevirtual 67, 3) := by decide +kernel
theorem dX5_readProduct_69 : decode cX5_readProduct 69 = .ok (.goto 4, 3) := by decide +kernel
theorem dX5_readProduct_72 : decode cX5_readProduct 72 = .ok (.return_, 1) := by decide +kernel
theorem dX5_readProduct_73 : decode cX5_readProduct 73 = .ok (.iinc 3 1, 3) := by decide +kernel
theorem dX5_readProduct_76 : decode cX5_readProduct 76 = .ok (.goto (-68), 3) := by decide +kernel
theorem dX5_readProduct_79 : decode cX5_readProduct 79 = .ok (.return_, 1) := by decide +kernel
theorem dX5_readUnit_0 : decode cX5_readUnit 0 = .ok (.aload_n 1, 1) := by decide +kernel
theorem dX5_readUnit_1 : decode cX5_readUnit 1 = .ok (.invokevirtual 36, 3) := by decide +kernel
theorem dX5_readUnit_4 : decode cX5_readUnit 4 = .ok (.invokestatic 74, 3) := by decide +kernel
theorem dX5_readUnit_7 : decode cX5_readUnit 7 = .ok (.ifCond .eq 15, 3) := by decide +kernel
theorem dX5_readUnit_10 : decode cX5_readUnit 10 = .ok (.aload_n 0, 1) := by decide +kernel
theorem dX5_readUnit_11 : decode cX5_readUnit 11 = .ok (.aload_n 1, 1) := by decide +kernel
theorem dX5_readUnit_12 : decode cX5_readUnit 12 = .ok (.sipush 999, 3) := by decide +kernel
theorem dX5_readUnit_15 : decode cX5_readUnit 15 = .ok (.invokevirtual 78, 3) := by decide +kernel
theorem dX5_readUnit_18 : decode cX5_readUnit 18 = .ok (.invokevirtual 67, 3) := by decide +kernel
theorem dX5_readUnit_21 : decode cX5_readUnit 21 = .ok (.return_, 1) := by decide +kernel
theorem dX5_readUnit_22 : decode cX5_readUnit 22 = .ok (.aload_n 1, 1) := by decide +kernel
theorem dX5_readUnit_23 : decode cX5_readUnit 23 = .ok (.bipush 40, 2) := by decide +kernel
theorem dX5_readUnit_25 : decode cX5_readUnit 25 = .ok (.invokevirtual 63, 3) := by decide +kernel
theorem dX5_readUnit_28 : decode cX5_readUnit 28 = .ok (.ifCond .eq 26, 3) := by decide +kernel
theorem dX5_readUnit_31 : decode cX5_readUnit 31 = .ok (.aload_n 1, 1) := by decide +kernel
theorem dX5_readUnit_32 : decode cX5_readUnit 32 = .ok (.iload_n 2, 1) := by decide +kernel
theorem dX5_readUnit_33 : decode cX5_readUnit 33 = .ok (.invokestatic 82, 3) := by decide +kernel
theorem dX5_readUnit_36 : decode cX5_readUnit 36 = .ok (.ifCond .ne 17, 3) := by decide +kernel
theorem dX5_readUnit_39 : decode cX5_readUnit 39 = .ok (.aload_n 0, 1) := by decide +kernel
theorem dX5_readUnit_40 : decode cX5_readUnit 40 = .ok (.aload_n 1, 1) := by decide +kernel
theorem dX5_readUnit_41 : decode cX5_readUnit 41 = .ok (.iload_n 2, 1) := by decide +kernel
theorem dX5_readUnit_42 : decode cX5_readUnit 42 = .ok (.iconst 1, 1) := by decide +kernel
theorem dX5_readUnit_43 : decode cX5_readUnit 43 = .ok (.iadd, 1) := by decide +kernel
theorem dX5_readUnit_44 : decode cX5_readUnit 44 = .ok (.invokevirtual 32, 3) := by decide +kernel
theorem dX5_readUnit_47 : decode cX5_readUnit 47 = .ok (.aload_n 1, 1) := by decide +kernel
theorem dX5_readUnit_48 : decode cX5_readUnit 48 = .ok (.bipush 41, 2) := by decide +kernel
theorem dX5_readUnit_50 : decode cX5_readUnit 50 = .ok (.invokevirtual 86, 3) := by decide +kernel
theorem dX5_readUnit_53 : decode cX5_readUnit 53 = .ok (.return_, 1) := by decide +kernel
theorem dX5_readUnit_54 : decode cX5_readUnit 54 = .ok (.aload_n 1, 1) := by decide +kernel
theorem dX5_readUnit_55 : decode cX5_readUnit 55 = .ok (.ldc 90, 2) := by decide +kernel
theorem dX5_readUnit_57 : decode cX5_readUnit 57 = .ok (.invokevirtual 92, 3) := by decide +kernel
theorem dX5_readUnit_60 : decode cX5_readUnit 60 = .ok (.istore_n 3, 1) := by decide +kernel
theorem dX5_readUnit_61 : decode cX5_readUnit 61 = .ok (.iload_n 3, 1) := by decide +kernel
theorem dX5_readUnit_62 : decode cX5_readUnit 62 = .ok (.iconst (-1), 1) := by decide +kernel
theorem dX5_readUnit_63 : decode cX5_readUnit 63 = .ok (.if_icmp .ne 15, 3) := by decide +kernel
theorem dX5_readUnit_66 : decode cX5_readUnit 66 = .ok (.aload_n 1, 1) := by decide +kernel
theorem dX5_readUnit_67 : decode cX5_readUnit 67 = .ok (.iconst 1, 1) := by decide +kernel
theorem dX5_readUnit_68 : decode cX5_readUnit 68 = .ok (.aload_n 1, 1) := by decide +kernel
theorem dX5_readUnit_69 : decode cX5_readUnit 69 = .ok (.getfield 42, 3) := by decide +kernel
theorem dX5_readUnit_72 : decode cX5_readUnit 72 = .ok (.invokevirtual 45, 3) := by decide +kernel
theorem dX5_readUnit_75 : decode cX5_readUnit 75 = .ok (.goto 35, 3) := by decide +kernel
theorem dX5_readUnit_78 : decode cX5_readUnit 78 = .ok (.iload_n 3, 1) := by decide +kernel
theorem dX5_readUnit_79 : decode cX5_readUnit 79 = .ok (.bipush 9, 2) := by decide +kernel
theorem dX5_readUnit_81 : decode cX5_readUnit 81 = .ok (.if_icmp .ge 15, 3) := by decide +kernel
theorem dX5_readUnit_84 : decode cX5_readUnit 84 = .ok (.aload_n 0, 1) := by decide +kernel
theorem dX5_readUnit_85 : decode cX5_readUnit 85 = .ok (.sipush 1000, 3) := by decide +kernel
theorem dX5_readUnit_88 : decode cX5_readUnit 88 = .ok (.iload_n 3, 1) := by decide +kernel
theorem dX5_readUnit_89 : decode cX5_readUnit 89 = .ok (.iadd, 1) := by decide +kernel
theorem dX5_readUnit_90 : decode cX5_readUnit 90 = .ok (.invokevirtual 67, 3) := by decide +kernel
theorem dX5_readUnit_93 : decode cX5_readUnit 93 = .ok (.goto 17, 3) := by decide +kernel
theorem dX5_readUnit_96 : decode cX5_readUnit 96 = .ok (.aload_n 0, 1) := by decide +kernel
theorem dX5_readUnit_97 : decode cX5_readUnit 97 = .ok (.aload_n 1, 1) := by decide +kernel
theorem dX5_readUnit_98 : decode cX5_readUnit 98 = .ok (.iload_n 2, 1) := by decide +kernel
theorem dX5_readUnit_99 : decode cX5_readUnit 99 = .ok (.sipush 2000, 3) := by decide +kernel
theorem dX5_readUnit_102 : decode cX5_readUnit 102 = .ok (.iload_n 3, 1) := by decide +kernel
theorem dX5_readUnit_103 : decode cX5_readUnit 103 = .ok (.iadd, 1) := by decide +kernel
theorem dX5_readUnit_104 : decode cX5_readUnit 104 = .ok (.bipush 9, 2) := by decide +kernel
theorem dX5_readUnit_106 : decode cX5_readUnit 106 = .ok (.isub, 1) := by decide +kernel
theorem dX5_readUnit_107 : decode cX5_readUnit 107 = .ok (.invokevirtual 96, 3) := by decide +kernel
theorem dX5_readUnit_110 : decode cX5_readUnit 110 = .ok (.return_, 1) := by decide +kernel
theorem dX5_readTwo_0 : decode cX5_readTwo 0 = .ok (.aload_n 1, 1) := by decide +kernel
theorem dX5_readTwo_1 : decode cX5_readTwo 1 = .ok (.iload_n 2, 1) := by decide +kernel
theorem dX5_readTwo_2 : decode cX5_readTwo 2 = .ok (.invokestatic 82, 3) := by decide +kernel
theorem dX5_readTwo_5 : decode cX5_readTwo 5 = .ok (.ifCond .eq 4, 3) := by decide +kernel
theorem dX5_readTwo_8 : decode cX5_readTwo 8 = .ok (.return_, 1) := by decide +kernel
theorem dX5_readTwo_9 : decode cX5_readTwo 9 = .ok (.aload_n 1, 1) := by decide +kernel
theorem dX5_readTwo_10 : decode cX5_readTwo 10 = .ok (.bipush 91, 2) := by decide +kernel
theorem dX5_readTwo_12 : decode cX5_readTwo 12 = .ok (.invokevirtual 86, 3) := by decide +kernel
theorem dX5_readTwo_15 : decode cX5_readTwo 15 = .ok (.aload_n 0, 1) := by decide +kernel
theorem dX5_readTwo_16 : decode cX5_readTwo 16 = .ok (.aload_n 1, 1) := by decide +kernel
theorem dX5_readTwo_17 : decode cX5_readTwo 17 = .ok (.iload_n 2, 1) := by decide +kernel
theorem dX5_readTwo_18 : decode cX5_readTwo 18 = .ok (.iconst 1, 1) := by decide +kernel
theorem dX5_readTwo_19 : decode cX5_readTwo 19 = .ok (.iadd, 1) := by decide +kernel
theorem dX5_readTwo_20 : decode cX5_readTwo 20 = .ok (.invokevirtual 32, 3) := by decide +kernel
theorem dX5_readTwo_23 : decode cX5_readTwo 23 = .ok (.aload_n 1, 1) := by decide +kernel
theorem dX5_readTwo_24 : decode cX5_readTwo 24 = .ok (.bipush 44, 2) := by decide +kernel
theorem dX5_readTwo_26 : decode cX5_readTwo 26 = .ok (.invokevirtual 86, 3) := by decide +kernel
theorem dX5_readTwo_29 : decode cX5_readTwo 29 = .ok (.aload_n 0, 1) := by decide +kernel
theorem dX5_readTwo_30 : decode cX5_readTwo 30 = .ok (.aload_n 1, 1) := by decide +kernel
theorem dX5_readTwo_31 : decode cX5_readTwo 31 = .ok (.iload_n 2, 1) := by decide +kernel
theorem dX5_readTwo_32 : decode cX5_readTwo 32 = .ok (.iconst 1, 1) := by decide +kernel
theorem dX5_readTwo_33 : decode cX5_readTwo 33 = .ok (.iadd, 1) := by decide +kernel
theorem dX5_readTwo_34 : decode cX5_readTwo 34 = .ok (.invokevirtual 32, 3) := by decide +kernel
theorem dX5_readTwo_37 : decode cX5_readTwo 37 = .ok (.aload_n 1, 1) := by decide +kernel
theorem dX5_readTwo_38 : decode cX5_readTwo 38 = .ok (.bipush 93, 2) := by decide +kernel
theorem dX5_readTwo_40 : decode cX5_readTwo 40 = .ok (.invokevirtual 86, 3) := by decide +kernel
theorem dX5_readTwo_43 : decode cX5_readTwo 43 = .ok (.aload_n 0, 1) := by decide +kernel
theorem dX5_readTwo_44 : decode cX5_readTwo 44 = .ok (.iload_n 3, 1) := by decide +kernel
theorem dX5_readTwo_45 : decode cX5_readTwo 45 = .ok (.invokevirtual 67, 3) := by decide +kernel
theorem dX5_readTwo_48 : decode cX5_readTwo 48 = .ok (.return_, 1) := by decide +kernel
theorem dX5_isDeepest_0 : decode cX5_isDeepest 0 = .ok (.iload_n 1, 1) := by decide +kernel
theorem dX5_isDeepest_1 : decode cX5_isDeepest 1 = .ok (.bipush 6, 2) := by decide +kernel
theorem dX5_isDeepest_3 : decode cX5_isDeepest 3 = .ok (.if_icmp .ge 5, 3) := by decide +kernel
theorem dX5_isDeepest_6 : decode cX5_isDeepest 6 = .ok (.iconst 0, 1) := by decide +kernel
theorem dX5_isDeepest_7 : decode cX5_isDeepest 7 = .ok (.ireturn, 1) := by decide +kernel
theorem dX5_isDeepest_8 : decode cX5_isDeepest 8 = .ok (.aload_n 0, 1) := by decide +kernel
theorem dX5_isDeepest_9 : decode cX5_isDeepest 9 = .ok (.iconst 3, 1) := by decide +kernel
theorem dX5_isDeepest_10 : decode cX5_isDeepest 10 = .ok (.aload_n 0, 1) := by decide +kernel
theorem dX5_isDeepest_11 : decode cX5_isDeepest 11 = .ok (.getfield 100, 3) := by decide +kernel
theorem dX5_isDeepest_14 : decode cX5_isDeepest 14 = .ok (.invokevirtual 45, 3) := by decide +kernel
theorem dX5_isDeepest_17 : decode cX5_isDeepest 17 = .ok (.iconst 1, 1) := by decide +kernel
theorem dX5_isDeepest_18 : decode cX5_isDeepest 18 = .ok (.ireturn, 1) := by decide +kernel
theorem dX5_write_0 : decode cX5_write 0 = .ok (.aload_n 0, 1) := by decide +kernel
theorem dX5_write_1 : decode cX5_write 1 = .ok (.getfield 15, 3) := by decide +kernel
theorem dX5_write_4 : decode cX5_write 4 = .ok (.aload_n 0, 1) := by decide +kernel
theorem dX5_write_5 : decode cX5_write 5 = .ok (.getfield 28, 3) := by decide +kernel
theorem dX5_write_8 : decode cX5_write 8 = .ok (.iload_n 1, 1) := by decide +kernel
theorem dX5_write_9 : decode cX5_write 9 = .ok (.invokestatic 103, 3) := by decide +kernel
theorem dX5_write_12 : decode cX5_write 12 = .ok (.aload_n 0, 1) := by decide +kernel
theorem dX5_write_13 : decode cX5_write 13 = .ok (.dup, 1) := by decide +kernel
theorem dX5_write_14 : decode cX5_write 14 = .ok (.getfield 28, 3) := by decide +kernel
theorem dX5_write_17 : decode cX5_write 17 = .ok (.iconst 1, 1) := by decide +kernel
theorem dX5_write_18 : decode cX5_write 18 = .ok (.iadd, 1) := by decide +kernel
theorem dX5_write_19 : decode cX5_write 19 = .ok (.putfield 28, 3) := by decide +kernel
theorem dX5_write_22 : decode cX5_write 22 = .ok (.return_, 1) := by decide +kernel
theorem dX5_seats_0 : decode cX5_seats 0 = .ok (.aload_n 0, 1) := by decide +kernel
theorem dX5_seats_1 : decode cX5_seats 1 = .ok (.getfield 24, 3) := by decide +kernel
theorem dX5_seats_4 : decode cX5_seats 4 = .ok (.ifCond .ne 19, 3) := by decide +kernel
theorem dX5_seats_7 : decode cX5_seats 7 = .ok (.iload_n 1, 1) := by decide +kernel
theorem dX5_seats_8 : decode cX5_seats 8 = .ok (.invokestatic 107, 3) := by decide +kernel
theorem dX5_seats_11 : decode cX5_seats 11 = .ok (.bipush 9, 2) := by decide +kernel
theorem dX5_seats_13 : decode cX5_seats 13 = .ok (.isub, 1) := by decide +kernel
theorem dX5_seats_14 : decode cX5_seats 14 = .ok (.ifCond .le 7, 3) := by decide +kernel
theorem dX5_seats_17 : decode cX5_seats 17 = .ok (.iconst 1, 1) := by decide +kernel
theorem dX5_seats_18 : decode cX5_seats 18 = .ok (.goto 4, 3) := by decide +kernel
theorem dX5_seats_21 : decode cX5_seats 21 = .ok (.iconst 0, 1) := by decide +kernel
theorem dX5_seats_22 : decode cX5_seats 22 = .ok (.ireturn, 1) := by decide +kernel
theorem dX5_seats_23 : decode cX5_seats 23 = .ok (.iconst 0, 1) := by decide +kernel
theorem dX5_seats_24 : decode cX5_seats 24 = .ok (.istore 7, 2) := by decide +kernel
theorem dX5_seats_26 : decode cX5_seats 26 = .ok (.iload 7, 2) := by decide +kernel
theorem dX5_seats_28 : decode cX5_seats 28 = .ok (.iconst 3, 1) := by decide +kernel
theorem dX5_seats_29 : decode cX5_seats 29 = .ok (.if_icmp .ge 24, 3) := by decide +kernel
theorem dX5_seats_32 : decode cX5_seats 32 = .ok (.aload_n 0, 1) := by decide +kernel
theorem dX5_seats_33 : decode cX5_seats 33 = .ok (.getfield 21, 3) := by decide +kernel
theorem dX5_seats_36 : decode cX5_seats 36 = .ok (.iload 7, 2) := by decide +kernel
theorem dX5_seats_38 : decode cX5_seats 38 = .ok (.iload_n 1, 1) := by decide +kernel
theorem dX5_seats_39 : decode cX5_seats 39 = .ok (.iload 7, 2) := by decide +kernel
theorem dX5_seats_41 : decode cX5_seats 41 = .ok (.invokestatic 110, 3) := by decide +kernel
theorem dX5_seats_44 : decode cX5_seats 44 = .ok (.invokestatic 103, 3) := by decide +kernel
theorem dX5_seats_47 : decode cX5_seats 47 = .ok (.iinc 7 1, 3) := by decide +kernel
theorem dX5_seats_50 : decode cX5_seats 50 = .ok (.goto (-24), 3) := by decide +kernel
theorem dX5_seats_53 : decode cX5_seats 53 = .ok (.aload_n 0, 1) := by decide +kernel
theorem dX5_seats_54 : decode cX5_seats 54 = .ok (.getfield 21, 3) := by decide +kernel
theorem dX5_seats_57 : decode cX5_seats 57 = .ok (.iconst 3, 1) := by decide +kernel
theorem dX5_seats_58 : decode cX5_seats 58 = .ok (.iload_n 1, 1) := by decide +kernel
theorem dX5_seats_59 : decode cX5_seats 59 = .ok (.invokestatic 107, 3) := by decide +kernel
theorem dX5_seats_62 : decode cX5_seats 62 = .ok (.invokestatic 103, 3) := by decide +kernel
theorem dX5_seats_65 : decode cX5_seats 65 = .ok (.aload_n 0, 1) := by decide +kernel
theorem dX5_seats_66 : decode cX5_seats 66 = .ok (.getfield 21, 3) := by decide +kernel
theorem dX5_seats_69 : decode cX5_seats 69 = .ok (.iconst 4, 1) := by decide +kernel
theorem dX5_seats_70 : decode cX5_seats 70 = .ok (.iload_n 2, 1) := by decide +kernel
theorem dX5_seats_71 : decode cX5_seats 71 = .ok (.invokestatic 103, 3) := by decide +kernel
theorem dX5_seats_74 : decode cX5_seats 74 = .ok (.aload_n 0, 1) := by decide +kernel
theorem dX5_seats_75 : decode cX5_seats 75 = .ok (.getfield 21, 3) := by decide +kernel
theorem dX5_seats_78 : decode cX5_seats 78 = .ok (.iconst 5, 1) := by decide +kernel
theorem dX5_seats_79 : decode cX5_seats 79 = .ok (.iload_n 3, 1) := by decide +kernel
theorem dX5_seats_80 : decode cX5_seats 80 = .ok (.invokestatic 103, 3) := by decide +kernel
theorem dX5_seats_83 : decode cX5_seats 83 = .ok (.aload_n 0, 1) := by decide +kernel
theorem dX5_seats_84 : decode cX5_seats 84 = .ok (.getfield 21, 3) := by decide +kernel
theorem dX5_seats_87 : decode cX5_seats 87 = .ok (.bipush 6, 2) := by decide +kernel
theorem dX5_seats_89 : decode cX5_seats 89 = .ok (.iload 4, 2) := by decide +kernel
theorem dX5_seats_91 : decode cX5_seats 91 = .ok (.invokestatic 103, 3) := by decide +kernel
theorem dX5_seats_94 : decode cX5_seats 94 = .ok (.aload_n 0, 1) := by decide +kernel
theorem dX5_seats_95 : decode cX5_seats 95 = .ok (.getfield 21, 3) := by decide +kernel
theorem dX5_seats_98 : decode cX5_seats 98 = .ok (.bipush 7, 2) := by decide +kernel
theorem dX5_seats_100 : decode cX5_seats 100 = .ok (.iload 5, 2) := by decide +kernel
theorem dX5_seats_102 : decode cX5_seats 102 = .ok (.invokestatic 103, 3) := by decide +kernel
theorem dX5_seats_105 : decode cX5_seats 105 = .ok (.aload_n 0, 1) := by decide +kernel
theorem dX5_seats_106 : decode cX5_seats 106 = .ok (.getfield 21, 3) := by decide +kernel
theorem dX5_seats_109 : decode cX5_seats 109 = .ok (.bipush 8, 2) := by decide +kernel
theorem dX5_seats_111 : decode cX5_seats 111 = .ok (.iload 6, 2) := by decide +kernel
theorem dX5_seats_113 : decode cX5_seats 113 = .ok (.invokestatic 103, 3) := by decide +kernel
theorem dX5_seats_116 : decode cX5_seats 116 = .ok (.aload_n 0, 1) := by decide +kernel
theorem dX5_seats_117 : decode cX5_seats 117 = .ok (.invokevirtual 114, 3) := by decide +kernel
theorem dX5_seats_120 : decode cX5_seats 120 = .ok (.ifCond .le 7, 3) := by decide +kernel
theorem dX5_seats_123 : decode cX5_seats 123 = .ok (.iconst 1, 1) := by decide +kernel
theorem dX5_seats_124 : decode cX5_seats 124 = .ok (.goto 4, 3) := by decide +kernel
theorem dX5_seats_127 : decode cX5_seats 127 = .ok (.iconst 0, 1) := by decide +kernel
theorem dX5_seats_128 : decode cX5_seats 128 = .ok (.ireturn, 1) := by decide +kernel
theorem dX5_worth_0 : decode cX5_worth 0 = .ok (.iconst 0, 1) := by decide +kernel
theorem dX5_worth_1 : decode cX5_worth 1 = .ok (.istore_n 1, 1) := by decide +kernel
theorem dX5_worth_2 : decode cX5_worth 2 = .ok (.iconst 0, 1) := by decide +kernel
theorem dX5_worth_3 : decode cX5_worth 3 = .ok (.istore_n 2, 1) := by decide +kernel
theorem dX5_worth_4 : decode cX5_worth 4 = .ok (.iload_n 2, 1) := by decide +kernel
theorem dX5_worth_5 : decode cX5_worth 5 = .ok (.aload_n 0, 1) := by decide +kernel
theorem dX5_worth_6 : decode cX5_worth 6 = .ok (.getfield 57, 3) := by decide +kernel
theorem dX5_worth_9 : decode cX5_worth 9 = .ok (.if_icmp .ge 97, 3) := by decide +kernel
theorem dX5_worth_12 : decode cX5_worth 12 = .ok (.aload_n 0, 1) := by decide +kernel
theorem dX5_worth_13 : decode cX5_worth 13 = .ok (.getfield 9, 3) := by decide +kernel
theorem dX5_worth_16 : decode cX5_worth 16 = .ok (.iload_n 2, 1) := by decide +kernel
theorem dX5_worth_17 : decode cX5_worth 17 = .ok (.invokestatic 117, 3) := by decide +kernel
theorem dX5_worth_20 : decode cX5_worth 20 = .ok (.istore_n 3, 1) := by decide +kernel
theorem dX5_worth_21 : decode cX5_worth 21 = .ok (.iload_n 3, 1) := by decide +kernel
theorem dX5_worth_22 : decode cX5_worth 22 = .ok (.sipush 2000, 3) := by decide +kernel
theorem dX5_worth_25 : decode cX5_worth 25 = .ok (.if_icmp .lt 41, 3) := by decide +kernel
theorem dX5_worth_28 : decode cX5_worth 28 = .ok (.iinc 1 (-1), 3) := by decide +kernel
theorem dX5_worth_31 : decode cX5_worth 31 = .ok (.aload_n 0, 1) := by decide +kernel
theorem dX5_worth_32 : decode cX5_worth 32 = .ok (.getfield 18, 3) := by decide +kernel
theorem dX5_worth_35 : decode cX5_worth 35 = .ok (.iload_n 1, 1) := by decide +kernel
theorem dX5_worth_36 : decode cX5_worth 36 = .ok (.iconst 1, 1) := by decide +kernel
theorem dX5_worth_37 : decode cX5_worth 37 = .ok (.isub, 1) := by decide +kernel
theorem dX5_worth_38 : decode cX5_worth 38 = .ok (.iload_n 3, 1) := by decide +kernel
theorem dX5_worth_39 : decode cX5_worth 39 = .ok (.aload_n 0, 1) := by decide +kernel
theorem dX5_worth_40 : decode cX5_worth 40 = .ok (.getfield 18, 3) := by decide +kernel
theorem dX5_worth_43 : decode cX5_worth 43 = .ok (.iload_n 1, 1) := by decide +kernel
theorem dX5_worth_44 : decode cX5_worth 44 = .ok (.iconst 1, 1) := by decide +kernel
theorem dX5_worth_45 : decode cX5_worth 45 = .ok (.isub, 1) := by decide +kernel
theorem dX5_worth_46 : decode cX5_worth 46 = .ok (.invokestatic 117, 3) := by decide +kernel
theorem dX5_worth_49 : decode cX5_worth 49 = .ok (.aload_n 0, 1) := by decide +kernel
theorem dX5_worth_50 : decode cX5_worth 50 = .ok (.getfield 18, 3) := by decide +kernel
theorem dX5_worth_53 : decode cX5_worth 53 = .ok (.iload_n 1, 1) := by decide +kernel
theorem dX5_worth_54 : decode cX5_worth 54 = .ok (.invokestatic 117, 3) := by decide +kernel
theorem dX5_worth_57 : decode cX5_worth 57 = .ok (.invokestatic 121, 3) := by decide +kernel
theorem dX5_worth_60 : decode cX5_worth 60 = .ok (.invokestatic 103, 3) := by decide +kernel
theorem dX5_worth_63 : decode cX5_worth 63 = .ok (.goto 37, 3) := by decide +kernel
theorem dX5_worth_66 : decode cX5_worth 66 = .ok (.aload_n 0, 1) := by decide +kernel
theorem dX5_worth_67 : decode cX5_worth 67 = .ok (.getfield 18, 3) := by decide +kernel
theorem dX5_worth_70 : decode cX5_worth 70 = .ok (.iload_n 1, 1) := by decide +kernel
theorem dX5_worth_71 : decode cX5_worth 71 = .ok (.iload_n 3, 1) := by decide +kernel
theorem dX5_worth_72 : decode cX5_worth 72 = .ok (.sipush 1000, 3) := by decide +kernel
theorem dX5_worth_75 : decode cX5_worth 75 = .ok (.if_icmp .lt 18, 3) := by decide +kernel
theorem dX5_worth_78 : decode cX5_worth 78 = .ok (.aload_n 0, 1) := by decide +kernel
theorem dX5_worth_79 : decode cX5_worth 79 = .ok (.getfield 21, 3) := by decide +kernel
theorem dX5_worth_82 : decode cX5_worth 82 = .ok (.iload_n 3, 1) := by decide +kernel
theorem dX5_worth_83 : decode cX5_worth 83 = .ok (.sipush 1000, 3) := by decide +kernel
theorem dX5_worth_86 : decode cX5_worth 86 = .ok (.isub, 1) := by decide +kernel
theorem dX5_worth_87 : decode cX5_worth 87 = .ok (.invokestatic 117, 3) := by decide +kernel
theorem dX5_worth_90 : decode cX5_worth 90 = .ok (.goto 4, 3) := by decide +kernel
theorem dX5_worth_93 : decode cX5_worth 93 = .ok (.iload_n 3, 1) := by decide +kernel
theorem dX5_worth_94 : decode cX5_worth 94 = .ok (.invokestatic 103, 3) := by decide +kernel
theorem dX5_worth_97 : decode cX5_worth 97 = .ok (.iinc 1 1, 3) := by decide +kernel
theorem dX5_worth_100 : decode cX5_worth 100 = .ok (.iinc 2 1, 3) := by decide +kernel
theorem dX5_worth_103 : decode cX5_worth 103 = .ok (.goto (-99), 3) := by decide +kernel
theorem dX5_worth_106 : decode cX5_worth 106 = .ok (.aload_n 0, 1) := by decide +kernel
theorem dX5_worth_107 : decode cX5_worth 107 = .ok (.getfield 18, 3) := by decide +kernel
theorem dX5_worth_110 : decode cX5_worth 110 = .ok (.iconst 0, 1) := by decide +kernel
theorem dX5_worth_111 : decode cX5_worth 111 = .ok (.invokestatic 117, 3) := by decide +kernel
theorem dX5_worth_114 : decode cX5_worth 114 = .ok (.ireturn, 1) := by decide +kernel
theorem dX5_joined_0 : decode cX5_joined 0 = .ok (.iload_n 0, 1) := by decide +kernel
theorem dX5_joined_1 : decode cX5_joined 1 = .ok (.tableswitch 59 2000 2004 #[47, 53, 35, 39, 43], 35) := by decide +kernel
theorem dX5_joined_36 : decode cX5_joined 36 = .ok (.iload_n 1, 1) := by decide +kernel
theorem dX5_joined_37 : decode cX5_joined 37 = .ok (.iload_n 2, 1) := by decide +kernel
theorem dX5_joined_38 : decode cX5_joined 38 = .ok (.iadd, 1) := by decide +kernel
theorem dX5_joined_39 : decode cX5_joined 39 = .ok (.ireturn, 1) := by decide +kernel
theorem dX5_joined_40 : decode cX5_joined 40 = .ok (.iload_n 1, 1) := by decide +kernel
theorem dX5_joined_41 : decode cX5_joined 41 = .ok (.iload_n 2, 1) := by decide +kernel
theorem dX5_joined_42 : decode cX5_joined 42 = .ok (.isub, 1) := by decide +kernel
theorem dX5_joined_43 : decode cX5_joined 43 = .ok (.ireturn, 1) := by decide +kernel
theorem dX5_joined_44 : decode cX5_joined 44 = .ok (.iload_n 1, 1) := by decide +kernel
theorem dX5_joined_45 : decode cX5_joined 45 = .ok (.iload_n 2, 1) := by decide +kernel
theorem dX5_joined_46 : decode cX5_joined 46 = .ok (.imul, 1) := by decide +kernel
theorem dX5_joined_47 : decode cX5_joined 47 = .ok (.ireturn, 1) := by decide +kernel
theorem dX5_joined_48 : decode cX5_joined 48 = .ok (.iload_n 1, 1) := by decide +kernel
theorem dX5_joined_49 : decode cX5_joined 49 = .ok (.iload_n 2, 1) := by decide +kernel
theorem dX5_joined_50 : decode cX5_joined 50 = .ok (.invokestatic 125, 3) := by decide +kernel
theorem dX5_joined_53 : decode cX5_joined 53 = .ok (.ireturn, 1) := by decide +kernel
theorem dX5_joined_54 : decode cX5_joined 54 = .ok (.iload_n 1, 1) := by decide +kernel
theorem dX5_joined_55 : decode cX5_joined 55 = .ok (.iload_n 2, 1) := by decide +kernel
theorem dX5_joined_56 : decode cX5_joined 56 = .ok (.invokestatic 130, 3) := by decide +kernel
theorem dX5_joined_59 : decode cX5_joined 59 = .ok (.ireturn, 1) := by decide +kernel
theorem dX5_joined_60 : decode cX5_joined 60 = .ok (.iload_n 2, 1) := by decide +kernel
theorem dX5_joined_61 : decode cX5_joined 61 = .ok (.ifCond .ne 7, 3) := by decide +kernel
theorem dX5_joined_64 : decode cX5_joined 64 = .ok (.iconst 0, 1) := by decide +kernel
theorem dX5_joined_65 : decode cX5_joined 65 = .ok (.goto 6, 3) := by decide +kernel
theorem dX5_joined_68 : decode cX5_joined 68 = .ok (.iload_n 1, 1) := by decide +kernel
theorem dX5_joined_69 : decode cX5_joined 69 = .ok (.iload_n 2, 1) := by decide +kernel
theorem dX5_joined_70 : decode cX5_joined 70 = .ok (.idiv, 1) := by decide +kernel
theorem dX5_joined_71 : decode cX5_joined 71 = .ok (.ireturn, 1) := by decide +kernel
theorem dX6_init_0 : decode cX6_init 0 = .ok (.aload_n 0, 1) := by decide +kernel
theorem dX6_init_1 : decode cX6_init 1 = .ok (.invokespecial 3, 3) := by decide +kernel
theorem dX6_init_4 : decode cX6_init 4 = .ok (.aload_n 0, 1) := by decide +kernel
theorem dX6_init_5 : decode cX6_init 5 = .ok (.sipush 1000, 3) := by decide +kernel
theorem dX6_init_8 : decode cX6_init 8 = .ok (.newarray .int, 2) := by decide +kernel
theorem dX6_init_10 : decode cX6_init 10 = .ok (.putfield 9, 3) := by decide +kernel
theorem dX6_init_13 : decode cX6_init 13 = .ok (.aload_n 0, 1) := by decide +kernel
theorem dX6_init_14 : decode cX6_init 14 = .ok (.sipush 1000, 3) := by decide +kernel
theorem dX6_init_17 : decode cX6_init 17 = .ok (.newarray .int, 2) := by decide +kernel
theorem dX6_init_19 : decode cX6_init 19 = .ok (.putfield 15, 3) := by decide +kernel
theorem dX6_init_22 : decode cX6_init 22 = .ok (.return_, 1) := by decide +kernel
theorem dX6_fewestDips_0 : decode cX6_fewestDips 0 = .ok (.iload_n 3, 1) := by decide +kernel
theorem dX6_fewestDips_1 : decode cX6_fewestDips 1 = .ok (.istore 4, 2) := by decide +kernel
theorem dX6_fewestDips_3 : decode cX6_fewestDips 3 = .ok (.iload 4, 2) := by decide +kernel
theorem dX6_fewestDips_5 : decode cX6_fewestDips 5 = .ok (.iload_n 2, 1) := by decide +kernel
theorem dX6_fewestDips_6 : decode cX6_fewestDips 6 = .ok (.if_icmp .lt 36, 3) := by decide +kernel
theorem dX6_fewestDips_9 : decode cX6_fewestDips 9 = .ok (.aload_n 0, 1) := by decide +kernel
theorem dX6_fewestDips_10 : decode cX6_fewestDips 10 = .ok (.getfield 9, 3) := by decide +kernel
theorem dX6_fewestDips_13 : decode cX6_fewestDips 13 = .ok (.iload 4, 2) := by decide +kernel
theorem dX6_fewestDips_15 : decode cX6_fewestDips 15 = .ok (.iload 4, 2) := by decide +kernel
theorem dX6_fewestDips_17 : decode cX6_fewestDips 17 = .ok (.iload_n 3, 1) := by decide +kernel
theorem dX6_fewestDips_18 : decode cX6_fewestDips 18 = .ok (.if_icmp .ne 7, 3) := by decide +kernel
theorem dX6_fewestDips_21 : decode cX6_fewestDips 21 = .ok (.iconst 0, 1) := by decide +kernel
theorem dX6_fewestDips_22 : decode cX6_fewestDips 22 = .ok (.goto 11, 3) := by decide +kernel
theorem dX6_fewestDips_25 : decode cX6_fewestDips 25 = .ok (.aload_n 0, 1) := by decide +kernel
theorem dX6_fewestDips_26 : decode cX6_fewestDips 26 = .ok (.aload_n 1, 1) := by decide +kernel
theorem dX6_fewestDips_27 : decode cX6_fewestDips 27 = .ok (.iload 4, 2) := by decide +kernel
theorem dX6_fewestDips_29 : decode cX6_fewestDips 29 = .ok (.iload_n 3, 1) := by decide +kernel
theorem dX6_fewestDips_30 : decode cX6_fewestDips 30 = .ok (.invokevirtual 18, 3) := by decide +kernel
theorem dX6_fewestDips_33 : decode cX6_fewestDips 33 = .ok (.invokestatic 22, 3) := by decide +kernel
theorem dX6_fewestDips_36 : decode cX6_fewestDips 36 = .ok (.iinc 4 (-1), 3) := by decide +kernel
theorem dX6_fewestDips_39 : decode cX6_fewestDips 39 = .ok (.goto (-36), 3) := by decide +kernel
theorem dX6_fewestDips_42 : decode cX6_fewestDips 42 = .ok (.iload_n 2, 1) := by decide +kernel
theorem dX6_fewestDips_43 : decode cX6_fewestDips 43 = .ok (.iload_n 3, 1) := by decide +kernel
theorem dX6_fewestDips_44 : decode cX6_fewestDips 44 = .ok (.if_icmp .le 7, 3) := by decide +kernel
theorem dX6_fewestDips_47 : decode cX6_fewestDips 47 = .ok (.iconst (-1), 1) := by decide +kernel
theorem dX6_fewestDips_48 : decode cX6_fewestDips 48 = .ok (.goto 11, 3) := by decide +kernel
theorem dX6_fewestDips_51 : decode cX6_fewestDips 51 = .ok (.aload_n 0, 1) := by decide +kernel
theorem dX6_fewestDips_52 : decode cX6_fewestDips 52 = .ok (.getfield 9, 3) := by decide +kernel
theorem dX6_fewestDips_55 : decode cX6_fewestDips 55 = .ok (.iload_n 2, 1) := by decide +kernel
theorem dX6_fewestDips_56 : decode cX6_fewestDips 56 = .ok (.invokestatic 26, 3) := by decide +kernel
theorem dX6_fewestDips_59 : decode cX6_fewestDips 59 = .ok (.ireturn, 1) := by decide +kernel
theorem dX6_dipsVia_0 : decode cX6_dipsVia 0 = .ok (.iconst (-1), 1) := by decide +kernel
theorem dX6_dipsVia_1 : decode cX6_dipsVia 1 = .ok (.istore 4, 2) := by decide +kernel
theorem dX6_dipsVia_3 : decode cX6_dipsVia 3 = .ok (.iconst 0, 1) := by decide +kernel
theorem dX6_dipsVia_4 : decode cX6_dipsVia 4 = .ok (.istore 5, 2) := by decide +kernel
theorem dX6_dipsVia_6 : decode cX6_dipsVia 6 = .ok (.iload 5, 2) := by decide +kernel
theorem dX6_dipsVia_8 : decode cX6_dipsVia 8 = .ok (.aload_n 1, 1) := by decide +kernel
theorem dX6_dipsVia_9 : decode cX6_dipsVia 9 = .ok (.getfield 30, 3) := by decide +kernel
theorem dX6_dipsVia_12 : decode cX6_dipsVia 12 = .ok (.if_icmp .ge 71, 3) := by decide +kernel
theorem dX6_dipsVia_15 : decode cX6_dipsVia 15 = .ok (.iload_n 2, 1) := by decide +kernel
theorem dX6_dipsVia_16 : decode cX6_dipsVia 16 = .ok (.aload_n 1, 1) := by decide +kernel
theorem dX6_dipsVia_17 : decode cX6_dipsVia 17 = .ok (.iload 5, 2) := by decide +kernel
theorem dX6_dipsVia_19 : decode cX6_dipsVia 19 = .ok (.invokevirtual 36, 3) := by decide +kernel
theorem dX6_dipsVia_22 : decode cX6_dipsVia 22 = .ok (.invokestatic 40, 3) := by decide +kernel
theorem dX6_dipsVia_25 : decode cX6_dipsVia 25 = .ok (.istore 6, 2) := by decide +kernel
theorem dX6_dipsVia_27 : decode cX6_dipsVia 27 = .ok (.iload 6, 2) := by decide +kernel
theorem dX6_dipsVia_29 : decode cX6_dipsVia 29 = .ok (.iload_n 2, 1) := by decide +kernel
theorem dX6_dipsVia_30 : decode cX6_dipsVia 30 = .ok (.if_icmp .le 47, 3) := by decide +kernel
theorem dX6_dipsVia_33 : decode cX6_dipsVia 33 = .ok (.iload 6, 2) := by decide +kernel
theorem dX6_dipsVia_35 : decode cX6_dipsVia 35 = .ok (.iload_n 3, 1) := by decide +kernel
theorem dX6_dipsVia_36 : decode cX6_dipsVia 36 = .ok (.if_icmp .gt 41, 3) := by decide +kernel
theorem dX6_dipsVia_39 : decode cX6_dipsVia 39 = .ok (.aload_n 0, 1) := by decide +kernel
theorem dX6_dipsVia_40 : decode cX6_dipsVia 40 = .ok (.getfield 9, 3) := by decide +kernel
theorem dX6_dipsVia_43 : decode cX6_dipsVia 43 = .ok (.iload 6, 2) := by decide +kernel
theorem dX6_dipsVia_45 : decode cX6_dipsVia 45 = .ok (.invokestatic 26, 3) := by decide +kernel
theorem dX6_dipsVia_48 : decode cX6_dipsVia 48 = .ok (.istore 7, 2) := by decide +kernel
theorem dX6_dipsVia_50 : decode cX6_dipsVia 50 = .ok (.iload 7, 2) := by decide +kernel
theorem dX6_dipsVia_52 : decode cX6_dipsVia 52 = .ok (.iconst (-1), 1) := by decide +kernel
theorem dX6_dipsVia_53 : decode cX6_dipsVia 53 = .ok (.if_icmp .eq 24, 3) := by decide +kernel
theorem dX6_dipsVia_56 : decode cX6_dipsVia 56 = .ok (.iload 4, 2) := by decide +kernel
theorem dX6_dipsVia_58 : decode cX6_dipsVia 58 = .ok (.iconst (-1), 1) := by decide +kernel
theorem dX6_dipsVia_59 : decode cX6_dipsVia 59 = .ok (.if_icmp .eq 12, 3) := by decide +kernel
theorem dX6_dipsVia_62 : decode cX6_dipsVia 62 = .ok (.iload 7, 2) := by decide +kernel
theorem dX6_dipsVia_64 : decode cX6_dipsVia 64 = .ok (.iconst 1, 1) := by decide +kernel
theorem dX6_dipsVia_65 : decode cX6_dipsVia 65 = .ok (.iadd, 1) := by decide +kernel
theorem dX6_dipsVia_66 : decode cX6_dipsVia 66 = .ok (.iload 4, 2) := by decide +kernel
theorem dX6_dipsVia_68 : decode cX6_dipsVia 68 = .ok (.if_icmp .ge 9, 3) := by decide +kernel
theorem dX6_dipsVia_71 : decode cX6_dipsVia 71 = .ok (.iload 7, 2) := by decide +kernel
theorem dX6_dipsVia_73 : decode cX6_dipsVia 73 = .ok (.iconst 1, 1) := by decide +kernel
theorem dX6_dipsVia_74 : decode cX6_dipsVia 74 = .ok (.iadd, 1) := by decide +kernel
theorem dX6_dipsVia_75 : decode cX6_dipsVia 75 = .ok (.istore 4, 2) := by decide +kernel
theorem dX6_dipsVia_77 : decode cX6_dipsVia 77 = .ok (.iinc 5 1, 3) := by decide +kernel
theorem dX6_dipsVia_80 : decode cX6_dipsVia 80 = .ok (.goto (-74), 3) := by decide +kernel
theorem dX6_dipsVia_83 : decode cX6_dipsVia 83 = .ok (.iload 4, 2) := by decide +kernel
theorem dX6_dipsVia_85 : decode cX6_dipsVia 85 = .ok (.ireturn, 1) := by decide +kernel
theorem dX6_dipOnTheWay_0 : decode cX6_dipOnTheWay 0 = .ok (.aload_n 0, 1) := by decide +kernel
theorem dX6_dipOnTheWay_1 : decode cX6_dipOnTheWay 1 = .ok (.aload_n 1, 1) := by decide +kernel
theorem dX6_dipOnTheWay_2 : decode cX6_dipOnTheWay 2 = .ok (.iload_n 2, 1) := by decide +kernel
theorem dX6_dipOnTheWay_3 : decode cX6_dipOnTheWay 3 = .ok (.iload_n 3, 1) := by decide +kernel
theorem dX6_dipOnTheWay_4 : decode cX6_dipOnTheWay 4 = .ok (.invokevirtual 44, 3) := by decide +kernel
theorem dX6_dipOnTheWay_7 : decode cX6_dipOnTheWay 7 = .ok (.istore 5, 2) := by decide +kernel
theorem dX6_dipOnTheWay_9 : decode cX6_dipOnTheWay 9 = .ok (.iload 4, 2) := by decide +kernel
theorem dX6_dipOnTheWay_11 : decode cX6_dipOnTheWay 11 = .ok (.iload 5, 2) := by decide +kernel
theorem dX6_dipOnTheWay_13 : decode cX6_dipOnTheWay 13 = .ok (.if_icmp .lt 5, 3) := by decide +kernel
theorem dX6_dipOnTheWay_16 : decode cX6_dipOnTheWay 16 = .ok (.iconst (-1), 1) := by decide +kernel
theorem dX6_dipOnTheWay_17 : decode cX6_dipOnTheWay 17 = .ok (.ireturn, 1) := by decide +kernel
theorem dX6_dipOnTheWay_18 : decode cX6_dipOnTheWay 18 = .ok (.iload_n 2, 1) := by decide +kernel
theorem dX6_dipOnTheWay_19 : decode cX6_dipOnTheWay 19 = .ok (.istore 6, 2) := by decide +kernel
theorem dX6_dipOnTheWay_21 : decode cX6_dipOnTheWay 21 = .ok (.iconst 0, 1) := by decide +kernel
theorem dX6_dipOnTheWay_22 : decode cX6_dipOnTheWay 22 = .ok (.istore 7, 2) := by decide +kernel
theorem dX6_dipOnTheWay_24 : decode cX6_dipOnTheWay 24 = .ok (.iload 7, 2) := by decide +kernel
theorem dX6_dipOnTheWay_26 : decode cX6_dipOnTheWay 26 = .ok (.iload 4, 2) := by decide +kernel
theorem dX6_dipOnTheWay_28 : decode cX6_dipOnTheWay 28 = .ok (.if_icmp .ge 28, 3) := by decide +kernel
theorem dX6_dipOnTheWay_31 : decode cX6_dipOnTheWay 31 = .ok (.iload 6, 2) := by decide +kernel
theorem dX6_dipOnTheWay_33 : decode cX6_dipOnTheWay 33 = .ok (.aload_n 1, 1) := by decide +kernel
theorem dX6_dipOnTheWay_34 : decode cX6_dipOnTheWay 34 = .ok (.aload_n 0, 1) := by decide +kernel
theorem dX6_dipOnTheWay_35 : decode cX6_dipOnTheWay 35 = .ok (.aload_n 1, 1) := by decide +kernel
theorem dX6_dipOnTheWay_36 : decode cX6_dipOnTheWay 36 = .ok (.iload 6, 2) := by decide +kernel
theorem dX6_dipOnTheWay_38 : decode cX6_dipOnTheWay 38 = .ok (.iload_n 3, 1) := by decide +kernel
theorem dX6_dipOnTheWay_39 : decode cX6_dipOnTheWay 39 = .ok (.invokevirtual 47, 3) := by decide +kernel
theorem dX6_dipOnTheWay_42 : decode cX6_dipOnTheWay 42 = .ok (.invokevirtual 36, 3) := by decide +kernel
theorem dX6_dipOnTheWay_45 : decode cX6_dipOnTheWay 45 = .ok (.invokestatic 40, 3) := by decide +kernel
theorem dX6_dipOnTheWay_48 : decode cX6_dipOnTheWay 48 = .ok (.istore 6, 2) := by decide +kernel
theorem dX6_dipOnTheWay_50 : decode cX6_dipOnTheWay 50 = .ok (.iinc 7 1, 3) := by decide +kernel
theorem dX6_dipOnTheWay_53 : decode cX6_dipOnTheWay 53 = .ok (.goto (-29), 3) := by decide +kernel
theorem dX6_dipOnTheWay_56 : decode cX6_dipOnTheWay 56 = .ok (.aload_n 0, 1) := by decide +kernel
theorem dX6_dipOnTheWay_57 : decode cX6_dipOnTheWay 57 = .ok (.aload_n 1, 1) := by decide +kernel
theorem dX6_dipOnTheWay_58 : decode cX6_dipOnTheWay 58 = .ok (.iload 6, 2) := by decide +kernel
theorem dX6_dipOnTheWay_60 : decode cX6_dipOnTheWay 60 = .ok (.iload_n 3, 1) := by decide +kernel
theorem dX6_dipOnTheWay_61 : decode cX6_dipOnTheWay 61 = .ok (.invokevirtual 47, 3) := by decide +kernel
theorem dX6_dipOnTheWay_64 : decode cX6_dipOnTheWay 64 = .ok (.ireturn, 1) := by decide +kernel
theorem dX6_firstDip_0 : decode cX6_firstDip 0 = .ok (.iconst 0, 1) := by decide +kernel
theorem dX6_firstDip_1 : decode cX6_firstDip 1 = .ok (.istore 4, 2) := by decide +kernel
theorem dX6_firstDip_3 : decode cX6_firstDip 3 = .ok (.iload 4, 2) := by decide +kernel
theorem dX6_firstDip_5 : decode cX6_firstDip 5 = .ok (.aload_n 1, 1) := by decide +kernel
theorem dX6_firstDip_6 : decode cX6_firstDip 6 = .ok (.getfield 30, 3) := by decide +kernel
theorem dX6_firstDip_9 : decode cX6_firstDip 9 = .ok (.if_icmp .ge 58, 3) := by decide +kernel
theorem dX6_firstDip_12 : decode cX6_firstDip 12 = .ok (.iload_n 2, 1) := by decide +kernel
theorem dX6_firstDip_13 : decode cX6_firstDip 13 = .ok (.aload_n 1, 1) := by decide +kernel
theorem dX6_firstDip_14 : decode cX6_firstDip 14 = .ok (.iload 4, 2) := by decide +kernel
theorem dX6_firstDip_16 : decode cX6_firstDip 16 = .ok (.invokevirtual 36, 3) := by decide +kernel
theorem dX6_firstDip_19 : decode cX6_firstDip 19 = .ok (.invokestatic 40, 3) := by decide +kernel
theorem dX6_firstDip_22 : decode cX6_firstDip 22 = .ok (.istore 5, 2) := by decide +kernel
theorem dX6_firstDip_24 : decode cX6_firstDip 24 = .ok (.iload 5, 2) := by decide +kernel
theorem dX6_firstDip_26 : decode cX6_firstDip 26 = .ok (.iload_n 2, 1) := by decide +kernel
theorem dX6_firstDip_27 : decode cX6_firstDip 27 = .ok (.if_icmp .le 34, 3) := by decide +kernel
theorem dX6_firstDip_30 : decode cX6_firstDip 30 = .ok (.iload 5, 2) := by decide +kernel
theorem dX6_firstDip_32 : decode cX6_firstDip 32 = .ok (.iload_n 3, 1) := by decide +kernel
theorem dX6_firstDip_33 : decode cX6_firstDip 33 = .ok (.if_icmp .gt 28, 3) := by decide +kernel
theorem dX6_firstDip_36 : decode cX6_firstDip 36 = .ok (.aload_n 0, 1) := by decide +kernel
theorem dX6_firstDip_37 : decode cX6_firstDip 37 = .ok (.getfield 9, 3) := by decide +kernel
theorem dX6_firstDip_40 : decode cX6_firstDip 40 = .ok (.iload 5, 2) := by decide +kernel
theorem dX6_firstDip_42 : decode cX6_firstDip 42 = .ok (.invokestatic 26, 3) := by decide +kernel
theorem dX6_firstDip_45 : decode cX6_firstDip 45 = .ok (.aload_n 0, 1) := by decide +kernel
theorem dX6_firstDip_46 : decode cX6_firstDip 46 = .ok (.getfield 9, 3) := by decide +kernel
theorem dX6_firstDip_49 : decode cX6_firstDip 49 = .ok (.iload_n 2, 1) := by decide +kernel
theorem dX6_firstDip_50 : decode cX6_firstDip 50 = .ok (.invokestatic 26, 3) := by decide +kernel
theorem dX6_firstDip_53 : decode cX6_firstDip 53 = .ok (.iconst 1, 1) := by decide +kernel
theorem dX6_firstDip_54 : decode cX6_firstDip 54 = .ok (.isub, 1) := by decide +kernel
theorem dX6_firstDip_55 : decode cX6_firstDip 55 = .ok (.if_icmp .ne 6, 3) := by decide +kernel
theorem dX6_firstDip_58 : decode cX6_firstDip 58 = .ok (.iload 4, 2) := by decide +kernel
theorem dX6_firstDip_60 : decode cX6_firstDip 60 = .ok (.ireturn, 1) := by decide +kernel
theorem dX6_firstDip_61 : decode cX6_firstDip 61 = .ok (.iinc 4 1, 3) := by decide +kernel
theorem dX6_firstDip_64 : decode cX6_firstDip 64 = .ok (.goto (-61), 3) := by decide +kernel
theorem dX6_firstDip_67 : decode cX6_firstDip 67 = .ok (.iconst (-1), 1) := by decide +kernel
theorem dX6_firstDip_68 : decode cX6_firstDip 68 = .ok (.ireturn, 1) := by decide +kernel
theorem dX6_mixAll_0 : decode cX6_mixAll 0 = .ok (.aload_n 0, 1) := by decide +kernel
theorem dX6_mixAll_1 : decode cX6_mixAll 1 = .ok (.getfield 15, 3) := by decide +kernel
theorem dX6_mixAll_4 : decode cX6_mixAll 4 = .ok (.iconst 0, 1) := by decide +kernel
theorem dX6_mixAll_5 : decode cX6_mixAll 5 = .ok (.invokestatic 50, 3) := by decide +kernel
theorem dX6_mixAll_8 : decode cX6_mixAll 8 = .ok (.aload_n 0, 1) := by decide +kernel
theorem dX6_mixAll_9 : decode cX6_mixAll 9 = .ok (.getfield 9, 3) := by decide +kernel
theorem dX6_mixAll_12 : decode cX6_mixAll 12 = .ok (.iconst (-1), 1) := by decide +kernel
theorem dX6_mixAll_13 : decode cX6_mixAll 13 = .ok (.invokestatic 50, 3) := by decide +kernel
theorem dX6_mixAll_16 : decode cX6_mixAll 16 = .ok (.aload_n 0, 1) := by decide +kernel
theorem dX6_mixAll_17 : decode cX6_mixAll 17 = .ok (.getfield 15, 3) := by decide +kernel
theorem dX6_mixAll_20 : decode cX6_mixAll 20 = .ok (.iconst 0, 1) := by decide +kernel
theorem dX6_mixAll_21 : decode cX6_mixAll 21 = .ok (.iconst 1, 1) := by decide +kernel
theorem dX6_mixAll_22 : decode cX6_mixAll 22 = .ok (.invokestatic 22, 3) := by decide +kernel
theorem dX6_mixAll_25 : decode cX6_mixAll 25 = .ok (.aload_n 0, 1) := by decide +kernel
theorem dX6_mixAll_26 : decode cX6_mixAll 26 = .ok (.getfield 9, 3) := by decide +kernel
theorem dX6_mixAll_29 : decode cX6_mixAll 29 = .ok (.iconst 0, 1) := by decide +kernel
theorem dX6_mixAll_30 : decode cX6_mixAll 30 = .ok (.iconst 0, 1) := by decide +kernel
theorem dX6_mixAll_31 : decode cX6_mixAll 31 = .ok (.invokestatic 22, 3) := by decide +kernel
theorem dX6_mixAll_34 : decode cX6_mixAll 34 = .ok (.iconst 0, 1) := by decide +kernel
theorem dX6_mixAll_35 : decode cX6_mixAll 35 = .ok (.istore_n 2, 1) := by decide +kernel
theorem dX6_mixAll_36 : decode cX6_mixAll 36 = .ok (.iload_n 2, 1) := by decide +kernel
theorem dX6_mixAll_37 : decode cX6_mixAll 37 = .ok (.aload_n 1, 1) := by decide +kernel
theorem dX6_mixAll_38 : decode cX6_mixAll 38 = .ok (.getfield 30, 3) := by decide +kernel
theorem dX6_mixAll_41 : decode cX6_mixAll 41 = .ok (.if_icmp .ge 55, 3) := by decide +kernel
theorem dX6_mixAll_44 : decode cX6_mixAll 44 = .ok (.aload_n 1, 1) := by decide +kernel
theorem dX6_mixAll_45 : decode cX6_mixAll 45 = .ok (.iload_n 2, 1) := by decide +kernel
theorem dX6_mixAll_46 : decode cX6_mixAll 46 = .ok (.invokevirtual 36, 3) := by decide +kernel
theorem dX6_mixAll_49 : decode cX6_mixAll 49 = .ok (.istore_n 3, 1) := by decide +kernel
theorem dX6_mixAll_50 : decode cX6_mixAll 50 = .ok (.iload_n 3, 1) := by decide +kernel
theorem dX6_mixAll_51 : decode cX6_mixAll 51 = .ok (.istore 4, 2) := by decide +kernel
theorem dX6_mixAll_53 : decode cX6_mixAll 53 = .ok (.iload 4, 2) := by decide +kernel
theorem dX6_mixAll_55 : decode cX6_mixAll 55 = .ok (.sipush 1000, 3) := by decide +kernel
theorem dX6_mixAll_58 : decode cX6_mixAll 58 = .ok (.if_icmp .ge 32, 3) := by decide +kernel
theorem dX6_mixAll_61 : decode cX6_mixAll 61 = .ok (.iload_n 3, 1) := by decide +kernel
theorem dX6_mixAll_62 : decode cX6_mixAll 62 = .ok (.ifCond .le 28, 3) := by decide +kernel
theorem dX6_mixAll_65 : decode cX6_mixAll 65 = .ok (.iload 4, 2) := by decide +kernel
theorem dX6_mixAll_67 : decode cX6_mixAll 67 = .ok (.iload_n 3, 1) := by decide +kernel
theorem dX6_mixAll_68 : decode cX6_mixAll 68 = .ok (.invokestatic 54, 3) := by decide +kernel
theorem dX6_mixAll_71 : decode cX6_mixAll 71 = .ok (.ifCond .eq 13, 3) := by decide +kernel
theorem dX6_mixAll_74 : decode cX6_mixAll 74 = .ok (.aload_n 0, 1) := by decide +kernel
theorem dX6_mixAll_75 : decode cX6_mixAll 75 = .ok (.iload 4, 2) := by decide +kernel
theorem dX6_mixAll_77 : decode cX6_mixAll 77 = .ok (.iload 4, 2) := by decide +kernel
theorem dX6_mixAll_79 : decode cX6_mixAll 79 = .ok (.iload_n 3, 1) := by decide +kernel
theorem dX6_mixAll_80 : decode cX6_mixAll 80 = .ok (.isub, 1) := by decide +kernel
theorem dX6_mixAll_81 : decode cX6_mixAll 81 = .ok (.invokevirtual 58, 3) := by decide +kernel
theorem dX6_mixAll_84 : decode cX6_mixAll 84 = .ok (.iinc 4 1, 3) := by decide +kernel
theorem dX6_mixAll_87 : decode cX6_mixAll 87 = .ok (.goto (-34), 3) := by decide +kernel
theorem dX6_mixAll_90 : decode cX6_mixAll 90 = .ok (.iinc 2 1, 3) := by decide +kernel
theorem dX6_mixAll_93 : decode cX6_mixAll 93 = .ok (.goto (-57), 3) := by decide +kernel
theorem dX6_mixAll_96 : decode cX6_mixAll 96 = .ok (.return_, 1) := by decide +kernel
theorem dX6_mixOnce_0 : decode cX6_mixOnce 0 = .ok (.aload_n 0, 1) := by decide +kernel
theorem dX6_mixOnce_1 : decode cX6_mixOnce 1 = .ok (.getfield 15, 3) := by decide +kernel
theorem dX6_mixOnce_4 : decode cX6_mixOnce 4 = .ok (.iload_n 1, 1) := by decide +kernel
theorem dX6_mixOnce_5 : decode cX6_mixOnce 5 = .ok (.aload_n 0, 1) := by decide +kernel
theorem dX6_mixOnce_6 : decode cX6_mixOnce 6 = .ok (.getfield 15, 3) := by decide +kernel
theorem dX6_mixOnce_9 : decode cX6_mixOnce 9 = .ok (.iload_n 1, 1) := by decide +kernel
theorem dX6_mixOnce_10 : decode cX6_mixOnce 10 = .ok (.invokestatic 26, 3) := by decide +kernel
theorem dX6_mixOnce_13 : decode cX6_mixOnce 13 = .ok (.aload_n 0, 1) := by decide +kernel
theorem dX6_mixOnce_14 : decode cX6_mixOnce 14 = .ok (.getfield 15, 3) := by decide +kernel
theorem dX6_mixOnce_17 : decode cX6_mixOnce 17 = .ok (.iload_n 2, 1) := by decide +kernel
theorem dX6_mixOnce_18 : decode cX6_mixOnce 18 = .ok (.invokestatic 26, 3) := by decide +kernel
theorem dX6_mixOnce_21 : decode cX6_mixOnce 21 = .ok (.iadd, 1) := by decide +kernel
theorem dX6_mixOnce_22 : decode cX6_mixOnce 22 = .ok (.invokestatic 22, 3) := by decide +kernel
theorem dX6_mixOnce_25 : decode cX6_mixOnce 25 = .ok (.aload_n 0, 1) := by decide +kernel
theorem dX6_mixOnce_26 : decode cX6_mixOnce 26 = .ok (.getfield 9, 3) := by decide +kernel
theorem dX6_mixOnce_29 : decode cX6_mixOnce 29 = .ok (.iload_n 2, 1) := by decide +kernel
theorem dX6_mixOnce_30 : decode cX6_mixOnce 30 = .ok (.invokestatic 26, 3) := by decide +kernel
theorem dX6_mixOnce_33 : decode cX6_mixOnce 33 = .ok (.istore_n 3, 1) := by decide +kernel
theorem dX6_mixOnce_34 : decode cX6_mixOnce 34 = .ok (.iload_n 3, 1) := by decide +kernel
theorem dX6_mixOnce_35 : decode cX6_mixOnce 35 = .ok (.iconst (-1), 1) := by decide +kernel
theorem dX6_mixOnce_36 : decode cX6_mixOnce 36 = .ok (.if_icmp .eq 40, 3) := by decide +kernel
theorem dX6_mixOnce_39 : decode cX6_mixOnce 39 = .ok (.aload_n 0, 1) := by decide +kernel
theorem dX6_mixOnce_40 : decode cX6_mixOnce 40 = .ok (.getfield 9, 3) := by decide +kernel
theorem dX6_mixOnce_43 : decode cX6_mixOnce 43 = .ok (.iload_n 1, 1) := by decide +kernel
theorem dX6_mixOnce_44 : decode cX6_mixOnce 44 = .ok (.invokestatic 26, 3) := by decide +kernel
theorem dX6_mixOnce_47 : decode cX6_mixOnce 47 = .ok (.iconst (-1), 1) := by decide +kernel
theorem dX6_mixOnce_48 : decode cX6_mixOnce 48 = .ok (.if_icmp .eq 17, 3) := by decide +kernel
theorem dX6_mixOnce_51 : decode cX6_mixOnce 51 = .ok (.iload_n 3, 1) := by decide +kernel
theorem dX6_mixOnce_52 : decode cX6_mixOnce 52 = .ok (.iconst 1, 1) := by decide +kernel
theorem dX6_mixOnce_53 : decode cX6_mixOnce 53 = .ok (.iadd, 1) := by decide +kernel
theorem dX6_mixOnce_54 : decode cX6_mixOnce 54 = .ok (.aload_n 0, 1) := by decide +kernel
theorem dX6_mixOnce_55 : decode cX6_mixOnce 55 = .ok (.getfield 9, 3) := by decide +kernel
theorem dX6_mixOnce_58 : decode cX6_mixOnce 58 = .ok (.iload_n 1, 1) := by decide +kernel
theorem dX6_mixOnce_59 : decode cX6_mixOnce 59 = .ok (.invokestatic 26, 3) := by decide +kernel
theorem dX6_mixOnce_62 : decode cX6_mixOnce 62 = .ok (.if_icmp .ge 14, 3) := by decide +kernel
theorem dX6_mixOnce_65 : decode cX6_mixOnce 65 = .ok (.aload_n 0, 1) := by decide +kernel
theorem dX6_mixOnce_66 : decode cX6_mixOnce 66 = .ok (.getfield 9, 3) := by decide +kernel
theorem dX6_mixOnce_69 : decode cX6_mixOnce 69 = .ok (.iload_n 1, 1) := by decide +kernel
theorem dX6_mixOnce_70 : decode cX6_mixOnce 70 = .ok (.iload_n 3, 1) := by decide +kernel
theorem dX6_mixOnce_71 : decode cX6_mixOnce 71 = .ok (.iconst 1, 1) := by decide +kernel
theorem dX6_mixOnce_72 : decode cX6_mixOnce 72 = .ok (.iadd, 1) := by decide +kernel
theorem dX6_mixOnce_73 : decode cX6_mixOnce 73 = .ok (.invokestatic 22, 3) := by decide +kernel
theorem dX6_mixOnce_76 : decode cX6_mixOnce 76 = .ok (.return_, 1) := by decide +kernel
theorem dX6_mixesOf_0 : decode cX6_mixesOf 0 = .ok (.aload_n 0, 1) := by decide +kernel
theorem dX6_mixesOf_1 : decode cX6_mixesOf 1 = .ok (.getfield 15, 3) := by decide +kernel
theorem dX6_mixesOf_4 : decode cX6_mixesOf 4 = .ok (.iload_n 1, 1) := by decide +kernel
theorem dX6_mixesOf_5 : decode cX6_mixesOf 5 = .ok (.invokestatic 26, 3) := by decide +kernel
theorem dX6_mixesOf_8 : decode cX6_mixesOf 8 = .ok (.ireturn, 1) := by decide +kernel
theorem dX6_dipsOf_0 : decode cX6_dipsOf 0 = .ok (.aload_n 0, 1) := by decide +kernel
theorem dX6_dipsOf_1 : decode cX6_dipsOf 1 = .ok (.getfield 9, 3) := by decide +kernel
theorem dX6_dipsOf_4 : decode cX6_dipsOf 4 = .ok (.iload_n 1, 1) := by decide +kernel
theorem dX6_dipsOf_5 : decode cX6_dipsOf 5 = .ok (.invokestatic 26, 3) := by decide +kernel
theorem dX6_dipsOf_8 : decode cX6_dipsOf 8 = .ok (.ireturn, 1) := by decide +kernel
theorem dX6_reachable_0 : decode cX6_reachable 0 = .ok (.aload_n 0, 1) := by decide +kernel
theorem dX6_reachable_1 : decode cX6_reachable 1 = .ok (.getfield 15, 3) := by decide +kernel
theorem dX6_reachable_4 : decode cX6_reachable 4 = .ok (.iconst 0, 1) := by decide +kernel
theorem dX6_reachable_5 : decode cX6_reachable 5 = .ok (.invokestatic 50, 3) := by decide +kernel
theorem dX6_reachable_8 : decode cX6_reachable 8 = .ok (.aload_n 0, 1) := by decide +kernel
theorem dX6_reachable_9 : decode cX6_reachable 9 = .ok (.getfield 15, 3) := by decide +kernel
theorem dX6_reachable_12 : decode cX6_reachable 12 = .ok (.iload_n 2, 1) := by decide +kernel
theorem dX6_reachable_13 : decode cX6_reachable 13 = .ok (.iconst 1, 1) := by decide +kernel
theorem dX6_reachable_14 : decode cX6_reachable 14 = .ok (.invokestatic 22, 3) := by decide +kernel
theorem dX6_reachable_17 : decode cX6_reachable 17 = .ok (.iconst 0, 1) := by decide +kernel
theorem dX6_reachable_18 : decode cX6_reachable 18 = .ok (.istore_n 3, 1) := by decide +kernel
theorem dX6_reachable_19 : decode cX6_reachable 19 = .ok (.iload_n 2, 1) := by decide +kernel
theorem dX6_reachable_20 : decode cX6_reachable 20 = .ok (.istore 4, 2) := by decide +kernel
theorem dX6_reachable_22 : decode cX6_reachable 22 = .ok (.iload 4, 2) := by decide +kernel
theorem dX6_reachable_24 : decode cX6_reachable 24 = .ok (.sipush 1000, 3) := by decide +kernel
theorem dX6_reachable_27 : decode cX6_reachable 27 = .ok (.if_icmp .ge 62, 3) := by decide +kernel
theorem dX6_reachable_30 : decode cX6_reachable 30 = .ok (.aload_n 0, 1) := by decide +kernel
theorem dX6_reachable_31 : decode cX6_reachable 31 = .ok (.getfield 15, 3) := by decide +kernel
theorem dX6_reachable_34 : decode cX6_reachable 34 = .ok (.iload 4, 2) := by decide +kernel
theorem dX6_reachable_36 : decode cX6_reachable 36 = .ok (.invokestatic 26, 3) := by decide +kernel
theorem dX6_reachable_39 : decode cX6_reachable 39 = .ok (.iconst 1, 1) := by decide +kernel
theorem dX6_reachable_40 : decode cX6_reachable 40 = .ok (.if_icmp .ne 43, 3) := by decide +kernel
theorem dX6_reachable_43 : decode cX6_reachable 43 = .ok (.iinc 3 1, 3) := by decide +kernel
theorem dX6_reachable_46 : decode cX6_reachable 46 = .ok (.iconst 0, 1) := by decide +kernel
theorem dX6_reachable_47 : decode cX6_reachable 47 = .ok (.istore 5, 2) := by decide +kernel
theorem dX6_reachable_49 : decode cX6_reachable 49 = .ok (.iload 5, 2) := by decide +kernel
theorem dX6_reachable_51 : decode cX6_reachable 51 = .ok (.aload_n 1, 1) := by decide +kernel
theorem dX6_reachable_52 : decode cX6_reachable 52 = .ok (.getfield 30, 3) := by decide +kernel
theorem dX6_reachable_55 : decode cX6_reachable 55 = .ok (.if_icmp .ge 28, 3) := by decide +kernel
theorem dX6_reachable_58 : decode cX6_reachable 58 = .ok (.aload_n 0, 1) := by decide +kernel
theorem dX6_reachable_59 : decode cX6_reachable 59 = .ok (.getfield 15, 3) := by decide +kernel
theorem dX6_reachable_62 : decode cX6_reachable 62 = .ok (.iload 4, 2) := by decide +kernel
theorem dX6_reachable_64 : decode cX6_reachable 64 = .ok (.aload_n 1, 1) := by decide +kernel
theorem dX6_reachable_65 : decode cX6_reachable 65 = .ok (.iload 5, 2) := by decide +kernel
theorem dX6_reachable_67 : decode cX6_reachable 67 = .ok (.invokevirtual 36, 3) := by decide +kernel
theorem dX6_reachable_70 : decode cX6_reachable 70 = .ok (.invokestatic 40, 3) := by decide +kernel
theorem dX6_reachable_73 : decode cX6_reachable 73 = .ok (.iconst 1, 1) := by decide +kernel
theorem dX6_reachable_74 : decode cX6_reachable 74 = .ok (.invokestatic 22, 3) := by decide +kernel
theorem dX6_reachable_77 : decode cX6_reachable 77 = .ok (.iinc 5 1, 3) := by decide +kernel
theorem dX6_reachable_80 : decode cX6_reachable 80 = .ok (.goto (-31), 3) := by decide +kernel
theorem dX6_reachable_83 : decode cX6_reachable 83 = .ok (.iinc 4 1, 3) := by decide +kernel
theorem dX6_reachable_86 : decode cX6_reachable 86 = .ok (.goto (-64), 3) := by decide +kernel
theorem dX6_reachable_89 : decode cX6_reachable 89 = .ok (.iload_n 3, 1) := by decide +kernel
theorem dX6_reachable_90 : decode cX6_reachable 90 = .ok (.ireturn, 1) := by decide +kernel
theorem dX7_init_0 : decode cX7_init 0 = .ok (.aload_n 0, 1) := by decide +kernel
theorem dX7_init_1 : decode cX7_init 1 = .ok (.invokespecial 3, 3) := by decide +kernel
theorem dX7_init_4 : decode cX7_init 4 = .ok (.aload_n 0, 1) := by decide +kernel
theorem dX7_init_5 : decode cX7_init 5 = .ok (.bipush 37, 2) := by decide +kernel
theorem dX7_init_7 : decode cX7_init 7 = .ok (.newarray .int, 2) := by decide +kernel
theorem dX7_init_9 : decode cX7_init 9 = .ok (.putfield 11, 3) := by decide +kernel
theorem dX7_init_12 : decode cX7_init 12 = .ok (.aload_n 0, 1) := by decide +kernel
theorem dX7_init_13 : decode cX7_init 13 = .ok (.bipush 37, 2) := by decide +kernel
theorem dX7_init_15 : decode cX7_init 15 = .ok (.newarray .int, 2) := by decide +kernel
theorem dX7_init_17 : decode cX7_init 17 = .ok (.putfield 15, 3) := by decide +kernel
theorem dX7_init_20 : decode cX7_init 20 = .ok (.aload_n 0, 1) := by decide +kernel
theorem dX7_init_21 : decode cX7_init 21 = .ok (.bipush 37, 2) := by decide +kernel
theorem dX7_init_23 : decode cX7_init 23 = .ok (.newarray .int, 2) := by decide +kernel
theorem dX7_init_25 : decode cX7_init 25 = .ok (.putfield 18, 3) := by decide +kernel
theorem dX7_init_28 : decode cX7_init 28 = .ok (.aload_n 0, 1) := by decide +kernel
theorem dX7_init_29 : decode cX7_init 29 = .ok (.bipush 6, 2) := by decide +kernel
theorem dX7_init_31 : decode cX7_init 31 = .ok (.newarray .int, 2) := by decide +kernel
theorem dX7_init_33 : decode cX7_init 33 = .ok (.putfield 21, 3) := by decide +kernel
theorem dX7_init_36 : decode cX7_init 36 = .ok (.aload_n 0, 1) := by decide +kernel
theorem dX7_init_37 : decode cX7_init 37 = .ok (.bipush 6, 2) := by decide +kernel
theorem dX7_init_39 : decode cX7_init 39 = .ok (.newarray .int, 2) := by decide +kernel
theorem dX7_init_41 : decode cX7_init 41 = .ok (.putfield 24, 3) := by decide +kernel
theorem dX7_init_44 : decode cX7_init 44 = .ok (.return_, 1) := by decide +kernel
theorem dX7_read_0 : decode cX7_read 0 = .ok (.aload_n 0, 1) := by decide +kernel
theorem dX7_read_1 : decode cX7_read 1 = .ok (.iconst 0, 1) := by decide +kernel
theorem dX7_read_2 : decode cX7_read 2 = .ok (.putfield 27, 3) := by decide +kernel
theorem dX7_read_5 : decode cX7_read 5 = .ok (.aload_n 0, 1) := by decide +kernel
theorem dX7_read_6 : decode cX7_read 6 = .ok (.iconst 0, 1) := by decide +kernel
theorem dX7_read_7 : decode cX7_read 7 = .ok (.putfield 31, 3) := by decide +kernel
theorem dX7_read_10 : decode cX7_read 10 = .ok (.iconst 0, 1) := by decide +kernel
theorem dX7_read_11 : decode cX7_read 11 = .ok (.istore_n 3, 1) := by decide +kernel
theorem dX7_read_12 : decode cX7_read 12 = .ok (.iload_n 3, 1) := by decide +kernel
theorem dX7_read_13 : decode cX7_read 13 = .ok (.sipush 150, 3) := by decide +kernel
theorem dX7_read_16 : decode cX7_read 16 = .ok (.if_icmp .ge 67, 3) := by decide +kernel
theorem dX7_read_19 : decode cX7_read 19 = .ok (.aload_n 1, 1) := by decide +kernel
theorem dX7_read_20 : decode cX7_read 20 = .ok (.invokevirtual 34, 3) := by decide +kernel
theorem dX7_read_23 : decode cX7_read 23 = .ok (.ifCond .ne 60, 3) := by decide +kernel
theorem dX7_read_26 : decode cX7_read 26 = .ok (.aload_n 0, 1) := by decide +kernel
theorem dX7_read_27 : decode cX7_read 27 = .ok (.getfield 31, 3) := by decide +kernel
theorem dX7_read_30 : decode cX7_read 30 = .ok (.ifCond .le 25, 3) := by decide +kernel
theorem dX7_read_33 : decode cX7_read 33 = .ok (.aload_n 1, 1) := by decide +kernel
theorem dX7_read_34 : decode cX7_read 34 = .ok (.bipush 93, 2) := by decide +kernel
theorem dX7_read_36 : decode cX7_read 36 = .ok (.invokevirtual 40, 3) := by decide +kernel
theorem dX7_read_39 : decode cX7_read 39 = .ok (.ifCond .eq 16, 3) := by decide +kernel
theorem dX7_read_42 : decode cX7_read 42 = .ok (.aload_n 0, 1) := by decide +kernel
theorem dX7_read_43 : decode cX7_read 43 = .ok (.invokevirtual 44, 3) := by decide +kernel
theorem dX7_read_46 : decode cX7_read 46 = .ok (.aload_n 1, 1) := by decide +kernel
theorem dX7_read_47 : decode cX7_read 47 = .ok (.bipush 59, 2) := by decide +kernel
theorem dX7_read_49 : decode cX7_read 49 = .ok (.invokevirtual 47, 3) := by decide +kernel
theorem dX7_read_52 : decode cX7_read 52 = .ok (.goto 25, 3) := by decide +kernel
theorem dX7_read_55 : decode cX7_read 55 = .ok (.aload_n 0, 1) := by decide +kernel
theorem dX7_read_56 : decode cX7_read 56 = .ok (.getfield 31, 3) := by decide +kernel
theorem dX7_read_59 : decode cX7_read 59 = .ok (.ifCond .ne 12, 3) := by decide +kernel
theorem dX7_read_62 : decode cX7_read 62 = .ok (.aload_n 1, 1) := by decide +kernel
theorem dX7_read_63 : decode cX7_read 63 = .ok (.invokevirtual 51, 3) := by decide +kernel
theorem dX7_read_66 : decode cX7_read 66 = .ok (.iconst (-1), 1) := by decide +kernel
theorem dX7_read_67 : decode cX7_read 67 = .ok (.if_icmp .ne 4, 3) := by decide +kernel
theorem dX7_read_70 : decode cX7_read 70 = .ok (.return_, 1) := by decide +kernel
theorem dX7_read_71 : decode cX7_read 71 = .ok (.aload_n 0, 1) := by decide +kernel
theorem dX7_read_72 : decode cX7_read 72 = .ok (.aload_n 1, 1) := by decide +kernel
theorem dX7_read_73 : decode cX7_read 73 = .ok (.aload_n 2, 1) := by decide +kernel
theorem dX7_read_74 : decode cX7_read 74 = .ok (.invokevirtual 55, 3) := by decide +kernel
theorem dX7_read_77 : decode cX7_read 77 = .ok (.iinc 3 1, 3) := by decide +kernel
theorem dX7_read_80 : decode cX7_read 80 = .ok (.goto (-68), 3) := by decide +kernel
theorem dX7_read_83 : decode cX7_read 83 = .ok (.return_, 1) := by decide +kernel
theorem dX7_readStep_0 : decode cX7_readStep 0 = .ok (.aload_n 1, 1) := by decide +kernel
theorem dX7_readStep_1 : decode cX7_readStep 1 = .ok (.ldc 59, 2) := by decide +kernel
theorem dX7_readStep_3 : decode cX7_readStep 3 = .ok (.invokevirtual 61, 3) := by decide +kernel
theorem dX7_readStep_6 : decode cX7_readStep 6 = .ok (.istore_n 3, 1) := by decide +kernel
theorem dX7_readStep_7 : decode cX7_readStep 7 = .ok (.iload_n 3, 1) := by decide +kernel
theorem dX7_readStep_8 : decode cX7_readStep 8 = .ok (.bipush 6, 2) := by decide +kernel
theorem dX7_readStep_10 : decode cX7_readStep 10 = .ok (.if_icmp .ne 9, 3) := by decide +kernel
theorem dX7_readStep_13 : decode cX7_readStep 13 = .ok (.aload_n 0, 1) := by decide +kernel
theorem dX7_readStep_14 : decode cX7_readStep 14 = .ok (.aload_n 1, 1) := by decide +kernel
theorem dX7_readStep_15 : decode cX7_readStep 15 = .ok (.invokevirtual 65, 3) := by decide +kernel
theorem dX7_readStep_18 : decode cX7_readStep 18 = .ok (.return_, 1) := by decide +kernel
theorem dX7_readStep_19 : decode cX7_readStep 19 = .ok (.iload_n 3, 1) := by decide +kernel
theorem dX7_readStep_20 : decode cX7_readStep 20 = .ok (.iconst (-1), 1) := by decide +kernel
theorem dX7_readStep_21 : decode cX7_readStep 21 = .ok (.if_icmp .ne 13, 3) := by decide +kernel
theorem dX7_readStep_24 : decode cX7_readStep 24 = .ok (.aload_n 1, 1) := by decide +kernel
theorem dX7_readStep_25 : decode cX7_readStep 25 = .ok (.iconst 1, 1) := by decide +kernel
theorem dX7_readStep_26 : decode cX7_readStep 26 = .ok (.aload_n 1, 1) := by decide +kernel
theorem dX7_readStep_27 : decode cX7_readStep 27 = .ok (.getfield 69, 3) := by decide +kernel
theorem dX7_readStep_30 : decode cX7_readStep 30 = .ok (.invokevirtual 72, 3) := by decide +kernel
theorem dX7_readStep_33 : decode cX7_readStep 33 = .ok (.return_, 1) := by decide +kernel
theorem dX7_readStep_34 : decode cX7_readStep 34 = .ok (.iconst 0, 1) := by decide +kernel
theorem dX7_readStep_35 : decode cX7_readStep 35 = .ok (.istore 4, 2) := by decide +kernel
theorem dX7_readStep_37 : decode cX7_readStep 37 = .ok (.iconst 0, 1) := by decide +kernel
theorem dX7_readStep_38 : decode cX7_readStep 38 = .ok (.istore 5, 2) := by decide +kernel
theorem dX7_readStep_40 : decode cX7_readStep 40 = .ok (.iload_n 3, 1) := by decide +kernel
theorem dX7_readStep_41 : decode cX7_readStep 41 = .ok (.iconst 3, 1) := by decide +kernel
theorem dX7_readStep_42 : decode cX7_readStep 42 = .ok (.if_icmp .eq 20, 3) := by decide +kernel
theorem dX7_readStep_45 : decode cX7_readStep 45 = .ok (.iload_n 3, 1) := by decide +kernel
theorem dX7_readStep_46 : decode cX7_readStep 46 = .ok (.iconst 5, 1) := by decide +kernel
theorem dX7_readStep_47 : decode cX7_readStep 47 = .ok (.if_icmp .eq 15, 3) := by decide +kernel
theorem dX7_readStep_50 : decode cX7_readStep 50 = .ok (.aload_n 1, 1) := by decide +kernel
theorem dX7_readStep_51 : decode cX7_readStep 51 = .ok (.aload_n 2, 1) := by decide +kernel
theorem dX7_readStep_52 : decode cX7_readStep 52 = .ok (.getfield 76, 3) := by decide +kernel
theorem dX7_readStep_55 : decode cX7_readStep 55 = .ok (.iconst 1, 1) := by decide +kernel
theorem dX7_readStep_56 : decode cX7_readStep 56 = .ok (.isub, 1) := by decide +kernel
theorem dX7_readStep_57 : decode cX7_readStep 57 = .ok (.invokevirtual 81, 3) := by decide +kernel
theorem dX7_readStep_60 : decode cX7_readStep 60 = .ok (.istore 4, 2) := by decide +kernel
theorem dX7_readStep_62 : decode cX7_readStep 62 = .ok (.iload_n 3, 1) := by decide +kernel
theorem dX7_readStep_63 : decode cX7_readStep 63 = .ok (.ifCond .ne 18, 3) := by decide +kernel
theorem dX7_readStep_66 : decode cX7_readStep 66 = .ok (.aload_n 1, 1) := by decide +kernel
theorem dX7_readStep_67 : decode cX7_readStep 67 = .ok (.aload_n 2, 1) := by decide +kernel
theorem dX7_readStep_68 : decode cX7_readStep 68 = .ok (.getfield 85, 3) := by decide +kernel
theorem dX7_readStep_71 : decode cX7_readStep 71 = .ok (.iconst 1, 1) := by decide +kernel
theorem dX7_readStep_72 : decode cX7_readStep 72 = .ok (.isub, 1) := by decide +kernel
theorem dX7_readStep_73 : decode cX7_readStep 73 = .ok (.invokevirtual 81, 3) := by decide +kernel
theorem dX7_readStep_76 : decode cX7_readStep 76 = .ok (.istore 5, 2) := by decide +kernel
theorem dX7_readStep_78 : decode cX7_readStep 78 = .ok (.goto 36, 3) := by decide +kernel
theorem dX7_readStep_81 : decode cX7_readStep 81 = .ok (.iload_n 3, 1) := by decide +kernel
theorem dX7_readStep_82 : decode cX7_readStep 82 = .ok (.iconst 4, 1) := by decide +kernel
theorem dX7_readStep_83 : decode cX7_readStep 83 = .ok (.if_icmp .ne 31, 3) := by decide +kernel
theorem dX7_readStep_86 : decode cX7_readStep 86 = .ok (.aload_n 1, 1) := by decide +kernel
theorem dX7_readStep_87 : decode cX7_readStep 87 = .ok (.aload_n 2, 1) := by decide +kernel
theorem dX7_readStep_88 : decode cX7_readStep 88 = .ok (.getfield 76, 3) := by decide +kernel
theorem dX7_readStep_91 : decode cX7_readStep 91 = .ok (.iconst 1, 1) := by decide +kernel
theorem dX7_readStep_92 : decode cX7_readStep 92 = .ok (.isub, 1) := by decide +kernel
theorem dX7_readStep_93 : decode cX7_readStep 93 = .ok (.invokevirtual 81, 3) := by decide +kernel
theorem dX7_readStep_96 : decode cX7_readStep 96 = .ok (.istore 5, 2) := by decide +kernel
theorem dX7_readStep_98 : decode cX7_readStep 98 = .ok (.iload 4, 2) := by decide +kernel
theorem dX7_readStep_100 : decode cX7_readStep 100 = .ok (.iload 5, 2) := by decide +kernel
theorem dX7_readStep_102 : decode cX7_readStep 102 = .ok (.if_icmp .ne 12, 3) := by decide +kernel
theorem dX7_readStep_105 : decode cX7_readStep 105 = .ok (.aload_n 1, 1) := by decide +kernel
theorem dX7_readStep_106 : decode cX7_readStep 106 = .ok (.iconst 2, 1) := by decide +kernel
theorem dX7_readStep_107 : decode cX7_readStep 107 = .ok (.aload_n 1, 1) := by decide +kernel
theorem dX7_readStep_108 : decode cX7_readStep 108 = .ok (.getfield 88, 3) := by decide +kernel
theorem dX7_readStep_111 : decode cX7_readStep 111 = .ok (.invokevirtual 72, 3) := by decide +kernel
theorem dX7_readStep_114 : decode cX7_readStep 114 = .ok (.aload_n 1, 1) := by decide +kernel
theorem dX7_readStep_115 : decode cX7_readStep 115 = .ok (.bipush 59, 2) := by decide +kernel
theorem dX7_readStep_117 : decode cX7_readStep 117 = .ok (.invokevirtual 47, 3) := by decide +kernel
theorem dX7_readStep_120 : decode cX7_readStep 120 = .ok (.aload_n 0, 1) := by decide +kernel
theorem dX7_readStep_121 : decode cX7_readStep 121 = .ok (.iload_n 3, 1) := by decide +kernel
theorem dX7_readStep_122 : decode cX7_readStep 122 = .ok (.iload 4, 2) := by decide +kernel
theorem dX7_readStep_124 : decode cX7_readStep 124 = .ok (.iload 5, 2) := by decide +kernel
theorem dX7_readStep_126 : decode cX7_readStep 126 = .ok (.invokevirtual 91, 3) := by decide +kernel
theorem dX7_readStep_129 : decode cX7_readStep 129 = .ok (.return_, 1) := by decide +kernel
theorem dX7_readAgain_0 : decode cX7_readAgain 0 = .ok (.aload_n 0, 1) := by decide +kernel
theorem dX7_readAgain_1 : decode cX7_readAgain 1 = .ok (.getfield 31, 3) := by decide +kernel
theorem dX7_readAgain_4 : decode cX7_readAgain 4 = .ok (.bipush 6, 2) := by decide +kernel
theorem dX7_readAgain_6 : decode cX7_readAgain 6 = .ok (.if_icmp .lt 13, 3) := by decide +kernel
theorem dX7_readAgain_9 : decode cX7_readAgain 9 = .ok (.aload_n 1, 1) := by decide +kernel
theorem dX7_readAgain_10 : decode cX7_readAgain 10 = .ok (.iconst 3, 1) := by decide +kernel
theorem dX7_readAgain_11 : decode cX7_readAgain 11 = .ok (.aload_n 1, 1) := by decide +kernel
theorem dX7_readAgain_12 : decode cX7_readAgain 12 = .ok (.getfield 88, 3) := by decide +kernel
theorem dX7_readAgain_15 : decode cX7_readAgain 15 = .ok (.invokevirtual 72, 3) := by decide +kernel
theorem dX7_readAgain_18 : decode cX7_readAgain 18 = .ok (.return_, 1) := by decide +kernel
theorem dX7_readAgain_19 : decode cX7_readAgain 19 = .ok (.aload_n 1, 1) := by decide +kernel
theorem dX7_readAgain_20 : decode cX7_readAgain 20 = .ok (.bipush 60, 2) := by decide +kernel
theorem dX7_readAgain_22 : decode cX7_readAgain 22 = .ok (.invokevirtual 81, 3) := by decide +kernel
theorem dX7_readAgain_25 : decode cX7_readAgain 25 = .ok (.istore_n 2, 1) := by decide +kernel
theorem dX7_readAgain_26 : decode cX7_readAgain 26 = .ok (.aload_n 1, 1) := by decide +kernel
theorem dX7_readAgain_27 : decode cX7_readAgain 27 = .ok (.bipush 91, 2) := by decide +kernel
theorem dX7_readAgain_29 : decode cX7_readAgain 29 = .ok (.invokevirtual 47, 3) := by decide +kernel
theorem dX7_readAgain_32 : decode cX7_readAgain 32 = .ok (.aload_n 0, 1) := by decide +kernel
theorem dX7_readAgain_33 : decode cX7_readAgain 33 = .ok (.getfield 21, 3) := by decide +kernel
theorem dX7_readAgain_36 : decode cX7_readAgain 36 = .ok (.aload_n 0, 1) := by decide +kernel
theorem dX7_readAgain_37 : decode cX7_readAgain 37 = .ok (.getfield 31, 3) := by decide +kernel
theorem dX7_readAgain_40 : decode cX7_readAgain 40 = .ok (.aload_n 0, 1) := by decide +kernel
theorem dX7_readAgain_41 : decode cX7_readAgain 41 = .ok (.getfield 27, 3) := by decide +kernel
theorem dX7_readAgain_44 : decode cX7_readAgain 44 = .ok (.invokestatic 95, 3) := by decide +kernel
theorem dX7_readAgain_47 : decode cX7_readAgain 47 = .ok (.aload_n 0, 1) := by decide +kernel
theorem dX7_readAgain_48 : decode cX7_readAgain 48 = .ok (.dup, 1) := by decide +kernel
theorem dX7_readAgain_49 : decode cX7_readAgain 49 = .ok (.getfield 31, 3) := by decide +kernel
theorem dX7_readAgain_52 : decode cX7_readAgain 52 = .ok (.iconst 1, 1) := by decide +kernel
theorem dX7_readAgain_53 : decode cX7_readAgain 53 = .ok (.iadd, 1) := by decide +kernel
theorem dX7_readAgain_54 : decode cX7_readAgain 54 = .ok (.putfield 31, 3) := by decide +kernel
theorem dX7_readAgain_57 : decode cX7_readAgain 57 = .ok (.aload_n 0, 1) := by decide +kernel
theorem dX7_readAgain_58 : decode cX7_readAgain 58 = .ok (.bipush 6, 2) := by decide +kernel
theorem dX7_readAgain_60 : decode cX7_readAgain 60 = .ok (.iload_n 2, 1) := by decide +kernel
theorem dX7_readAgain_61 : decode cX7_readAgain 61 = .ok (.iconst 0, 1) := by decide +kernel
theorem dX7_readAgain_62 : decode cX7_readAgain 62 = .ok (.invokevirtual 91, 3) := by decide +kernel
theorem dX7_readAgain_65 : decode cX7_readAgain 65 = .ok (.return_, 1) := by decide +kernel
theorem dX7_close_0 : decode cX7_close 0 = .ok (.aload_n 0, 1) := by decide +kernel
theorem dX7_close_1 : decode cX7_close 1 = .ok (.dup, 1) := by decide +kernel
theorem dX7_close_2 : decode cX7_close 2 = .ok (.getfield 31, 3) := by decide +kernel
theorem dX7_close_5 : decode cX7_close 5 = .ok (.iconst 1, 1) := by decide +kernel
theorem dX7_close_6 : decode cX7_close 6 = .ok (.isub, 1) := by decide +kernel
theorem dX7_close_7 : decode cX7_close 7 = .ok (.putfield 31, 3) := by decide +kernel
theorem dX7_close_10 : decode cX7_close 10 = .ok (.aload_n 0, 1) := by decide +kernel
theorem dX7_close_11 : decode cX7_close 11 = .ok (.getfield 21, 3) := by decide +kernel
theorem dX7_close_14 : decode cX7_close 14 = .ok (.aload_n 0, 1) := by decide +kernel
theorem dX7_close_15 : decode cX7_close 15 = .ok (.getfield 31, 3) := by decide +kernel
theorem dX7_close_18 : decode cX7_close 18 = .ok (.invokestatic 99, 3) := by decide +kernel
theorem dX7_close_21 : decode cX7_close 21 = .ok (.istore_n 1, 1) := by decide +kernel
theorem dX7_close_22 : decode cX7_close 22 = .ok (.aload_n 0, 1) := by decide +kernel
theorem dX7_close_23 : decode cX7_close 23 = .ok (.getfield 18, 3) := by decide +kernel
theorem dX7_close_26 : decode cX7_close 26 = .ok (.iload_n 1, 1) := by decide +kernel
theorem dX7_close_27 : decode cX7_close 27 = .ok (.aload_n 0, 1) := by decide +kernel
theorem dX7_close_28 : decode cX7_close 28 = .ok (.getfield 27, 3) := by decide +kernel
theorem dX7_close_31 : decode cX7_close 31 = .ok (.invokestatic 95, 3) := by decide +kernel
theorem dX7_close_34 : decode cX7_close 34 = .ok (.aload_n 0, 1) := by decide +kernel
theorem dX7_close_35 : decode cX7_close 35 = .ok (.bipush 7, 2) := by decide +kernel
theorem dX7_close_37 : decode cX7_close 37 = .ok (.iload_n 1, 1) := by decide +kernel
theorem dX7_close_38 : decode cX7_close 38 = .ok (.iconst 0, 1) := by decide +kernel
theorem dX7_close_39 : decode cX7_close 39 = .ok (.invokevirtual 91, 3) := by decide +kernel
theorem dX7_close_42 : decode cX7_close 42 = .ok (.return_, 1) := by decide +kernel
theorem dX7_write_0 : decode cX7_write 0 = .ok (.aload_n 0, 1) := by decide +kernel
theorem dX7_write_1 : decode cX7_write 1 = .ok (.getfield 11, 3) := by decide +kernel
theorem dX7_write_4 : decode cX7_write 4 = .ok (.aload_n 0, 1) := by decide +kernel
theorem dX7_write_5 : decode cX7_write 5 = .ok (.getfield 27, 3) := by decide +kernel
theorem dX7_write_8 : decode cX7_write 8 = .ok (.iload_n 1, 1) := by decide +kernel
theorem dX7_write_9 : decode cX7_write 9 = .ok (.invokestatic 95, 3) := by decide +kernel
theorem dX7_write_12 : decode cX7_write 12 = .ok (.aload_n 0, 1) := by decide +kernel
theorem dX7_write_13 : decode cX7_write 13 = .ok (.getfield 15, 3) := by decide +kernel
theorem dX7_write_16 : decode cX7_write 16 = .ok (.aload_n 0, 1) := by decide +kernel
theorem dX7_write_17 : decode cX7_write 17 = .ok (.getfield 27, 3) := by decide +kernel
theorem dX7_write_20 : decode cX7_write 20 = .ok (.iload_n 2, 1) := by decide +kernel
theorem dX7_write_21 : decode cX7_write 21 = .ok (.invokestatic 95, 3) := by decide +kernel
theorem dX7_write_24 : decode cX7_write 24 = .ok (.aload_n 0, 1) := by decide +kernel
theorem dX7_write_25 : decode cX7_write 25 = .ok (.getfield 18, 3) := by decide +kernel
theorem dX7_write_28 : decode cX7_write 28 = .ok (.aload_n 0, 1) := by decide +kernel
theorem dX7_write_29 : decode cX7_write 29 = .ok (.getfield 27, 3) := by decide +kernel
theorem dX7_write_32 : decode cX7_write 32 = .ok (.iload_n 3, 1) := by decide +kernel
theorem dX7_write_33 : decode cX7_write 33 = .ok (.invokestatic 95, 3) := by decide +kernel
theorem dX7_write_36 : decode cX7_write 36 = .ok (.aload_n 0, 1) := by decide +kernel
theorem dX7_write_37 : decode cX7_write 37 = .ok (.dup, 1) := by decide +kernel
theorem dX7_write_38 : decode cX7_write 38 = .ok (.getfield 27, 3) := by decide +kernel
theorem dX7_write_41 : decode cX7_write 41 = .ok (.iconst 1, 1) := by decide +kernel
theorem dX7_write_42 : decode cX7_write 42 = .ok (.iadd, 1) := by decide +kernel
theorem dX7_write_43 : decode cX7_write 43 = .ok (.putfield 27, 3) := by decide +kernel
theorem dX7_write_46 : decode cX7_write 46 = .ok (.return_, 1) := by decide +kernel
theorem dX7_carryOut_0 : decode cX7_carryOut 0 = .ok (.aload_n 0, 1) := by decide +kernel
theorem dX7_carryOut_1 : decode cX7_carryOut 1 = .ok (.iconst 0, 1) := by decide +kernel
theorem dX7_carryOut_2 : decode cX7_carryOut 2 = .ok (.putfield 103, 3) := by decide +kernel
theorem dX7_carryOut_5 : decode cX7_carryOut 5 = .ok (.aload_n 0, 1) := by decide +kernel
theorem dX7_carryOut_6 : decode cX7_carryOut 6 = .ok (.iconst 0, 1) := by decide +kernel
theorem dX7_carryOut_7 : decode cX7_carryOut 7 = .ok (.putfield 106, 3) := by decide +kernel
theorem dX7_carryOut_10 : decode cX7_carryOut 10 = .ok (.aload_n 0, 1) := by decide +kernel
theorem dX7_carryOut_11 : decode cX7_carryOut 11 = .ok (.iconst 0, 1) := by decide +kernel
theorem dX7_carryOut_12 : decode cX7_carryOut 12 = .ok (.putfield 31, 3) := by decide +kernel
theorem dX7_carryOut_15 : decode cX7_carryOut 15 = .ok (.iconst 0, 1) := by decide +kernel
theorem dX7_carryOut_16 : decode cX7_carryOut 16 = .ok (.istore_n 3, 1) := by decide +kernel
theorem dX7_carryOut_17 : decode cX7_carryOut 17 = .ok (.iconst 0, 1) := by decide +kernel
theorem dX7_carryOut_18 : decode cX7_carryOut 18 = .ok (.istore 4, 2) := by decide +kernel
theorem dX7_carryOut_20 : decode cX7_carryOut 20 = .ok (.iconst 0, 1) := by decide +kernel
theorem dX7_carryOut_21 : decode cX7_carryOut 21 = .ok (.istore 5, 2) := by decide +kernel
theorem dX7_carryOut_23 : decode cX7_carryOut 23 = .ok (.iload 5, 2) := by decide +kernel
theorem dX7_carryOut_25 : decode cX7_carryOut 25 = .ok (.ldc 109, 2) := by decide +kernel
theorem dX7_carryOut_27 : decode cX7_carryOut 27 = .ok (.if_icmp .ge 91, 3) := by decide +kernel
theorem dX7_carryOut_30 : decode cX7_carryOut 30 = .ok (.iload 4, 2) := by decide +kernel
theorem dX7_carryOut_32 : decode cX7_carryOut 32 = .ok (.aload_n 0, 1) := by decide +kernel
theorem dX7_carryOut_33 : decode cX7_carryOut 33 = .ok (.getfield 27, 3) := by decide +kernel
theorem dX7_carryOut_36 : decode cX7_carryOut 36 = .ok (.if_icmp .ge 82, 3) := by decide +kernel
theorem dX7_carryOut_39 : decode cX7_carryOut 39 = .ok (.aload_n 0, 1) := by decide +kernel
theorem dX7_carryOut_40 : decode cX7_carryOut 40 = .ok (.getfield 11, 3) := by decide +kernel
theorem dX7_carryOut_43 : decode cX7_carryOut 43 = .ok (.iload 4, 2) := by decide +kernel
theorem dX7_carryOut_45 : decode cX7_carryOut 45 = .ok (.invokestatic 99, 3) := by decide +kernel
theorem dX7_carryOut_48 : decode cX7_carryOut 48 = .ok (.istore 6, 2) := by decide +kernel
theorem dX7_carryOut_50 : decode cX7_carryOut 50 = .ok (.iload 6, 2) := by decide +kernel
theorem dX7_carryOut_52 : decode cX7_carryOut 52 = .ok (.bipush 7, 2) := by decide +kernel
theorem dX7_carryOut_54 : decode cX7_carryOut 54 = .ok (.if_icmp .ne 14, 3) := by decide +kernel
theorem dX7_carryOut_57 : decode cX7_carryOut 57 = .ok (.aload_n 0, 1) := by decide +kernel
theorem dX7_carryOut_58 : decode cX7_carryOut 58 = .ok (.iload 4, 2) := by decide +kernel
theorem dX7_carryOut_60 : decode cX7_carryOut 60 = .ok (.invokevirtual 110, 3) := by decide +kernel
theorem dX7_carryOut_63 : decode cX7_carryOut 63 = .ok (.istore 4, 2) := by decide +kernel
theorem dX7_carryOut_65 : decode cX7_carryOut 65 = .ok (.goto 47, 3) := by decide +kernel
theorem dX7_carryOut_68 : decode cX7_carryOut 68 = .ok (.iload_n 3, 1) := by decide +kernel
theorem dX7_carryOut_69 : decode cX7_carryOut 69 = .ok (.sipush 200, 3) := by decide +kernel
theorem dX7_carryOut_72 : decode cX7_carryOut 72 = .ok (.if_icmp .lt 4, 3) := by decide +kernel
theorem dX7_carryOut_75 : decode cX7_carryOut 75 = .ok (.return_, 1) := by decide +kernel
theorem dX7_carryOut_76 : decode cX7_carryOut 76 = .ok (.iinc 3 1, 3) := by decide +kernel
theorem dX7_carryOut_79 : decode cX7_carryOut 79 = .ok (.iload 6, 2) := by decide +kernel
theorem dX7_carryOut_81 : decode cX7_carryOut 81 = .ok (.bipush 6, 2) := by decide +kernel
theorem dX7_carryOut_83 : decode cX7_carryOut 83 = .ok (.if_icmp .ne 14, 3) := by decide +kernel
theorem dX7_carryOut_86 : decode cX7_carryOut 86 = .ok (.aload_n 0, 1) := by decide +kernel
theorem dX7_carryOut_87 : decode cX7_carryOut 87 = .ok (.iload 4, 2) := by decide +kernel
theorem dX7_carryOut_89 : decode cX7_carryOut 89 = .ok (.invokevirtual 113, 3) := by decide +kernel
theorem dX7_carryOut_92 : decode cX7_carryOut 92 = .ok (.istore 4, 2) := by decide +kernel
theorem dX7_carryOut_94 : decode cX7_carryOut 94 = .ok (.goto 18, 3) := by decide +kernel
theorem dX7_carryOut_97 : decode cX7_carryOut 97 = .ok (.aload_n 0, 1) := by decide +kernel
theorem dX7_carryOut_98 : decode cX7_carryOut 98 = .ok (.aload_n 0, 1) := by decide +kernel
theorem dX7_carryOut_99 : decode cX7_carryOut 99 = .ok (.aload_n 1, 1) := by decide +kernel
theorem dX7_carryOut_100 : decode cX7_carryOut 100 = .ok (.aload_n 2, 1) := by decide +kernel
theorem dX7_carryOut_101 : decode cX7_carryOut 101 = .ok (.iload 4, 2) := by decide +kernel
theorem dX7_carryOut_103 : decode cX7_carryOut 103 = .ok (.invokevirtual 116, 3) := by decide +kernel
theorem dX7_carryOut_106 : decode cX7_carryOut 106 = .ok (.invokevirtual 120, 3) := by decide +kernel
theorem dX7_carryOut_109 : decode cX7_carryOut 109 = .ok (.iinc 4 1, 3) := by decide +kernel
theorem dX7_carryOut_112 : decode cX7_carryOut 112 = .ok (.iinc 5 1, 3) := by decide +kernel
theorem dX7_carryOut_115 : decode cX7_carryOut 115 = .ok (.goto (-92), 3) := by decide +kernel
theorem dX7_carryOut_118 : decode cX7_carryOut 118 = .ok (.return_, 1) := by decide +kernel
theorem dX7_afterAgain_0 : decode cX7_afterAgain 0 = .ok (.aload_n 0, 1) := by decide +kernel
theorem dX7_afterAgain_1 : decode cX7_afterAgain 1 = .ok (.getfield 15, 3) := by decide +kernel
theorem dX7_afterAgain_4 : decode cX7_afterAgain 4 = .ok (.iload_n 1, 1) := by decide +kernel
theorem dX7_afterAgain_5 : decode cX7_afterAgain 5 = .ok (.invokestatic 99, 3) := by decide +kernel
theorem dX7_afterAgain_8 : decode cX7_afterAgain 8 = .ok (.istore_n 2, 1) := by decide +kernel
theorem dX7_afterAgain_9 : decode cX7_afterAgain 9 = .ok (.iload_n 2, 1) := by decide +kernel
theorem dX7_afterAgain_10 : decode cX7_afterAgain 10 = .ok (.ifCond .ne 14, 3) := by decide +kernel
theorem dX7_afterAgain_13 : decode cX7_afterAgain 13 = .ok (.aload_n 0, 1) := by decide +kernel
theorem dX7_afterAgain_14 : decode cX7_afterAgain 14 = .ok (.getfield 18, 3) := by decide +kernel
theorem dX7_afterAgain_17 : decode cX7_afterAgain 17 = .ok (.iload_n 1, 1) := by decide +kernel
theorem dX7_afterAgain_18 : decode cX7_afterAgain 18 = .ok (.invokestatic 99, 3) := by decide +kernel
theorem dX7_afterAgain_21 : decode cX7_afterAgain 21 = .ok (.iconst 1, 1) := by decide +kernel
theorem dX7_afterAgain_22 : decode cX7_afterAgain 22 = .ok (.iadd, 1) := by decide +kernel
theorem dX7_afterAgain_23 : decode cX7_afterAgain 23 = .ok (.ireturn, 1) := by decide +kernel
theorem dX7_afterAgain_24 : decode cX7_afterAgain 24 = .ok (.aload_n 0, 1) := by decide +kernel
theorem dX7_afterAgain_25 : decode cX7_afterAgain 25 = .ok (.getfield 24, 3) := by decide +kernel
theorem dX7_afterAgain_28 : decode cX7_afterAgain 28 = .ok (.aload_n 0, 1) := by decide +kernel
theorem dX7_afterAgain_29 : decode cX7_afterAgain 29 = .ok (.getfield 31, 3) := by decide +kernel
theorem dX7_afterAgain_32 : decode cX7_afterAgain 32 = .ok (.iload_n 2, 1) := by decide +kernel
theorem dX7_afterAgain_33 : decode cX7_afterAgain 33 = .ok (.invokestatic 95, 3) := by decide +kernel
theorem dX7_afterAgain_36 : decode cX7_afterAgain 36 = .ok (.aload_n 0, 1) := by decide +kernel
theorem dX7_afterAgain_37 : decode cX7_afterAgain 37 = .ok (.dup, 1) := by decide +kernel
theorem dX7_afterAgain_38 : decode cX7_afterAgain 38 = .ok (.getfield 31, 3) := by decide +kernel
theorem dX7_afterAgain_41 : decode cX7_afterAgain 41 = .ok (.iconst 1, 1) := by decide +kernel
theorem dX7_afterAgain_42 : decode cX7_afterAgain 42 = .ok (.iadd, 1) := by decide +kernel
theorem dX7_afterAgain_43 : decode cX7_afterAgain 43 = .ok (.putfield 31, 3) := by decide +kernel
theorem dX7_afterAgain_46 : decode cX7_afterAgain 46 = .ok (.iload_n 1, 1) := by decide +kernel
theorem dX7_afterAgain_47 : decode cX7_afterAgain 47 = .ok (.iconst 1, 1) := by decide +kernel
theorem dX7_afterAgain_48 : decode cX7_afterAgain 48 = .ok (.iadd, 1) := by decide +kernel
theorem dX7_afterAgain_49 : decode cX7_afterAgain 49 = .ok (.ireturn, 1) := by decide +kernel
theorem dX7_afterTurn_0 : decode cX7_afterTurn 0 = .ok (.aload_n 0, 1) := by decide +kernel
theorem dX7_afterTurn_1 : decode cX7_afterTurn 1 = .ok (.getfield 24, 3) := by decide +kernel
theorem dX7_afterTurn_4 : decode cX7_afterTurn 4 = .ok (.aload_n 0, 1) := by decide +kernel
theorem dX7_afterTurn_5 : decode cX7_afterTurn 5 = .ok (.getfield 31, 3) := by decide +kernel
theorem dX7_afterTurn_8 : decode cX7_afterTurn 8 = .ok (.iconst 1, 1) := by decide +kernel
theorem dX7_afterTurn_9 : decode cX7_afterTurn 9 = .ok (.isub, 1) := by decide +kernel
theorem dX7_afterTurn_10 : decode cX7_afterTurn 10 = .ok (.invokestatic 99, 3) := by decide +kernel
theorem dX7_afterTurn_13 : decode cX7_afterTurn 13 = .ok (.iconst 1, 1) := by decide +kernel
theorem dX7_afterTurn_14 : decode cX7_afterTurn 14 = .ok (.isub, 1) := by decide +kernel
theorem dX7_afterTurn_15 : decode cX7_afterTurn 15 = .ok (.istore_n 2, 1) := by decide +kernel
theorem dX7_afterTurn_16 : decode cX7_afterTurn 16 = .ok (.aload_n 0, 1) := by decide +kernel
theorem dX7_afterTurn_17 : decode cX7_afterTurn 17 = .ok (.getfield 24, 3) := by decide +kernel
theorem dX7_afterTurn_20 : decode cX7_afterTurn 20 = .ok (.aload_n 0, 1) := by decide +kernel
theorem dX7_afterTurn_21 : decode cX7_afterTurn 21 = .ok (.getfield 31, 3) := by decide +kernel
theorem dX7_afterTurn_24 : decode cX7_afterTurn 24 = .ok (.iconst 1, 1) := by decide +kernel
theorem dX7_afterTurn_25 : decode cX7_afterTurn 25 = .ok (.isub, 1) := by decide +kernel
theorem dX7_afterTurn_26 : decode cX7_afterTurn 26 = .ok (.iload_n 2, 1) := by decide +kernel
theorem dX7_afterTurn_27 : decode cX7_afterTurn 27 = .ok (.invokestatic 95, 3) := by decide +kernel
theorem dX7_afterTurn_30 : decode cX7_afterTurn 30 = .ok (.iload_n 2, 1) := by decide +kernel
theorem dX7_afterTurn_31 : decode cX7_afterTurn 31 = .ok (.ifCond .le 14, 3) := by decide +kernel
theorem dX7_afterTurn_34 : decode cX7_afterTurn 34 = .ok (.aload_n 0, 1) := by decide +kernel
theorem dX7_afterTurn_35 : decode cX7_afterTurn 35 = .ok (.getfield 15, 3) := by decide +kernel
theorem dX7_afterTurn_38 : decode cX7_afterTurn 38 = .ok (.iload_n 1, 1) := by decide +kernel
theorem dX7_afterTurn_39 : decode cX7_afterTurn 39 = .ok (.invokestatic 99, 3) := by decide +kernel
theorem dX7_afterTurn_42 : decode cX7_afterTurn 42 = .ok (.iconst 1, 1) := by decide +kernel
theorem dX7_afterTurn_43 : decode cX7_afterTurn 43 = .ok (.iadd, 1) := by decide +kernel
theorem dX7_afterTurn_44 : decode cX7_afterTurn 44 = .ok (.ireturn, 1) := by decide +kernel
theorem dX7_afterTurn_45 : decode cX7_afterTurn 45 = .ok (.aload_n 0, 1) := by decide +kernel
theorem dX7_afterTurn_46 : decode cX7_afterTurn 46 = .ok (.dup, 1) := by decide +kernel
theorem dX7_afterTurn_47 : decode cX7_afterTurn 47 = .ok (.getfield 31, 3) := by decide +kernel
theorem dX7_afterTurn_50 : decode cX7_afterTurn 50 = .ok (.iconst 1, 1) := by decide +kernel
theorem dX7_afterTurn_51 : decode cX7_afterTurn 51 = .ok (.isub, 1) := by decide +kernel
theorem dX7_afterTurn_52 : decode cX7_afterTurn 52 = .ok (.putfield 31, 3) := by decide +kernel
theorem dX7_afterTurn_55 : decode cX7_afterTurn 55 = .ok (.iload_n 1, 1) := by decide +kernel
theorem dX7_afterTurn_56 : decode cX7_afterTurn 56 = .ok (.iconst 1, 1) := by decide +kernel
theorem dX7_afterTurn_57 : decode cX7_afterTurn 57 = .ok (.iadd, 1) := by decide +kernel
theorem dX7_afterTurn_58 : decode cX7_afterTurn 58 = .ok (.ireturn, 1) := by decide +kernel
theorem dX7_note_0 : decode cX7_note 0 = .ok (.iload_n 1, 1) := by decide +kernel
theorem dX7_note_1 : decode cX7_note 1 = .ok (.ifCond .eq 16, 3) := by decide +kernel
theorem dX7_note_4 : decode cX7_note 4 = .ok (.aload_n 0, 1) := by decide +kernel
theorem dX7_note_5 : decode cX7_note 5 = .ok (.dup, 1) := by decide +kernel
theorem dX7_note_6 : decode cX7_note 6 = .ok (.getfield 103, 3) := by decide +kernel
theorem dX7_note_9 : decode cX7_note 9 = .ok (.iconst 1, 1) := by decide +kernel
theorem dX7_note_10 : decode cX7_note 10 = .ok (.iadd, 1) := by decide +kernel
theorem dX7_note_11 : decode cX7_note 11 = .ok (.putfield 103, 3) := by decide +kernel
theorem dX7_note_14 : decode cX7_note 14 = .ok (.goto 13, 3) := by decide +kernel
theorem dX7_note_17 : decode cX7_note 17 = .ok (.aload_n 0, 1) := by decide +kernel
theorem dX7_note_18 : decode cX7_note 18 = .ok (.dup, 1) := by decide +kernel
theorem dX7_note_19 : decode cX7_note 19 = .ok (.getfield 106, 3) := by decide +kernel
theorem dX7_note_22 : decode cX7_note 22 = .ok (.iconst 1, 1) := by decide +kernel
theorem dX7_note_23 : decode cX7_note 23 = .ok (.iadd, 1) := by decide +kernel
theorem dX7_note_24 : decode cX7_note 24 = .ok (.putfield 106, 3) := by decide +kernel
theorem dX7_note_27 : decode cX7_note 27 = .ok (.return_, 1) := by decide +kernel
theorem dX7_tried_0 : decode cX7_tried 0 = .ok (.aload_n 0, 1) := by decide +kernel
theorem dX7_tried_1 : decode cX7_tried 1 = .ok (.getfield 15, 3) := by decide +kernel
theorem dX7_tried_4 : decode cX7_tried 4 = .ok (.iload_n 3, 1) := by decide +kernel
theorem dX7_tried_5 : decode cX7_tried 5 = .ok (.invokestatic 99, 3) := by decide +kernel
theorem dX7_tried_8 : decode cX7_tried 8 = .ok (.istore 4, 2) := by decide +kernel
theorem dX7_tried_10 : decode cX7_tried 10 = .ok (.aload_n 0, 1) := by decide +kernel
theorem dX7_tried_11 : decode cX7_tried 11 = .ok (.getfield 18, 3) := by decide +kernel
theorem dX7_tried_14 : decode cX7_tried 14 = .ok (.iload_n 3, 1) := by decide +kernel
theorem dX7_tried_15 : decode cX7_tried 15 = .ok (.invokestatic 99, 3) := by decide +kernel
theorem dX7_tried_18 : decode cX7_tried 18 = .ok (.istore 5, 2) := by decide +kernel
theorem dX7_tried_20 : decode cX7_tried 20 = .ok (.aload_n 0, 1) := by decide +kernel
theorem dX7_tried_21 : decode cX7_tried 21 = .ok (.getfield 11, 3) := by decide +kernel
theorem dX7_tried_24 : decode cX7_tried 24 = .ok (.iload_n 3, 1) := by decide +kernel
theorem dX7_tried_25 : decode cX7_tried 25 = .ok (.invokestatic 99, 3) := by decide +kernel
theorem dX7_tried_28 : decode cX7_tried 28 = .ok (.tableswitch 81 0 4 #[36, 49, 56, 63, 72], 36) := by decide +kernel
theorem dX7_tried_64 : decode cX7_tried 64 = .ok (.aload_n 2, 1) := by decide +kernel
theorem dX7_tried_65 : decode cX7_tried 65 = .ok (.iload 4, 2) := by decide +kernel
theorem dX7_tried_67 : decode cX7_tried 67 = .ok (.aload_n 1, 1) := by decide +kernel
theorem dX7_tried_68 : decode cX7_tried 68 = .ok (.iload 5, 2) := by decide +kernel
theorem dX7_tried_70 : decode cX7_tried 70 = .ok (.invokevirtual 124, 3) := by decide +kernel
theorem dX7_tried_73 : decode cX7_tried 73 = .ok (.invokevirtual 127, 3) := by decide +kernel
theorem dX7_tried_76 : decode cX7_tried 76 = .ok (.ireturn, 1) := by decide +kernel
theorem dX7_tried_77 : decode cX7_tried 77 = .ok (.aload_n 2, 1) := by decide +kernel
theorem dX7_tried_78 : decode cX7_tried 78 = .ok (.iload 4, 2) := by decide +kernel
theorem dX7_tried_80 : decode cX7_tried 80 = .ok (.invokevirtual 133, 3) := by decide +kernel
theorem dX7_tried_83 : decode cX7_tried 83 = .ok (.ireturn, 1) := by decide +kernel
theorem dX7_tried_84 : decode cX7_tried 84 = .ok (.aload_n 2, 1) := by decide +kernel
theorem dX7_tried_85 : decode cX7_tried 85 = .ok (.iload 4, 2) := by decide +kernel
theorem dX7_tried_87 : decode cX7_tried 87 = .ok (.invokevirtual 137, 3) := by decide +kernel
theorem dX7_tried_90 : decode cX7_tried 90 = .ok (.ireturn, 1) := by decide +kernel
theorem dX7_tried_91 : decode cX7_tried 91 = .ok (.aload_n 2, 1) := by decide +kernel
theorem dX7_tried_92 : decode cX7_tried 92 = .ok (.aload_n 1, 1) := by decide +kernel
theorem dX7_tried_93 : decode cX7_tried 93 = .ok (.getfield 76, 3) := by decide +kernel
theorem dX7_tried_96 : decode cX7_tried 96 = .ok (.invokevirtual 140, 3) := by decide +kernel
theorem dX7_tried_99 : decode cX7_tried 99 = .ok (.ireturn, 1) := by decide +kernel
theorem dX7_tried_100 : decode cX7_tried 100 = .ok (.aload_n 2, 1) := by decide +kernel
theorem dX7_tried_101 : decode cX7_tried 101 = .ok (.iload 4, 2) := by decide +kernel
theorem dX7_tried_103 : decode cX7_tried 103 = .ok (.iload 5, 2) := by decide +kernel
theorem dX7_tried_105 : decode cX7_tried 105 = .ok (.invokevirtual 143, 3) := by decide +kernel
theorem dX7_tried_108 : decode cX7_tried 108 = .ok (.ireturn, 1) := by decide +kernel
theorem dX7_tried_109 : decode cX7_tried 109 = .ok (.aload_n 1, 1) := by decide +kernel
theorem dX7_tried_110 : decode cX7_tried 110 = .ok (.aload_n 2, 1) := by decide +kernel
theorem dX7_tried_111 : decode cX7_tried 111 = .ok (.invokestatic 146, 3) := by decide +kernel
theorem dX7_tried_114 : decode cX7_tried 114 = .ok (.ireturn, 1) := by decide +kernel
theorem dX7_lived_0 : decode cX7_lived 0 = .ok (.aload_n 1, 1) := by decide +kernel
theorem dX7_lived_1 : decode cX7_lived 1 = .ok (.invokevirtual 150, 3) := by decide +kernel
theorem dX7_lived_4 : decode cX7_lived 4 = .ok (.sipush 300, 3) := by decide +kernel
theorem dX7_lived_7 : decode cX7_lived 7 = .ok (.if_icmp .lt 5, 3) := by decide +kernel
theorem dX7_lived_10 : decode cX7_lived 10 = .ok (.iconst 0, 1) := by decide +kernel
theorem dX7_lived_11 : decode cX7_lived 11 = .ok (.ireturn, 1) := by decide +kernel
theorem dX7_lived_12 : decode cX7_lived 12 = .ok (.aload_n 1, 1) := by decide +kernel
theorem dX7_lived_13 : decode cX7_lived 13 = .ok (.aload_n 0, 1) := by decide +kernel
theorem dX7_lived_14 : decode cX7_lived 14 = .ok (.getfield 76, 3) := by decide +kernel
theorem dX7_lived_17 : decode cX7_lived 17 = .ok (.aload_n 0, 1) := by decide +kernel
theorem dX7_lived_18 : decode cX7_lived 18 = .ok (.getfield 153, 3) := by decide +kernel
theorem dX7_lived_21 : decode cX7_lived 21 = .ok (.invokevirtual 156, 3) := by decide +kernel
theorem dX7_lived_24 : decode cX7_lived 24 = .ok (.iconst 1, 1) := by decide +kernel
theorem dX7_lived_25 : decode cX7_lived 25 = .ok (.ireturn, 1) := by decide +kernel
theorem dX8_init_0 : decode cX8_init 0 = .ok (.aload_n 0, 1) := by decide +kernel
theorem dX8_init_1 : decode cX8_init 1 = .ok (.invokespecial 3, 3) := by decide +kernel
theorem dX8_init_4 : decode cX8_init 4 = .ok (.aload_n 0, 1) := by decide +kernel
theorem dX8_init_5 : decode cX8_init 5 = .ok (.sipush 600, 3) := by decide +kernel
theorem dX8_init_8 : decode cX8_init 8 = .ok (.newarray .int, 2) := by decide +kernel
theorem dX8_init_10 : decode cX8_init 10 = .ok (.putfield 9, 3) := by decide +kernel
theorem dX8_init_13 : decode cX8_init 13 = .ok (.aload_n 0, 1) := by decide +kernel
theorem dX8_init_14 : decode cX8_init 14 = .ok (.iconst (-1), 1) := by decide +kernel
theorem dX8_init_15 : decode cX8_init 15 = .ok (.putfield 15, 3) := by decide +kernel
theorem dX8_init_18 : decode cX8_init 18 = .ok (.return_, 1) := by decide +kernel
theorem dX8_hasRoom_0 : decode cX8_hasRoom 0 = .ok (.aload_n 0, 1) := by decide +kernel
theorem dX8_hasRoom_1 : decode cX8_hasRoom 1 = .ok (.getfield 19, 3) := by decide +kernel
theorem dX8_hasRoom_4 : decode cX8_hasRoom 4 = .ok (.bipush 20, 2) := by decide +kernel
theorem dX8_hasRoom_6 : decode cX8_hasRoom 6 = .ok (.iadd, 1) := by decide +kernel
theorem dX8_hasRoom_7 : decode cX8_hasRoom 7 = .ok (.sipush 600, 3) := by decide +kernel
theorem dX8_hasRoom_10 : decode cX8_hasRoom 10 = .ok (.if_icmp .gt 7, 3) := by decide +kernel
theorem dX8_hasRoom_13 : decode cX8_hasRoom 13 = .ok (.iconst 1, 1) := by decide +kernel
theorem dX8_hasRoom_14 : decode cX8_hasRoom 14 = .ok (.goto 4, 3) := by decide +kernel
theorem dX8_hasRoom_17 : decode cX8_hasRoom 17 = .ok (.iconst 0, 1) := by decide +kernel
theorem dX8_hasRoom_18 : decode cX8_hasRoom 18 = .ok (.ireturn, 1) := by decide +kernel
theorem dX8_add_0 : decode cX8_add 0 = .ok (.bipush 24, 2) := by decide +kernel
theorem dX8_add_2 : decode cX8_add 2 = .ok (.istore_n 2, 1) := by decide +kernel
theorem dX8_add_3 : decode cX8_add 3 = .ok (.iload_n 2, 1) := by decide +kernel
theorem dX8_add_4 : decode cX8_add 4 = .ok (.ifCond .lt 37, 3) := by decide +kernel
theorem dX8_add_7 : decode cX8_add 7 = .ok (.aload_n 0, 1) := by decide +kernel
theorem dX8_add_8 : decode cX8_add 8 = .ok (.getfield 9, 3) := by decide +kernel
theorem dX8_add_11 : decode cX8_add 11 = .ok (.aload_n 0, 1) := by decide +kernel
theorem dX8_add_12 : decode cX8_add 12 = .ok (.getfield 19, 3) := by decide +kernel
theorem dX8_add_15 : decode cX8_add 15 = .ok (.iload_n 1, 1) := by decide +kernel
theorem dX8_add_16 : decode cX8_add 16 = .ok (.iload_n 2, 1) := by decide +kernel
theorem dX8_add_17 : decode cX8_add 17 = .ok (.iushr, 1) := by decide +kernel
theorem dX8_add_18 : decode cX8_add 18 = .ok (.sipush 255, 3) := by decide +kernel
theorem dX8_add_21 : decode cX8_add 21 = .ok (.iand, 1) := by decide +kernel
theorem dX8_add_22 : decode cX8_add 22 = .ok (.invokestatic 22, 3) := by decide +kernel
theorem dX8_add_25 : decode cX8_add 25 = .ok (.aload_n 0, 1) := by decide +kernel
theorem dX8_add_26 : decode cX8_add 26 = .ok (.dup, 1) := by decide +kernel
theorem dX8_add_27 : decode cX8_add 27 = .ok (.getfield 19, 3) := by decide +kernel
theorem dX8_add_30 : decode cX8_add 30 = .ok (.iconst 1, 1) := by decide +kernel
theorem dX8_add_31 : decode cX8_add 31 = .ok (.iadd, 1) := by decide +kernel
theorem dX8_add_32 : decode cX8_add 32 = .ok (.putfield 19, 3) := by decide +kernel
theorem dX8_add_35 : decode cX8_add 35 = .ok (.iinc 2 (-8), 3) := by decide +kernel
theorem dX8_add_38 : decode cX8_add 38 = .ok (.goto (-35), 3) := by decide +kernel
theorem dX8_add_41 : decode cX8_add 41 = .ok (.return_, 1) := by decide +kernel
theorem dX8_has_0 : decode cX8_has 0 = .ok (.iload_n 1, 1) := by decide +kernel
theorem dX8_has_1 : decode cX8_has 1 = .ok (.ifCond .lt 20, 3) := by decide +kernel
theorem dX8_has_4 : decode cX8_has 4 = .ok (.iload_n 1, 1) := by decide +kernel
theorem dX8_has_5 : decode cX8_has 5 = .ok (.aload_n 0, 1) := by decide +kernel
theorem dX8_has_6 : decode cX8_has 6 = .ok (.getfield 19, 3) := by decide +kernel
theorem dX8_has_9 : decode cX8_has 9 = .ok (.if_icmp .gt 12, 3) := by decide +kernel
theorem dX8_has_12 : decode cX8_has 12 = .ok (.iload_n 1, 1) := by decide +kernel
theorem dX8_has_13 : decode cX8_has 13 = .ok (.iload_n 2, 1) := by decide +kernel
theorem dX8_has_14 : decode cX8_has 14 = .ok (.if_icmp .gt 7, 3) := by decide +kernel
theorem dX8_has_17 : decode cX8_has 17 = .ok (.iconst 1, 1) := by decide +kernel
theorem dX8_has_18 : decode cX8_has 18 = .ok (.goto 4, 3) := by decide +kernel
theorem dX8_has_21 : decode cX8_has 21 = .ok (.iconst 0, 1) := by decide +kernel
theorem dX8_has_22 : decode cX8_has 22 = .ok (.ireturn, 1) := by decide +kernel
theorem dX8_open_0 : decode cX8_open 0 = .ok (.aload_n 0, 1) := by decide +kernel
theorem dX8_open_1 : decode cX8_open 1 = .ok (.iload_n 1, 1) := by decide +kernel
theorem dX8_open_2 : decode cX8_open 2 = .ok (.putfield 26, 3) := by decide +kernel
theorem dX8_open_5 : decode cX8_open 5 = .ok (.aload_n 0, 1) := by decide +kernel
theorem dX8_open_6 : decode cX8_open 6 = .ok (.iconst 0, 1) := by decide +kernel
theorem dX8_open_7 : decode cX8_open 7 = .ok (.putfield 19, 3) := by decide +kernel
theorem dX8_open_10 : decode cX8_open 10 = .ok (.aload_n 0, 1) := by decide +kernel
theorem dX8_open_11 : decode cX8_open 11 = .ok (.iconst 0, 1) := by decide +kernel
theorem dX8_open_12 : decode cX8_open 12 = .ok (.putfield 29, 3) := by decide +kernel
theorem dX8_open_15 : decode cX8_open 15 = .ok (.aload_n 0, 1) := by decide +kernel
theorem dX8_open_16 : decode cX8_open 16 = .ok (.iconst 0, 1) := by decide +kernel
theorem dX8_open_17 : decode cX8_open 17 = .ok (.putfield 32, 3) := by decide +kernel
theorem dX8_open_20 : decode cX8_open 20 = .ok (.aload_n 0, 1) := by decide +kernel
theorem dX8_open_21 : decode cX8_open 21 = .ok (.iconst (-1), 1) := by decide +kernel
theorem dX8_open_22 : decode cX8_open 22 = .ok (.putfield 15, 3) := by decide +kernel
theorem dX8_open_25 : decode cX8_open 25 = .ok (.aload_n 0, 1) := by decide +kernel
theorem dX8_open_26 : decode cX8_open 26 = .ok (.iconst 0, 1) := by decide +kernel
theorem dX8_open_27 : decode cX8_open 27 = .ok (.invokevirtual 35, 3) := by decide +kernel
theorem dX8_open_30 : decode cX8_open 30 = .ok (.return_, 1) := by decide +kernel
theorem dX8_failed_0 : decode cX8_failed 0 = .ok (.aload_n 0, 1) := by decide +kernel
theorem dX8_failed_1 : decode cX8_failed 1 = .ok (.getfield 32, 3) := by decide +kernel
theorem dX8_failed_4 : decode cX8_failed 4 = .ok (.ifCond .eq 7, 3) := by decide +kernel
theorem dX8_failed_7 : decode cX8_failed 7 = .ok (.iconst 1, 1) := by decide +kernel
theorem dX8_failed_8 : decode cX8_failed 8 = .ok (.goto 4, 3) := by decide +kernel
theorem dX8_failed_11 : decode cX8_failed 11 = .ok (.iconst 0, 1) := by decide +kernel
theorem dX8_failed_12 : decode cX8_failed 12 = .ok (.ireturn, 1) := by decide +kernel
theorem dX8_verdict_0 : decode cX8_verdict 0 = .ok (.aload_n 0, 1) := by decide +kernel
theorem dX8_verdict_1 : decode cX8_verdict 1 = .ok (.getfield 32, 3) := by decide +kernel
theorem dX8_verdict_4 : decode cX8_verdict 4 = .ok (.bipush 10, 2) := by decide +kernel
theorem dX8_verdict_6 : decode cX8_verdict 6 = .ok (.isub, 1) := by decide +kernel
theorem dX8_verdict_7 : decode cX8_verdict 7 = .ok (.ireturn, 1) := by decide +kernel
theorem dX8_next_0 : decode cX8_next 0 = .ok (.aload_n 0, 1) := by decide +kernel
theorem dX8_next_1 : decode cX8_next 1 = .ok (.aload_n 0, 1) := by decide +kernel
theorem dX8_next_2 : decode cX8_next 2 = .ok (.getfield 29, 3) := by decide +kernel
theorem dX8_next_5 : decode cX8_next 5 = .ok (.invokevirtual 39, 3) := by decide +kernel
theorem dX8_next_8 : decode cX8_next 8 = .ok (.ireturn, 1) := by decide +kernel
theorem dX8_fail_0 : decode cX8_fail 0 = .ok (.aload_n 0, 1) := by decide +kernel
theorem dX8_fail_1 : decode cX8_fail 1 = .ok (.getfield 32, 3) := by decide +kernel
theorem dX8_fail_4 : decode cX8_fail 4 = .ok (.ifCond .ne 13, 3) := by decide +kernel
theorem dX8_fail_7 : decode cX8_fail 7 = .ok (.aload_n 0, 1) := by decide +kernel
theorem dX8_fail_8 : decode cX8_fail 8 = .ok (.iload_n 1, 1) := by decide +kernel
theorem dX8_fail_9 : decode cX8_fail 9 = .ok (.putfield 32, 3) := by decide +kernel
theorem dX8_fail_12 : decode cX8_fail 12 = .ok (.aload_n 0, 1) := by decide +kernel
theorem dX8_fail_13 : decode cX8_fail 13 = .ok (.iload_n 2, 1) := by decide +kernel
theorem dX8_fail_14 : decode cX8_fail 14 = .ok (.putfield 15, 3) := by decide +kernel
theorem dX8_fail_17 : decode cX8_fail 17 = .ok (.return_, 1) := by decide +kernel
theorem dX8_takesSign_0 : decode cX8_takesSign 0 = .ok (.aload_n 0, 1) := by decide +kernel
theorem dX8_takesSign_1 : decode cX8_takesSign 1 = .ok (.invokevirtual 43, 3) := by decide +kernel
theorem dX8_takesSign_4 : decode cX8_takesSign 4 = .ok (.ifCond .ne 15, 3) := by decide +kernel
theorem dX8_takesSign_7 : decode cX8_takesSign 7 = .ok (.aload_n 0, 1) := by decide +kernel
theorem dX8_takesSign_8 : decode cX8_takesSign 8 = .ok (.aload_n 0, 1) := by decide +kernel
theorem dX8_takesSign_9 : decode cX8_takesSign 9 = .ok (.getfield 29, 3) := by decide +kernel
theorem dX8_takesSign_12 : decode cX8_takesSign 12 = .ok (.invokevirtual 39, 3) := by decide +kernel
theorem dX8_takesSign_15 : decode cX8_takesSign 15 = .ok (.iload_n 1, 1) := by decide +kernel
theorem dX8_takesSign_16 : decode cX8_takesSign 16 = .ok (.if_icmp .eq 5, 3) := by decide +kernel
theorem dX8_takesSign_19 : decode cX8_takesSign 19 = .ok (.iconst 0, 1) := by decide +kernel
theorem dX8_takesSign_20 : decode cX8_takesSign 20 = .ok (.ireturn, 1) := by decide +kernel
theorem dX8_takesSign_21 : decode cX8_takesSign 21 = .ok (.aload_n 0, 1) := by decide +kernel
theorem dX8_takesSign_22 : decode cX8_takesSign 22 = .ok (.iconst 1, 1) := by decide +kernel
theorem dX8_takesSign_23 : decode cX8_takesSign 23 = .ok (.invokevirtual 35, 3) := by decide +kernel
theorem dX8_takesSign_26 : decode cX8_takesSign 26 = .ok (.iconst 1, 1) := by decide +kernel
theorem dX8_takesSign_27 : decode cX8_takesSign 27 = .ok (.ireturn, 1) := by decide +kernel
theorem dX8_needSign_0 : decode cX8_needSign 0 = .ok (.aload_n 0, 1) := by decide +kernel
theorem dX8_needSign_1 : decode cX8_needSign 1 = .ok (.invokevirtual 43, 3) := by decide +kernel
theorem dX8_needSign_4 : decode cX8_needSign 4 = .ok (.ifCond .ne 15, 3) := by decide +kernel
theorem dX8_needSign_7 : decode cX8_needSign 7 = .ok (.aload_n 0, 1) := by decide +kernel
theorem dX8_needSign_8 : decode cX8_needSign 8 = .ok (.aload_n 0, 1) := by decide +kernel
theorem dX8_needSign_9 : decode cX8_needSign 9 = .ok (.getfield 29, 3) := by decide +kernel
theorem dX8_needSign_12 : decode cX8_needSign 12 = .ok (.invokevirtual 39, 3) := by decide +kernel
theorem dX8_needSign_15 : decode cX8_needSign 15 = .ok (.iload_n 1, 1) := by decide +kernel
theorem dX8_needSign_16 : decode cX8_needSign 16 = .ok (.if_icmp .eq 15, 3) := by decide +kernel
theorem dX8_needSign_19 : decode cX8_needSign 19 = .ok (.aload_n 0, 1) := by decide +kernel
theorem dX8_needSign_20 : decode cX8_needSign 20 = .ok (.iconst 1, 1) := by decide +kernel
theorem dX8_needSign_21 : decode cX8_needSign 21 = .ok (.aload_n 0, 1) := by decide +kernel
theorem dX8_needSign_22 : decode cX8_needSign 22 = .ok (.getfield 29, 3) := by decide +kernel
theorem dX8_needSign_25 : decode cX8_needSign 25 = .ok (.invokevirtual 47, 3) := by decide +kernel
theorem dX8_needSign_28 : decode cX8_needSign 28 = .ok (.goto 8, 3) := by decide +kernel
theorem dX8_needSign_31 : decode cX8_needSign 31 = .ok (.aload_n 0, 1) := by decide +kernel
theorem dX8_needSign_32 : decode cX8_needSign 32 = .ok (.iconst 1, 1) := by decide +kernel
theorem dX8_needSign_33 : decode cX8_needSign 33 = .ok (.invokevirtual 35, 3) := by decide +kernel
theorem dX8_needSign_36 : decode cX8_needSign 36 = .ok (.return_, 1) := by decide +kernel
theorem dX8_takesWordOf_0 : decode cX8_takesWordOf 0 = .ok (.iconst 0, 1) := by decide +kernel
theorem dX8_takesWordOf_1 : decode cX8_takesWordOf 1 = .ok (.istore_n 2, 1) := by decide +kernel
theorem dX8_takesWordOf_2 : decode cX8_takesWordOf 2 = .ok (.iconst 0, 1) := by decide +kernel
theorem dX8_takesWordOf_3 : decode cX8_takesWordOf 3 = .ok (.istore_n 3, 1) := by decide +kernel
theorem dX8_takesWordOf_4 : decode cX8_takesWordOf 4 = .ok (.iconst 0, 1) := by decide +kernel
theorem dX8_takesWordOf_5 : decode cX8_takesWordOf 5 = .ok (.istore 4, 2) := by decide +kernel
theorem dX8_takesWordOf_7 : decode cX8_takesWordOf 7 = .ok (.iload 4, 2) := by decide +kernel
theorem dX8_takesWordOf_9 : decode cX8_takesWordOf 9 = .ok (.aload_n 1, 1) := by decide +kernel
theorem dX8_takesWordOf_10 : decode cX8_takesWordOf 10 = .ok (.invokevirtual 51, 3) := by decide +kernel
theorem dX8_takesWordOf_13 : decode cX8_takesWordOf 13 = .ok (.if_icmp .ge 49, 3) := by decide +kernel
theorem dX8_takesWordOf_16 : decode cX8_takesWordOf 16 = .ok (.aload_n 1, 1) := by decide +kernel
theorem dX8_takesWordOf_17 : decode cX8_takesWordOf 17 = .ok (.iload 4, 2) := by decide +kernel
theorem dX8_takesWordOf_19 : decode cX8_takesWordOf 19 = .ok (.invokevirtual 56, 3) := by decide +kernel
theorem dX8_takesWordOf_22 : decode cX8_takesWordOf 22 = .ok (.bipush 32, 2) := by decide +kernel
theorem dX8_takesWordOf_24 : decode cX8_takesWordOf 24 = .ok (.if_icmp .ne 32, 3) := by decide +kernel
theorem dX8_takesWordOf_27 : decode cX8_takesWordOf 27 = .ok (.aload_n 0, 1) := by decide +kernel
theorem dX8_takesWordOf_28 : decode cX8_takesWordOf 28 = .ok (.aload_n 1, 1) := by decide +kernel
theorem dX8_takesWordOf_29 : decode cX8_takesWordOf 29 = .ok (.iload_n 3, 1) := by decide +kernel
theorem dX8_takesWordOf_30 : decode cX8_takesWordOf 30 = .ok (.iload 4, 2) := by decide +kernel
theorem dX8_takesWordOf_32 : decode cX8_takesWordOf 32 = .ok (.invokevirtual 60, 3) := by decide +kernel
theorem dX8_takesWordOf_35 : decode cX8_takesWordOf 35 = .ok (.ifCond .eq 13, 3) := by decide +kernel
theorem dX8_takesWordOf_38 : decode cX8_takesWordOf 38 = .ok (.aload_n 0, 1) := by decide +kernel
theorem dX8_takesWordOf_39 : decode cX8_takesWordOf 39 = .ok (.iload 4, 2) := by decide +kernel
theorem dX8_takesWordOf_41 : decode cX8_takesWordOf 41 = .ok (.iload_n 3, 1) := by decide +kernel
theorem dX8_takesWordOf_42 : decode cX8_takesWordOf 42 = .ok (.isub, 1) := by decide +kernel
theorem dX8_takesWordOf_43 : decode cX8_takesWordOf 43 = .ok (.invokevirtual 35, 3) := by decide +kernel
theorem dX8_takesWordOf_46 : decode cX8_takesWordOf 46 = .ok (.iload_n 2, 1) := by decide +kernel
theorem dX8_takesWordOf_47 : decode cX8_takesWordOf 47 = .ok (.ireturn, 1) := by decide +kernel
theorem dX8_takesWordOf_48 : decode cX8_takesWordOf 48 = .ok (.iinc 2 1, 3) := by decide +kernel
theorem dX8_takesWordOf_51 : decode cX8_takesWordOf 51 = .ok (.iload 4, 2) := by decide +kernel
theorem dX8_takesWordOf_53 : decode cX8_takesWordOf 53 = .ok (.iconst 1, 1) := by decide +kernel
theorem dX8_takesWordOf_54 : decode cX8_takesWordOf 54 = .ok (.iadd, 1) := by decide +kernel
theorem dX8_takesWordOf_55 : decode cX8_takesWordOf 55 = .ok (.istore_n 3, 1) := by decide +kernel
theorem dX8_takesWordOf_56 : decode cX8_takesWordOf 56 = .ok (.iinc 4 1, 3) := by decide +kernel
theorem dX8_takesWordOf_59 : decode cX8_takesWordOf 59 = .ok (.goto (-52), 3) := by decide +kernel
theorem dX8_takesWordOf_62 : decode cX8_takesWordOf 62 = .ok (.iconst (-1), 1) := by decide +kernel
theorem dX8_takesWordOf_63 : decode cX8_takesWordOf 63 = .ok (.ireturn, 1) := by decide +kernel
theorem dX8_comesNext_0 : decode cX8_comesNext 0 = .ok (.iload_n 2, 1) := by decide +kernel
theorem dX8_comesNext_1 : decode cX8_comesNext 1 = .ok (.istore 4, 2) := by decide +kernel
theorem dX8_comesNext_3 : decode cX8_comesNext 3 = .ok (.iload 4, 2) := by decide +kernel
theorem dX8_comesNext_5 : decode cX8_comesNext 5 = .ok (.ifCond .lt 48, 3) := by decide +kernel
theorem dX8_comesNext_8 : decode cX8_comesNext 8 = .ok (.iload 4, 2) := by decide +kernel
theorem dX8_comesNext_10 : decode cX8_comesNext 10 = .ok (.iload_n 3, 1) := by decide +kernel
theorem dX8_comesNext_11 : decode cX8_comesNext 11 = .ok (.if_icmp .ge 42, 3) := by decide +kernel
theorem dX8_comesNext_14 : decode cX8_comesNext 14 = .ok (.iload 4, 2) := by decide +kernel
theorem dX8_comesNext_16 : decode cX8_comesNext 16 = .ok (.aload_n 1, 1) := by decide +kernel
theorem dX8_comesNext_17 : decode cX8_comesNext 17 = .ok (.invokevirtual 51, 3) := by decide +kernel
theorem dX8_comesNext_20 : decode cX8_comesNext 20 = .ok (.if_icmp .ge 33, 3) := by decide +kernel
theorem dX8_comesNext_23 : decode cX8_comesNext 23 = .ok (.aload_n 0, 1) := by decide +kernel
theorem dX8_comesNext_24 : decode cX8_comesNext 24 = .ok (.aload_n 0, 1) := by decide +kernel
theorem dX8_comesNext_25 : decode cX8_comesNext 25 = .ok (.getfield 29, 3) := by decide +kernel
theorem dX8_comesNext_28 : decode cX8_comesNext 28 = .ok (.iload 4, 2) := by decide +kernel
theorem dX8_comesNext_30 : decode cX8_comesNext 30 = .ok (.iadd, 1) := by decide +kernel
theorem dX8_comesNext_31 : decode cX8_comesNext 31 = .ok (.iload_n 2, 1) := by decide +kernel
theorem dX8_comesNext_32 : decode cX8_comesNext 32 = .ok (.isub, 1) := by decide +kernel
theorem dX8_comesNext_33 : decode cX8_comesNext 33 = .ok (.invokevirtual 39, 3) := by decide +kernel
theorem dX8_comesNext_36 : decode cX8_comesNext 36 = .ok (.aload_n 1, 1) := by decide +kernel
theorem dX8_comesNext_37 : decode cX8_comesNext 37 = .ok (.iload 4, 2) := by decide +kernel
theorem dX8_comesNext_39 : decode cX8_comesNext 39 = .ok (.invokevirtual 56, 3) := by decide +kernel
theorem dX8_comesNext_42 : decode cX8_comesNext 42 = .ok (.if_icmp .eq 5, 3) := by decide +kernel
theorem dX8_comesNext_45 : decode cX8_comesNext 45 = .ok (.iconst 0, 1) := by decide +kernel
theorem dX8_comesNext_46 : decode cX8_comesNext 46 = .ok (.ireturn, 1) := by decide +kernel
theorem dX8_comesNext_47 : decode cX8_comesNext 47 = .ok (.iinc 4 1, 3) := by decide +kernel
theorem dX8_comesNext_50 : decode cX8_comesNext 50 = .ok (.goto (-47), 3) := by decide +kernel
theorem dX8_comesNext_53 : decode cX8_comesNext 53 = .ok (.aload_n 0, 1) := by decide +kernel
theorem dX8_comesNext_54 : decode cX8_comesNext 54 = .ok (.invokevirtual 43, 3) := by decide +kernel
theorem dX8_comesNext_57 : decode cX8_comesNext 57 = .ok (.ifCond .ne 25, 3) := by decide +kernel
theorem dX8_comesNext_60 : decode cX8_comesNext 60 = .ok (.aload_n 0, 1) := by decide +kernel
theorem dX8_comesNext_61 : decode cX8_comesNext 61 = .ok (.aload_n 0, 1) := by decide +kernel
theorem dX8_comesNext_62 : decode cX8_comesNext 62 = .ok (.getfield 29, 3) := by decide +kernel
theorem dX8_comesNext_65 : decode cX8_comesNext 65 = .ok (.iload_n 3, 1) := by decide +kernel
theorem dX8_comesNext_66 : decode cX8_comesNext 66 = .ok (.iadd, 1) := by decide +kernel
theorem dX8_comesNext_67 : decode cX8_comesNext 67 = .ok (.iload_n 2, 1) := by decide +kernel
theorem dX8_comesNext_68 : decode cX8_comesNext 68 = .ok (.isub, 1) := by decide +kernel
theorem dX8_comesNext_69 : decode cX8_comesNext 69 = .ok (.invokevirtual 39, 3) := by decide +kernel
theorem dX8_comesNext_72 : decode cX8_comesNext 72 = .ok (.invokestatic 64, 3) := by decide +kernel
theorem dX8_comesNext_75 : decode cX8_comesNext 75 = .ok (.ifCond .ne 7, 3) := by decide +kernel
theorem dX8_comesNext_78 : decode cX8_comesNext 78 = .ok (.iconst 1, 1) := by decide +kernel
theorem dX8_comesNext_79 : decode cX8_comesNext 79 = .ok (.goto 4, 3) := by decide +kernel
theorem dX8_comesNext_82 : decode cX8_comesNext 82 = .ok (.iconst 0, 1) := by decide +kernel
theorem dX8_comesNext_83 : decode cX8_comesNext 83 = .ok (.ireturn, 1) := by decide +kernel
theorem dX8_needNumber_0 : decode cX8_needNumber 0 = .ok (.aload_n 0, 1) := by decide +kernel
theorem dX8_needNumber_1 : decode cX8_needNumber 1 = .ok (.invokevirtual 43, 3) := by decide +kernel
theorem dX8_needNumber_4 : decode cX8_needNumber 4 = .ok (.ifCond .ne 17, 3) := by decide +kernel
theorem dX8_needNumber_7 : decode cX8_needNumber 7 = .ok (.aload_n 0, 1) := by decide +kernel
theorem dX8_needNumber_8 : decode cX8_needNumber 8 = .ok (.aload_n 0, 1) := by decide +kernel
theorem dX8_needNumber_9 : decode cX8_needNumber 9 = .ok (.getfield 29, 3) := by decide +kernel
theorem dX8_needNumber_12 : decode cX8_needNumber 12 = .ok (.invokevirtual 39, 3) := by decide +kernel
theorem dX8_needNumber_15 : decode cX8_needNumber 15 = .ok (.invokestatic 68, 3) := by decide +kernel
theorem dX8_needNumber_18 : decode cX8_needNumber 18 = .ok (.ifCond .ne 14, 3) := by decide +kernel
theorem dX8_needNumber_21 : decode cX8_needNumber 21 = .ok (.aload_n 0, 1) := by decide +kernel
theorem dX8_needNumber_22 : decode cX8_needNumber 22 = .ok (.iconst 1, 1) := by decide +kernel
theorem dX8_needNumber_23 : decode cX8_needNumber 23 = .ok (.aload_n 0, 1) := by decide +kernel
theorem dX8_needNumber_24 : decode cX8_needNumber 24 = .ok (.getfield 29, 3) := by decide +kernel
theorem dX8_needNumber_27 : decode cX8_needNumber 27 = .ok (.invokevirtual 47, 3) := by decide +kernel
theorem dX8_needNumber_30 : decode cX8_needNumber 30 = .ok (.iconst 0, 1) := by decide +kernel
theorem dX8_needNumber_31 : decode cX8_needNumber 31 = .ok (.ireturn, 1) := by decide +kernel
theorem dX8_needNumber_32 : decode cX8_needNumber 32 = .ok (.iconst 0, 1) := by decide +kernel
theorem dX8_needNumber_33 : decode cX8_needNumber 33 = .ok (.istore_n 2, 1) := by decide +kernel
theorem dX8_needNumber_34 : decode cX8_needNumber 34 = .ok (.iconst 0, 1) := by decide +kernel
theorem dX8_needNumber_35 : decode cX8_needNumber 35 = .ok (.istore_n 3, 1) := by decide +kernel
theorem dX8_needNumber_36 : decode cX8_needNumber 36 = .ok (.iload_n 2, 1) := by decide +kernel
theorem dX8_needNumber_37 : decode cX8_needNumber 37 = .ok (.aload_n 0, 1) := by decide +kernel
theorem dX8_needNumber_38 : decode cX8_needNumber 38 = .ok (.getfield 26, 3) := by decide +kernel
theorem dX8_needNumber_41 : decode cX8_needNumber 41 = .ok (.if_icmp .ge 49, 3) := by decide +kernel
theorem dX8_needNumber_44 : decode cX8_needNumber 44 = .ok (.aload_n 0, 1) := by decide +kernel
theorem dX8_needNumber_45 : decode cX8_needNumber 45 = .ok (.aload_n 0, 1) := by decide +kernel
theorem dX8_needNumber_46 : decode cX8_needNumber 46 = .ok (.getfield 29, 3) := by decide +kernel
theorem dX8_needNumber_49 : decode cX8_needNumber 49 = .ok (.iload_n 2, 1) := by decide +kernel
theorem dX8_needNumber_50 : decode cX8_needNumber 50 = .ok (.iadd, 1) := by decide +kernel
theorem dX8_needNumber_51 : decode cX8_needNumber 51 = .ok (.invokevirtual 39, 3) := by decide +kernel
theorem dX8_needNumber_54 : decode cX8_needNumber 54 = .ok (.invokestatic 68, 3) := by decide +kernel
theorem dX8_needNumber_57 : decode cX8_needNumber 57 = .ok (.ifCond .eq 33, 3) := by decide +kernel
theorem dX8_needNumber_60 : decode cX8_needNumber 60 = .ok (.ldc 71, 2) := by decide +kernel
theorem dX8_needNumber_62 : decode cX8_needNumber 62 = .ok (.iload_n 3, 1) := by decide +kernel
theorem dX8_needNumber_63 : decode cX8_needNumber 63 = .ok (.bipush 10, 2) := by decide +kernel
theorem dX8_needNumber_65 : decode cX8_needNumber 65 = .ok (.imul, 1) := by decide +kernel
theorem dX8_needNumber_66 : decode cX8_needNumber 66 = .ok (.aload_n 0, 1) := by decide +kernel
theorem dX8_needNumber_67 : decode cX8_needNumber 67 = .ok (.aload_n 0, 1) := by decide +kernel
theorem dX8_needNumber_68 : decode cX8_needNumber 68 = .ok (.getfield 29, 3) := by decide +kernel
theorem dX8_needNumber_71 : decode cX8_needNumber 71 = .ok (.iload_n 2, 1) := by decide +kernel
theorem dX8_needNumber_72 : decode cX8_needNumber 72 = .ok (.iadd, 1) := by decide +kernel
theorem dX8_needNumber_73 : decode cX8_needNumber 73 = .ok (.invokevirtual 39, 3) := by decide +kernel
theorem dX8_needNumber_76 : decode cX8_needNumber 76 = .ok (.iadd, 1) := by decide +kernel
theorem dX8_needNumber_77 : decode cX8_needNumber 77 = .ok (.bipush 48, 2) := by decide +kernel
theorem dX8_needNumber_79 : decode cX8_needNumber 79 = .ok (.isub, 1) := by decide +kernel
theorem dX8_needNumber_80 : decode cX8_needNumber 80 = .ok (.invokestatic 72, 3) := by decide +kernel
theorem dX8_needNumber_83 : decode cX8_needNumber 83 = .ok (.istore_n 3, 1) := by decide +kernel
theorem dX8_needNumber_84 : decode cX8_needNumber 84 = .ok (.iinc 2 1, 3) := by decide +kernel
theorem dX8_needNumber_87 : decode cX8_needNumber 87 = .ok (.goto (-51), 3) := by decide +kernel
theorem dX8_needNumber_90 : decode cX8_needNumber 90 = .ok (.aload_n 0, 1) := by decide +kernel
theorem dX8_needNumber_91 : decode cX8_needNumber 91 = .ok (.iload_n 2, 1) := by decide +kernel
theorem dX8_needNumber_92 : decode cX8_needNumber 92 = .ok (.invokevirtual 35, 3) := by decide +kernel
theorem dX8_needNumber_95 : decode cX8_needNumber 95 = .ok (.iload_n 3, 1) := by decide +kernel
theorem dX8_needNumber_96 : decode cX8_needNumber 96 = .ok (.iload_n 1, 1) := by decide +kernel
theorem dX8_needNumber_97 : decode cX8_needNumber 97 = .ok (.if_icmp .le 12, 3) := by decide +kernel
theorem dX8_needNumber_100 : decode cX8_needNumber 100 = .ok (.aload_n 0, 1) := by decide +kernel
theorem dX8_needNumber_101 : decode cX8_needNumber 101 = .ok (.iconst 2, 1) := by decide +kernel
theorem dX8_needNumber_102 : decode cX8_needNumber 102 = .ok (.aload_n 0, 1) := by decide +kernel
theorem dX8_needNumber_103 : decode cX8_needNumber 103 = .ok (.getfield 78, 3) := by decide +kernel
theorem dX8_needNumber_106 : decode cX8_needNumber 106 = .ok (.invokevirtual 47, 3) := by decide +kernel
theorem dX8_needNumber_109 : decode cX8_needNumber 109 = .ok (.iload_n 3, 1) := by decide +kernel
theorem dX8_needNumber_110 : decode cX8_needNumber 110 = .ok (.ireturn, 1) := by decide +kernel
theorem dX8_pass_0 : decode cX8_pass 0 = .ok (.aload_n 0, 1) := by decide +kernel
theorem dX8_pass_1 : decode cX8_pass 1 = .ok (.aload_n 0, 1) := by decide +kernel
theorem dX8_pass_2 : decode cX8_pass 2 = .ok (.getfield 29, 3) := by decide +kernel
theorem dX8_pass_5 : decode cX8_pass 5 = .ok (.putfield 78, 3) := by decide +kernel
theorem dX8_pass_8 : decode cX8_pass 8 = .ok (.aload_n 0, 1) := by decide +kernel
theorem dX8_pass_9 : decode cX8_pass 9 = .ok (.dup, 1) := by decide +kernel
theorem dX8_pass_10 : decode cX8_pass 10 = .ok (.getfield 29, 3) := by decide +kernel
theorem dX8_pass_13 : decode cX8_pass 13 = .ok (.iload_n 1, 1) := by decide +kernel
theorem dX8_pass_14 : decode cX8_pass 14 = .ok (.iadd, 1) := by decide +kernel
theorem dX8_pass_15 : decode cX8_pass 15 = .ok (.putfield 29, 3) := by decide +kernel
theorem dX8_pass_18 : decode cX8_pass 18 = .ok (.aload_n 0, 1) := by decide +kernel
theorem dX8_pass_19 : decode cX8_pass 19 = .ok (.getfield 29, 3) := by decide +kernel
theorem dX8_pass_22 : decode cX8_pass 22 = .ok (.ifCond .lt 53, 3) := by decide +kernel
theorem dX8_pass_25 : decode cX8_pass 25 = .ok (.aload_n 0, 1) := by decide +kernel
theorem dX8_pass_26 : decode cX8_pass 26 = .ok (.getfield 29, 3) := by decide +kernel
theorem dX8_pass_29 : decode cX8_pass 29 = .ok (.aload_n 0, 1) := by decide +kernel
theorem dX8_pass_30 : decode cX8_pass 30 = .ok (.getfield 26, 3) := by decide +kernel
theorem dX8_pass_33 : decode cX8_pass 33 = .ok (.if_icmp .ge 42, 3) := by decide +kernel
theorem dX8_pass_36 : decode cX8_pass 36 = .ok (.aload_n 0, 1) := by decide +kernel
theorem dX8_pass_37 : decode cX8_pass 37 = .ok (.getfield 29, 3) := by decide +kernel
theorem dX8_pass_40 : decode cX8_pass 40 = .ok (.aload_n 0, 1) := by decide +kernel
theorem dX8_pass_41 : decode cX8_pass 41 = .ok (.getfield 9, 3) := by decide +kernel
theorem dX8_pass_44 : decode cX8_pass 44 = .ok (.arraylength, 1) := by decide +kernel
theorem dX8_pass_45 : decode cX8_pass 45 = .ok (.if_icmp .ge 30, 3) := by decide +kernel
theorem dX8_pass_48 : decode cX8_pass 48 = .ok (.aload_n 0, 1) := by decide +kernel
theorem dX8_pass_49 : decode cX8_pass 49 = .ok (.getfield 9, 3) := by decide +kernel
theorem dX8_pass_52 : decode cX8_pass 52 = .ok (.aload_n 0, 1) := by decide +kernel
theorem dX8_pass_53 : decode cX8_pass 53 = .ok (.getfield 29, 3) := by decide +kernel
theorem dX8_pass_56 : decode cX8_pass 56 = .ok (.iaload, 1) := by decide +kernel
theorem dX8_pass_57 : decode cX8_pass 57 = .ok (.bipush 32, 2) := by decide +kernel
theorem dX8_pass_59 : decode cX8_pass 59 = .ok (.if_icmp .ne 16, 3) := by decide +kernel
theorem dX8_pass_62 : decode cX8_pass 62 = .ok (.aload_n 0, 1) := by decide +kernel
theorem dX8_pass_63 : decode cX8_pass 63 = .ok (.dup, 1) := by decide +kernel
theorem dX8_pass_64 : decode cX8_pass 64 = .ok (.getfield 29, 3) := by decide +kernel
theorem dX8_pass_67 : decode cX8_pass 67 = .ok (.iconst 1, 1) := by decide +kernel
theorem dX8_pass_68 : decode cX8_pass 68 = .ok (.iadd, 1) := by decide +kernel
theorem dX8_pass_69 : decode cX8_pass 69 = .ok (.putfield 29, 3) := by decide +kernel
theorem dX8_pass_72 : decode cX8_pass 72 = .ok (.goto (-54), 3) := by decide +kernel
theorem dX8_pass_75 : decode cX8_pass 75 = .ok (.return_, 1) := by decide +kernel
theorem dX8_byteAt_0 : decode cX8_byteAt 0 = .ok (.iload_n 1, 1) := by decide +kernel
theorem dX8_byteAt_1 : decode cX8_byteAt 1 = .ok (.ifCond .lt 29, 3) := by decide +kernel
theorem dX8_byteAt_4 : decode cX8_byteAt 4 = .ok (.iload_n 1, 1) := by decide +kernel
theorem dX8_byteAt_5 : decode cX8_byteAt 5 = .ok (.aload_n 0, 1) := by decide +kernel
theorem dX8_byteAt_6 : decode cX8_byteAt 6 = .ok (.getfield 26, 3) := by decide +kernel
theorem dX8_byteAt_9 : decode cX8_byteAt 9 = .ok (.if_icmp .ge 21, 3) := by decide +kernel
theorem dX8_byteAt_12 : decode cX8_byteAt 12 = .ok (.iload_n 1, 1) := by decide +kernel
theorem dX8_byteAt_13 : decode cX8_byteAt 13 = .ok (.aload_n 0, 1) := by decide +kernel
theorem dX8_byteAt_14 : decode cX8_byteAt 14 = .ok (.getfield 9, 3) := by decide +kernel
theorem dX8_byteAt_17 : decode cX8_byteAt 17 = .ok (.arraylength, 1) := by decide +kernel
theorem dX8_byteAt_18 : decode cX8_byteAt 18 = .ok (.if_icmp .ge 12, 3) := by decide +kernel
theorem dX8_byteAt_21 : decode cX8_byteAt 21 = .ok (.aload_n 0, 1) := by decide +kernel
theorem dX8_byteAt_22 : decode cX8_byteAt 22 = .ok (.getfield 9, 3) := by decide +kernel
theorem dX8_byteAt_25 : decode cX8_byteAt 25 = .ok (.iload_n 1, 1) := by decide +kernel
theorem dX8_byteAt_26 : decode cX8_byteAt 26 = .ok (.iaload, 1) := by decide +kernel
theorem dX8_byteAt_27 : decode cX8_byteAt 27 = .ok (.goto 4, 3) := by decide +kernel
theorem dX8_byteAt_30 : decode cX8_byteAt 30 = .ok (.iconst (-1), 1) := by decide +kernel
theorem dX8_byteAt_31 : decode cX8_byteAt 31 = .ok (.ireturn, 1) := by decide +kernel
theorem dX9_init_0 : decode cX9_init 0 = .ok (.aload_n 0, 1) := by decide +kernel
theorem dX9_init_1 : decode cX9_init 1 = .ok (.invokespecial 3, 3) := by decide +kernel
theorem dX9_init_4 : decode cX9_init 4 = .ok (.aload_n 0, 1) := by decide +kernel
theorem dX9_init_5 : decode cX9_init 5 = .ok (.bipush 44, 2) := by decide +kernel
theorem dX9_init_7 : decode cX9_init 7 = .ok (.newarray .int, 2) := by decide +kernel
theorem dX9_init_9 : decode cX9_init 9 = .ok (.putfield 9, 3) := by decide +kernel
theorem dX9_init_12 : decode cX9_init 12 = .ok (.bipush 40, 2) := by decide +kernel
theorem dX9_init_14 : decode cX9_init 14 = .ok (.istore_n 1, 1) := by decide +kernel
theorem dX9_init_15 : decode cX9_init 15 = .ok (.iload_n 1, 1) := by decide +kernel
theorem dX9_init_16 : decode cX9_init 16 = .ok (.bipush 43, 2) := by decide +kernel
theorem dX9_init_18 : decode cX9_init 18 = .ok (.if_icmp .ge 26, 3) := by decide +kernel
theorem dX9_init_21 : decode cX9_init 21 = .ok (.iload_n 1, 1) := by decide +kernel
theorem dX9_init_22 : decode cX9_init 22 = .ok (.aload_n 0, 1) := by decide +kernel
theorem dX9_init_23 : decode cX9_init 23 = .ok (.getfield 9, 3) := by decide +kernel
theorem dX9_init_26 : decode cX9_init 26 = .ok (.arraylength, 1) := by decide +kernel
theorem dX9_init_27 : decode cX9_init 27 = .ok (.if_icmp .ge 17, 3) := by decide +kernel
theorem dX9_init_30 : decode cX9_init 30 = .ok (.aload_n 0, 1) := by decide +kernel
theorem dX9_init_31 : decode cX9_init 31 = .ok (.getfield 9, 3) := by decide +kernel
theorem dX9_init_34 : decode cX9_init 34 = .ok (.iload_n 1, 1) := by decide +kernel
theorem dX9_init_35 : decode cX9_init 35 = .ok (.bipush 50, 2) := by decide +kernel
theorem dX9_init_37 : decode cX9_init 37 = .ok (.iastore, 1) := by decide +kernel
theorem dX9_init_38 : decode cX9_init 38 = .ok (.iinc 1 1, 3) := by decide +kernel
theorem dX9_init_41 : decode cX9_init 41 = .ok (.goto (-26), 3) := by decide +kernel
theorem dX9_init_44 : decode cX9_init 44 = .ok (.return_, 1) := by decide +kernel
theorem dX9_settle_0 : decode cX9_settle 0 = .ok (.aload_n 0, 1) := by decide +kernel
theorem dX9_settle_1 : decode cX9_settle 1 = .ok (.getfield 9, 3) := by decide +kernel
theorem dX9_settle_4 : decode cX9_settle 4 = .ok (.iconst 0, 1) := by decide +kernel
theorem dX9_settle_5 : decode cX9_settle 5 = .ok (.invokestatic 15, 3) := by decide +kernel
theorem dX9_settle_8 : decode cX9_settle 8 = .ok (.iconst 0, 1) := by decide +kernel
theorem dX9_settle_9 : decode cX9_settle 9 = .ok (.istore_n 2, 1) := by decide +kernel
theorem dX9_settle_10 : decode cX9_settle 10 = .ok (.iload_n 2, 1) := by decide +kernel
theorem dX9_settle_11 : decode cX9_settle 11 = .ok (.aload_n 1, 1) := by decide +kernel
theorem dX9_settle_12 : decode cX9_settle 12 = .ok (.getfield 19, 3) := by decide +kernel
theorem dX9_settle_15 : decode cX9_settle 15 = .ok (.if_icmp .ge 30, 3) := by decide +kernel
theorem dX9_settle_18 : decode cX9_settle 18 = .ok (.aload_n 0, 1) := by decide +kernel
theorem dX9_settle_19 : decode cX9_settle 19 = .ok (.iload_n 2, 1) := by decide +kernel
theorem dX9_settle_20 : decode cX9_settle 20 = .ok (.iconst 1, 1) := by decide +kernel
theorem dX9_settle_21 : decode cX9_settle 21 = .ok (.aload_n 1, 1) := by decide +kernel
theorem dX9_settle_22 : decode cX9_settle 22 = .ok (.getfield 25, 3) := by decide +kernel
theorem dX9_settle_25 : decode cX9_settle 25 = .ok (.iload_n 2, 1) := by decide +kernel
theorem dX9_settle_26 : decode cX9_settle 26 = .ok (.invokestatic 28, 3) := by decide +kernel
theorem dX9_settle_29 : decode cX9_settle 29 = .ok (.invokevirtual 32, 3) := by decide +kernel
theorem dX9_settle_32 : decode cX9_settle 32 = .ok (.aload_n 0, 1) := by decide +kernel
theorem dX9_settle_33 : decode cX9_settle 33 = .ok (.iload_n 2, 1) := by decide +kernel
theorem dX9_settle_34 : decode cX9_settle 34 = .ok (.iconst 3, 1) := by decide +kernel
theorem dX9_settle_35 : decode cX9_settle 35 = .ok (.iconst (-1), 1) := by decide +kernel
theorem dX9_settle_36 : decode cX9_settle 36 = .ok (.invokevirtual 32, 3) := by decide +kernel
theorem dX9_settle_39 : decode cX9_settle 39 = .ok (.iinc 2 1, 3) := by decide +kernel
theorem dX9_settle_42 : decode cX9_settle 42 = .ok (.goto (-32), 3) := by decide +kernel
theorem dX9_settle_45 : decode cX9_settle 45 = .ok (.aload_n 1, 1) := by decide +kernel
theorem dX9_settle_46 : decode cX9_settle 46 = .ok (.getfield 36, 3) := by decide +kernel
theorem dX9_settle_49 : decode cX9_settle 49 = .ok (.iconst 0, 1) := by decide +kernel
theorem dX9_settle_50 : decode cX9_settle 50 = .ok (.aload_n 0, 1) := by decide +kernel
theorem dX9_settle_51 : decode cX9_settle 51 = .ok (.getfield 9, 3) := by decide +kernel
theorem dX9_settle_54 : decode cX9_settle 54 = .ok (.bipush 40, 2) := by decide +kernel
theorem dX9_settle_56 : decode cX9_settle 56 = .ok (.iconst 3, 1) := by decide +kernel
theorem dX9_settle_57 : decode cX9_settle 57 = .ok (.invokestatic 39, 3) := by decide +kernel
theorem dX9_settle_60 : decode cX9_settle 60 = .ok (.return_, 1) := by decide +kernel
theorem dX9_copyFrom_0 : decode cX9_copyFrom 0 = .ok (.aload_n 1, 1) := by decide +kernel
theorem dX9_copyFrom_1 : decode cX9_copyFrom 1 = .ok (.getfield 9, 3) := by decide +kernel
theorem dX9_copyFrom_4 : decode cX9_copyFrom 4 = .ok (.iconst 0, 1) := by decide +kernel
theorem dX9_copyFrom_5 : decode cX9_copyFrom 5 = .ok (.aload_n 0, 1) := by decide +kernel
theorem dX9_copyFrom_6 : decode cX9_copyFrom 6 = .ok (.getfield 9, 3) := by decide +kernel
theorem dX9_copyFrom_9 : decode cX9_copyFrom 9 = .ok (.iconst 0, 1) := by decide +kernel
theorem dX9_copyFrom_10 : decode cX9_copyFrom 10 = .ok (.bipush 44, 2) := by decide +kernel
theorem dX9_copyFrom_12 : decode cX9_copyFrom 12 = .ok (.invokestatic 39, 3) := by decide +kernel
theorem dX9_copyFrom_15 : decode cX9_copyFrom 15 = .ok (.return_, 1) := by decide +kernel
theorem dX9_saveTo_0 : decode cX9_saveTo 0 = .ok (.aload_n 0, 1) := by decide +kernel
theorem dX9_saveTo_1 : decode cX9_saveTo 1 = .ok (.getfield 9, 3) := by decide +kernel
theorem dX9_saveTo_4 : decode cX9_saveTo 4 = .ok (.iconst 0, 1) := by decide +kernel
theorem dX9_saveTo_5 : decode cX9_saveTo 5 = .ok (.aload_n 1, 1) := by decide +kernel
theorem dX9_saveTo_6 : decode cX9_saveTo 6 = .ok (.iload_n 2, 1) := by decide +kernel
theorem dX9_saveTo_7 : decode cX9_saveTo 7 = .ok (.bipush 44, 2) := by decide +kernel
theorem dX9_saveTo_9 : decode cX9_saveTo 9 = .ok (.invokestatic 39, 3) := by decide +kernel
theorem dX9_saveTo_12 : decode cX9_saveTo 12 = .ok (.return_, 1) := by decide +kernel
theorem dX9_loadFrom_0 : decode cX9_loadFrom 0 = .ok (.aload_n 1, 1) := by decide +kernel
theorem dX9_loadFrom_1 : decode cX9_loadFrom 1 = .ok (.iload_n 2, 1) := by decide +kernel
theorem dX9_loadFrom_2 : decode cX9_loadFrom 2 = .ok (.aload_n 0, 1) := by decide +kernel
theorem dX9_loadFrom_3 : decode cX9_loadFrom 3 = .ok (.getfield 9, 3) := by decide +kernel
theorem dX9_loadFrom_6 : decode cX9_loadFrom 6 = .ok (.iconst 0, 1) := by decide +kernel
theorem dX9_loadFrom_7 : decode cX9_loadFrom 7 = .ok (.bipush 44, 2) := by decide +kernel
theorem dX9_loadFrom_9 : decode cX9_loadFrom 9 = .ok (.invokestatic 39, 3) := by decide +kernel
theorem dX9_loadFrom_12 : decode cX9_loadFrom 12 = .ok (.return_, 1) := by decide +kernel
theorem dX9_has_0 : decode cX9_has 0 = .ok (.aload_n 0, 1) := by decide +kernel
theorem dX9_has_1 : decode cX9_has 1 = .ok (.getfield 9, 3) := by decide +kernel
theorem dX9_has_4 : decode cX9_has 4 = .ok (.iload_n 1, 1) := by decide +kernel
theorem dX9_has_5 : decode cX9_has 5 = .ok (.iconst 5, 1) := by decide +kernel
theorem dX9_has_6 : decode cX9_has 6 = .ok (.imul, 1) := by decide +kernel
theorem dX9_has_7 : decode cX9_has 7 = .ok (.iload_n 2, 1) := by decide +kernel
theorem dX9_has_8 : decode cX9_has 8 = .ok (.iadd, 1) := by decide +kernel
theorem dX9_has_9 : decode cX9_has 9 = .ok (.invokestatic 28, 3) := by decide +kernel
theorem dX9_has_12 : decode cX9_has 12 = .ok (.ireturn, 1) := by decide +kernel
theorem dX9_set_0 : decode cX9_set 0 = .ok (.aload_n 0, 1) := by decide +kernel
theorem dX9_set_1 : decode cX9_set 1 = .ok (.getfield 9, 3) := by decide +kernel
theorem dX9_set_4 : decode cX9_set 4 = .ok (.iload_n 1, 1) := by decide +kernel
theorem dX9_set_5 : decode cX9_set 5 = .ok (.iconst 5, 1) := by decide +kernel
theorem dX9_set_6 : decode cX9_set 6 = .ok (.imul, 1) := by decide +kernel
theorem dX9_set_7 : decode cX9_set 7 = .ok (.iload_n 2, 1) := by decide +kernel
theorem dX9_set_8 : decode cX9_set 8 = .ok (.iadd, 1) := by decide +kernel
theorem dX9_set_9 : decode cX9_set 9 = .ok (.iload_n 3, 1) := by decide +kernel
theorem dX9_set_10 : decode cX9_set 10 = .ok (.invokestatic 43, 3) := by decide +kernel
theorem dX9_set_13 : decode cX9_set 13 = .ok (.return_, 1) := by decide +kernel
theorem dX9_stored_0 : decode cX9_stored 0 = .ok (.aload_n 0, 1) := by decide +kernel
theorem dX9_stored_1 : decode cX9_stored 1 = .ok (.getfield 9, 3) := by decide +kernel
theorem dX9_stored_4 : decode cX9_stored 4 = .ok (.bipush 40, 2) := by decide +kernel
theorem dX9_stored_6 : decode cX9_stored 6 = .ok (.iload_n 1, 1) := by decide +kernel
theorem dX9_stored_7 : decode cX9_stored 7 = .ok (.iadd, 1) := by decide +kernel
theorem dX9_stored_8 : decode cX9_stored 8 = .ok (.invokestatic 28, 3) := by decide +kernel
theorem dX9_stored_11 : decode cX9_stored 11 = .ok (.ireturn, 1) := by decide +kernel
theorem dX9_year_0 : decode cX9_year 0 = .ok (.aload_n 0, 1) := by decide +kernel
theorem dX9_year_1 : decode cX9_year 1 = .ok (.getfield 9, 3) := by decide +kernel
theorem dX9_year_4 : decode cX9_year 4 = .ok (.bipush 43, 2) := by decide +kernel
theorem dX9_year_6 : decode cX9_year 6 = .ok (.invokestatic 28, 3) := by decide +kernel
theorem dX9_year_9 : decode cX9_year 9 = .ok (.ireturn, 1) := by decide +kernel
theorem dX9_dip_0 : decode cX9_dip 0 = .ok (.aload_n 0, 1) := by decide +kernel
theorem dX9_dip_1 : decode cX9_dip 1 = .ok (.iload_n 1, 1) := by decide +kernel
theorem dX9_dip_2 : decode cX9_dip 2 = .ok (.iconst 0, 1) := by decide +kernel
theorem dX9_dip_3 : decode cX9_dip 3 = .ok (.invokevirtual 47, 3) := by decide +kernel
theorem dX9_dip_6 : decode cX9_dip 6 = .ok (.istore_n 3, 1) := by decide +kernel
theorem dX9_dip_7 : decode cX9_dip 7 = .ok (.iload_n 3, 1) := by decide +kernel
theorem dX9_dip_8 : decode cX9_dip 8 = .ok (.iload_n 2, 1) := by decide +kernel
theorem dX9_dip_9 : decode cX9_dip 9 = .ok (.invokestatic 51, 3) := by decide +kernel
theorem dX9_dip_12 : decode cX9_dip 12 = .ok (.istore 4, 2) := by decide +kernel
theorem dX9_dip_14 : decode cX9_dip 14 = .ok (.iload 4, 2) := by decide +kernel
theorem dX9_dip_16 : decode cX9_dip 16 = .ok (.iload_n 3, 1) := by decide +kernel
theorem dX9_dip_17 : decode cX9_dip 17 = .ok (.if_icmp .eq 11, 3) := by decide +kernel
theorem dX9_dip_20 : decode cX9_dip 20 = .ok (.aload_n 0, 1) := by decide +kernel
theorem dX9_dip_21 : decode cX9_dip 21 = .ok (.iload_n 2, 1) := by decide +kernel
theorem dX9_dip_22 : decode cX9_dip 22 = .ok (.invokevirtual 54, 3) := by decide +kernel
theorem dX9_dip_25 : decode cX9_dip 25 = .ok (.ifCond .ne 5, 3) := by decide +kernel
theorem dX9_dip_28 : decode cX9_dip 28 = .ok (.iconst 0, 1) := by decide +kernel
theorem dX9_dip_29 : decode cX9_dip 29 = .ok (.ireturn, 1) := by decide +kernel
theorem dX9_dip_30 : decode cX9_dip 30 = .ok (.iconst 0, 1) := by decide +kernel
theorem dX9_dip_31 : decode cX9_dip 31 = .ok (.istore 5, 2) := by decide +kernel
theorem dX9_dip_33 : decode cX9_dip 33 = .ok (.iload 5, 2) := by decide +kernel
theorem dX9_dip_35 : decode cX9_dip 35 = .ok (.iconst 3, 1) := by decide +kernel
theorem dX9_dip_36 : decode cX9_dip 36 = .ok (.if_icmp .ge 34, 3) := by decide +kernel
theorem dX9_dip_39 : decode cX9_dip 39 = .ok (.aload_n 0, 1) := by decide +kernel
theorem dX9_dip_40 : decode cX9_dip 40 = .ok (.getfield 9, 3) := by decide +kernel
theorem dX9_dip_43 : decode cX9_dip 43 = .ok (.bipush 40, 2) := by decide +kernel
theorem dX9_dip_45 : decode cX9_dip 45 = .ok (.iload 5, 2) := by decide +kernel
theorem dX9_dip_47 : decode cX9_dip 47 = .ok (.iadd, 1) := by decide +kernel
theorem dX9_dip_48 : decode cX9_dip 48 = .ok (.aload_n 0, 1) := by decide +kernel
theorem dX9_dip_49 : decode cX9_dip 49 = .ok (.iload 5, 2) := by decide +kernel
theorem dX9_dip_51 : decode cX9_dip 51 = .ok (.invokevirtual 58, 3) := by decide +kernel
theorem dX9_dip_54 : decode cX9_dip 54 = .ok (.iload_n 2, 1) := by decide +kernel
theorem dX9_dip_55 : decode cX9_dip 55 = .ok (.iload 5, 2) := by decide +kernel
theorem dX9_dip_57 : decode cX9_dip 57 = .ok (.invokestatic 62, 3) := by decide +kernel
theorem dX9_dip_60 : decode cX9_dip 60 = .ok (.isub, 1) := by decide +kernel
theorem dX9_dip_61 : decode cX9_dip 61 = .ok (.invokestatic 43, 3) := by decide +kernel
theorem dX9_dip_64 : decode cX9_dip 64 = .ok (.iinc 5 1, 3) := by decide +kernel
theorem dX9_dip_67 : decode cX9_dip 67 = .ok (.goto (-34), 3) := by decide +kernel
theorem dX9_dip_70 : decode cX9_dip 70 = .ok (.aload_n 0, 1) := by decide +kernel
theorem dX9_dip_71 : decode cX9_dip 71 = .ok (.iload_n 1, 1) := by decide +kernel
theorem dX9_dip_72 : decode cX9_dip 72 = .ok (.iconst 0, 1) := by decide +kernel
theorem dX9_dip_73 : decode cX9_dip 73 = .ok (.iload 4, 2) := by decide +kernel
theorem dX9_dip_75 : decode cX9_dip 75 = .ok (.invokevirtual 32, 3) := by decide +kernel
theorem dX9_dip_78 : decode cX9_dip 78 = .ok (.aload_n 0, 1) := by decide +kernel
theorem dX9_dip_79 : decode cX9_dip 79 = .ok (.iload_n 1, 1) := by decide +kernel
theorem dX9_dip_80 : decode cX9_dip 80 = .ok (.iconst 4, 1) := by decide +kernel
theorem dX9_dip_81 : decode cX9_dip 81 = .ok (.aload_n 0, 1) := by decide +kernel
theorem dX9_dip_82 : decode cX9_dip 82 = .ok (.iload_n 1, 1) := by decide +kernel
theorem dX9_dip_83 : decode cX9_dip 83 = .ok (.iconst 4, 1) := by decide +kernel
theorem dX9_dip_84 : decode cX9_dip 84 = .ok (.invokevirtual 47, 3) := by decide +kernel
theorem dX9_dip_87 : decode cX9_dip 87 = .ok (.iconst 1, 1) := by decide +kernel
theorem dX9_dip_88 : decode cX9_dip 88 = .ok (.iadd, 1) := by decide +kernel
theorem dX9_dip_89 : decode cX9_dip 89 = .ok (.invokevirtual 32, 3) := by decide +kernel
theorem dX9_dip_92 : decode cX9_dip 92 = .ok (.iconst 1, 1) := by decide +kernel
theorem dX9_dip_93 : decode cX9_dip 93 = .ok (.ireturn, 1) := by decide +kernel
theorem dX9_affords_0 : decode cX9_affords 0 = .ok (.iconst 0, 1) := by decide +kernel
theorem dX9_affords_1 : decode cX9_affords 1 = .ok (.istore_n 2, 1) := by decide +kernel
theorem dX9_affords_2 : decode cX9_affords 2 = .ok (.iload_n 2, 1) := by decide +kernel
theorem dX9_affords_3 : decode cX9_affords 3 = .ok (.iconst 3, 1) := by decide +kernel
theorem dX9_affords_4 : decode cX9_affords 4 = .ok (.if_icmp .ge 24, 3) := by decide +kernel
theorem dX9_affords_7 : decode cX9_affords 7 = .ok (.aload_n 0, 1) := by decide +kernel
theorem dX9_affords_8 : decode cX9_affords 8 = .ok (.iload_n 2, 1) := by decide +kernel
theorem dX9_affords_9 : decode cX9_affords 9 = .ok (.invokevirtual 58, 3) := by decide +kernel
theorem dX9_affords_12 : decode cX9_affords 12 = .ok (.iload_n 1, 1) := by decide +kernel
theorem dX9_affords_13 : decode cX9_affords 13 = .ok (.iload_n 2, 1) := by decide +kernel
theorem dX9_affords_14 : decode cX9_affords 14 = .ok (.invokestatic 62, 3) := by decide +kernel
theorem dX9_affords_17 : decode cX9_affords 17 = .ok (.if_icmp .ge 5, 3) := by decide +kernel
theorem dX9_affords_20 : decode cX9_affords 20 = .ok (.iconst 0, 1) := by decide +kernel
theorem dX9_affords_21 : decode cX9_affords 21 = .ok (.ireturn, 1) := by decide +kernel
theorem dX9_affords_22 : decode cX9_affords 22 = .ok (.iinc 2 1, 3) := by decide +kernel
theorem dX9_affords_25 : decode cX9_affords 25 = .ok (.goto (-23), 3) := by decide +kernel
theorem dX9_affords_28 : decode cX9_affords 28 = .ok (.iconst 1, 1) := by decide +kernel
theorem dX9_affords_29 : decode cX9_affords 29 = .ok (.ireturn, 1) := by decide +kernel
theorem dX9_wash_0 : decode cX9_wash 0 = .ok (.aload_n 0, 1) := by decide +kernel
theorem dX9_wash_1 : decode cX9_wash 1 = .ok (.iload_n 1, 1) := by decide +kernel
theorem dX9_wash_2 : decode cX9_wash 2 = .ok (.iconst 0, 1) := by decide +kernel
theorem dX9_wash_3 : decode cX9_wash 3 = .ok (.invokevirtual 47, 3) := by decide +kernel
theorem dX9_wash_6 : decode cX9_wash 6 = .ok (.istore_n 2, 1) := by decide +kernel
theorem dX9_wash_7 : decode cX9_wash 7 = .ok (.iload_n 2, 1) := by decide +kernel
theorem dX9_wash_8 : decode cX9_wash 8 = .ok (.ifCond .ne 5, 3) := by decide +kernel
theorem dX9_wash_11 : decode cX9_wash 11 = .ok (.iconst 0, 1) := by decide +kernel
theorem dX9_wash_12 : decode cX9_wash 12 = .ok (.ireturn, 1) := by decide +kernel
theorem dX9_wash_13 : decode cX9_wash 13 = .ok (.iconst 0, 1) := by decide +kernel
theorem dX9_wash_14 : decode cX9_wash 14 = .ok (.istore_n 3, 1) := by decide +kernel
theorem dX9_wash_15 : decode cX9_wash 15 = .ok (.iload_n 3, 1) := by decide +kernel
theorem dX9_wash_16 : decode cX9_wash 16 = .ok (.iconst 3, 1) := by decide +kernel
theorem dX9_wash_17 : decode cX9_wash 17 = .ok (.if_icmp .ge 15, 3) := by decide +kernel
theorem dX9_wash_20 : decode cX9_wash 20 = .ok (.iload_n 2, 1) := by decide +kernel
theorem dX9_wash_21 : decode cX9_wash 21 = .ok (.iload_n 3, 1) := by decide +kernel
theorem dX9_wash_22 : decode cX9_wash 22 = .ok (.invokestatic 65, 3) := by decide +kernel
theorem dX9_wash_25 : decode cX9_wash 25 = .ok (.istore_n 2, 1) := by decide +kernel
theorem dX9_wash_26 : decode cX9_wash 26 = .ok (.iinc 3 1, 3) := by decide +kernel
theorem dX9_wash_29 : decode cX9_wash 29 = .ok (.goto (-14), 3) := by decide +kernel
theorem dX9_wash_32 : decode cX9_wash 32 = .ok (.aload_n 0, 1) := by decide +kernel
theorem dX9_wash_33 : decode cX9_wash 33 = .ok (.iload_n 1, 1) := by decide +kernel
theorem dX9_wash_34 : decode cX9_wash 34 = .ok (.iconst 0, 1) := by decide +kernel
theorem dX9_wash_35 : decode cX9_wash 35 = .ok (.iload_n 2, 1) := by decide +kernel
theorem dX9_wash_36 : decode cX9_wash 36 = .ok (.invokevirtual 32, 3) := by decide +kernel
theorem dX9_wash_39 : decode cX9_wash 39 = .ok (.aload_n 0, 1) := by decide +kernel
theorem dX9_wash_40 : decode cX9_wash 40 = .ok (.iload_n 1, 1) := by decide +kernel
theorem dX9_wash_41 : decode cX9_wash 41 = .ok (.iconst 2, 1) := by decide +kernel
theorem dX9_wash_42 : decode cX9_wash 42 = .ok (.iconst 0, 1) := by decide +kernel
theorem dX9_wash_43 : decode cX9_wash 43 = .ok (.invokevirtual 32, 3) := by decide +kernel
theorem dX9_wash_46 : decode cX9_wash 46 = .ok (.iconst 1, 1) := by decide +kernel
theorem dX9_wash_47 : decode cX9_wash 47 = .ok (.ireturn, 1) := by decide +kernel
theorem dX9_salt_0 : decode cX9_salt 0 = .ok (.aload_n 0, 1) := by decide +kernel
theorem dX9_salt_1 : decode cX9_salt 1 = .ok (.iload_n 1, 1) := by decide +kernel
theorem dX9_salt_2 : decode cX9_salt 2 = .ok (.iconst 2, 1) := by decide +kernel
theorem dX9_salt_3 : decode cX9_salt 3 = .ok (.invokevirtual 47, 3) := by decide +kernel
theorem dX9_salt_6 : decode cX9_salt 6 = .ok (.iconst 1, 1) := by decide +kernel
theorem dX9_salt_7 : decode cX9_salt 7 = .ok (.if_icmp .ne 5, 3) := by decide +kernel
theorem dX9_salt_10 : decode cX9_salt 10 = .ok (.iconst 0, 1) := by decide +kernel
theorem dX9_salt_11 : decode cX9_salt 11 = .ok (.ireturn, 1) := by decide +kernel
theorem dX9_salt_12 : decode cX9_salt 12 = .ok (.aload_n 0, 1) := by decide +kernel
theorem dX9_salt_13 : decode cX9_salt 13 = .ok (.iload_n 1, 1) := by decide +kernel
theorem dX9_salt_14 : decode cX9_salt 14 = .ok (.iconst 2, 1) := by decide +kernel
theorem dX9_salt_15 : decode cX9_salt 15 = .ok (.iconst 1, 1) := by decide +kernel
theorem dX9_salt_16 : decode cX9_salt 16 = .ok (.invokevirtual 32, 3) := by decide +kernel
theorem dX9_salt_19 : decode cX9_salt 19 = .ok (.iconst 1, 1) := by decide +kernel
theorem dX9_salt_20 : decode cX9_salt 20 = .ok (.ireturn, 1) := by decide +kernel
theorem dX9_rain_0 : decode cX9_rain 0 = .ok (.aload_n 0, 1) := by decide +kernel
theorem dX9_rain_1 : decode cX9_rain 1 = .ok (.iload_n 1, 1) := by decide +kernel
theorem dX9_rain_2 : decode cX9_rain 2 = .ok (.invokevirtual 68, 3) := by decide +kernel
theorem dX9_rain_5 : decode cX9_rain 5 = .ok (.istore_n 2, 1) := by decide +kernel
theorem dX9_rain_6 : decode cX9_rain 6 = .ok (.iload_n 2, 1) := by decide +kernel
theorem dX9_rain_7 : decode cX9_rain 7 = .ok (.iconst (-1), 1) := by decide +kernel
theorem dX9_rain_8 : decode cX9_rain 8 = .ok (.if_icmp .ne 5, 3) := by decide +kernel
theorem dX9_rain_11 : decode cX9_rain 11 = .ok (.iconst 0, 1) := by decide +kernel
theorem dX9_rain_12 : decode cX9_rain 12 = .ok (.ireturn, 1) := by decide +kernel
theorem dX9_rain_13 : decode cX9_rain 13 = .ok (.iconst 0, 1) := by decide +kernel
theorem dX9_rain_14 : decode cX9_rain 14 = .ok (.istore_n 3, 1) := by decide +kernel
theorem dX9_rain_15 : decode cX9_rain 15 = .ok (.iload_n 3, 1) := by decide +kernel
theorem dX9_rain_16 : decode cX9_rain 16 = .ok (.iload_n 1, 1) := by decide +kernel
theorem dX9_rain_17 : decode cX9_rain 17 = .ok (.if_icmp .ge 25, 3) := by decide +kernel
theorem dX9_rain_20 : decode cX9_rain 20 = .ok (.aload_n 0, 1) := by decide +kernel
theorem dX9_rain_21 : decode cX9_rain 21 = .ok (.iload_n 3, 1) := by decide +kernel
theorem dX9_rain_22 : decode cX9_rain 22 = .ok (.iconst 2, 1) := by decide +kernel
theorem dX9_rain_23 : decode cX9_rain 23 = .ok (.invokevirtual 47, 3) := by decide +kernel
theorem dX9_rain_26 : decode cX9_rain 26 = .ok (.ifCond .ne 10, 3) := by decide +kernel
theorem dX9_rain_29 : decode cX9_rain 29 = .ok (.aload_n 0, 1) := by decide +kernel
theorem dX9_rain_30 : decode cX9_rain 30 = .ok (.iload_n 3, 1) := by decide +kernel
theorem dX9_rain_31 : decode cX9_rain 31 = .ok (.iconst 0, 1) := by decide +kernel
theorem dX9_rain_32 : decode cX9_rain 32 = .ok (.iload_n 2, 1) := by decide +kernel
theorem dX9_rain_33 : decode cX9_rain 33 = .ok (.invokevirtual 32, 3) := by decide +kernel
theorem dX9_rain_36 : decode cX9_rain 36 = .ok (.iinc 3 1, 3) := by decide +kernel
theorem dX9_rain_39 : decode cX9_rain 39 = .ok (.goto (-24), 3) := by decide +kernel
theorem dX9_rain_42 : decode cX9_rain 42 = .ok (.iconst 1, 1) := by decide +kernel
theorem dX9_rain_43 : decode cX9_rain 43 = .ok (.ireturn, 1) := by decide +kernel
theorem dX9_rainShade_0 : decode cX9_rainShade 0 = .ok (.aload_n 0, 1) := by decide +kernel
theorem dX9_rainShade_1 : decode cX9_rainShade 1 = .ok (.iload_n 1, 1) := by decide +kernel
theorem dX9_rainShade_2 : decode cX9_rainShade 2 = .ok (.invokevirtual 71, 3) := by decide +kernel
theorem dX9_rainShade_5 : decode cX9_rainShade 5 = .ok (.istore_n 2, 1) := by decide +kernel
theorem dX9_rainShade_6 : decode cX9_rainShade 6 = .ok (.iload_n 2, 1) := by decide +kernel
theorem dX9_rainShade_7 : decode cX9_rainShade 7 = .ok (.iconst 2, 1) := by decide +kernel
theorem dX9_rainShade_8 : decode cX9_rainShade 8 = .ok (.if_icmp .ge 5, 3) := by decide +kernel
theorem dX9_rainShade_11 : decode cX9_rainShade 11 = .ok (.iconst (-1), 1) := by decide +kernel
theorem dX9_rainShade_12 : decode cX9_rainShade 12 = .ok (.ireturn, 1) := by decide +kernel
theorem dX9_rainShade_13 : decode cX9_rainShade 13 = .ok (.iconst 0, 1) := by decide +kernel
theorem dX9_rainShade_14 : decode cX9_rainShade 14 = .ok (.istore_n 3, 1) := by decide +kernel
theorem dX9_rainShade_15 : decode cX9_rainShade 15 = .ok (.iconst 0, 1) := by decide +kernel
theorem dX9_rainShade_16 : decode cX9_rainShade 16 = .ok (.istore 4, 2) := by decide +kernel
theorem dX9_rainShade_18 : decode cX9_rainShade 18 = .ok (.iload 4, 2) := by decide +kernel
theorem dX9_rainShade_20 : decode cX9_rainShade 20 = .ok (.iconst 3, 1) := by decide +kernel
theorem dX9_rainShade_21 : decode cX9_rainShade 21 = .ok (.if_icmp .ge 71, 3) := by decide +kernel
theorem dX9_rainShade_24 : decode cX9_rainShade 24 = .ok (.iconst 0, 1) := by decide +kernel
theorem dX9_rainShade_25 : decode cX9_rainShade 25 = .ok (.istore 5, 2) := by decide +kernel
theorem dX9_rainShade_27 : decode cX9_rainShade 27 = .ok (.iconst 0, 1) := by decide +kernel
theorem dX9_rainShade_28 : decode cX9_rainShade 28 = .ok (.istore 6, 2) := by decide +kernel
theorem dX9_rainShade_30 : decode cX9_rainShade 30 = .ok (.iload 6, 2) := by decide +kernel
theorem dX9_rainShade_32 : decode cX9_rainShade 32 = .ok (.iload_n 1, 1) := by decide +kernel
theorem dX9_rainShade_33 : decode cX9_rainShade 33 = .ok (.if_icmp .ge 40, 3) := by decide +kernel
theorem dX9_rainShade_36 : decode cX9_rainShade 36 = .ok (.iload 5, 2) := by decide +kernel
theorem dX9_rainShade_38 : decode cX9_rainShade 38 = .ok (.aload_n 0, 1) := by decide +kernel
theorem dX9_rainShade_39 : decode cX9_rainShade 39 = .ok (.iload 6, 2) := by decide +kernel
theorem dX9_rainShade_41 : decode cX9_rainShade 41 = .ok (.iconst 2, 1) := by decide +kernel
theorem dX9_rainShade_42 : decode cX9_rainShade 42 = .ok (.invokevirtual 47, 3) := by decide +kernel
theorem dX9_rainShade_45 : decode cX9_rainShade 45 = .ok (.ifCond .ne 18, 3) := by decide +kernel
theorem dX9_rainShade_48 : decode cX9_rainShade 48 = .ok (.aload_n 0, 1) := by decide +kernel
theorem dX9_rainShade_49 : decode cX9_rainShade 49 = .ok (.iload 6, 2) := by decide +kernel
theorem dX9_rainShade_51 : decode cX9_rainShade 51 = .ok (.iconst 0, 1) := by decide +kernel
theorem dX9_rainShade_52 : decode cX9_rainShade 52 = .ok (.invokevirtual 47, 3) := by decide +kernel
theorem dX9_rainShade_55 : decode cX9_rainShade 55 = .ok (.iload 4, 2) := by decide +kernel
theorem dX9_rainShade_57 : decode cX9_rainShade 57 = .ok (.invokestatic 62, 3) := by decide +kernel
theorem dX9_rainShade_60 : decode cX9_rainShade 60 = .ok (.goto 4, 3) := by decide +kernel
theorem dX9_rainShade_63 : decode cX9_rainShade 63 = .ok (.iconst 0, 1) := by decide +kernel
theorem dX9_rainShade_64 : decode cX9_rainShade 64 = .ok (.iadd, 1) := by decide +kernel
theorem dX9_rainShade_65 : decode cX9_rainShade 65 = .ok (.istore 5, 2) := by decide +kernel
theorem dX9_rainShade_67 : decode cX9_rainShade 67 = .ok (.iinc 6 1, 3) := by decide +kernel
theorem dX9_rainShade_70 : decode cX9_rainShade 70 = .ok (.goto (-40), 3) := by decide +kernel
theorem dX9_rainShade_73 : decode cX9_rainShade 73 = .ok (.iload_n 3, 1) := by decide +kernel
theorem dX9_rainShade_74 : decode cX9_rainShade 74 = .ok (.iload 5, 2) := by decide +kernel
theorem dX9_rainShade_76 : decode cX9_rainShade 76 = .ok (.iload_n 2, 1) := by decide +kernel
theorem dX9_rainShade_77 : decode cX9_rainShade 77 = .ok (.idiv, 1) := by decide +kernel
theorem dX9_rainShade_78 : decode cX9_rainShade 78 = .ok (.iload 4, 2) := by decide +kernel
theorem dX9_rainShade_80 : decode cX9_rainShade 80 = .ok (.invokestatic 74, 3) := by decide +kernel
theorem dX9_rainShade_83 : decode cX9_rainShade 83 = .ok (.imul, 1) := by decide +kernel
theorem dX9_rainShade_84 : decode cX9_rainShade 84 = .ok (.iadd, 1) := by decide +kernel
theorem dX9_rainShade_85 : decode cX9_rainShade 85 = .ok (.istore_n 3, 1) := by decide +kernel
theorem dX9_rainShade_86 : decode cX9_rainShade 86 = .ok (.iinc 4 1, 3) := by decide +kernel
theorem dX9_rainShade_89 : decode cX9_rainShade 89 = .ok (.goto (-71), 3) := by decide +kernel
theorem dX9_rainShade_92 : decode cX9_rainShade 92 = .ok (.iload_n 3, 1) := by decide +kernel
theorem dX9_rainShade_93 : decode cX9_rainShade 93 = .ok (.ireturn, 1) := by decide +kernel
theorem dX9_marry_0 : decode cX9_marry 0 = .ok (.aload_n 0, 1) := by decide +kernel
theorem dX9_marry_1 : decode cX9_marry 1 = .ok (.iload_n 1, 1) := by decide +kernel
theorem dX9_marry_2 : decode cX9_marry 2 = .ok (.iconst 3, 1) := by decide +kernel
theorem dX9_marry_3 : decode cX9_marry 3 = .ok (.invokevirtual 47, 3) := by decide +kernel
theorem dX9_marry_6 : decode cX9_marry 6 = .ok (.iconst (-1), 1) := by decide +kernel
theorem dX9_marry_7 : decode cX9_marry 7 = .ok (.if_icmp .ne 33, 3) := by decide +kernel
theorem dX9_marry_10 : decode cX9_marry 10 = .ok (.aload_n 0, 1) := by decide +kernel
theorem dX9_marry_11 : decode cX9_marry 11 = .ok (.iload_n 2, 1) := by decide +kernel
theorem dX9_marry_12 : decode cX9_marry 12 = .ok (.iconst 3, 1) := by decide +kernel
theorem dX9_marry_13 : decode cX9_marry 13 = .ok (.invokevirtual 47, 3) := by decide +kernel
theorem dX9_marry_16 : decode cX9_marry 16 = .ok (.iconst (-1), 1) := by decide +kernel
theorem dX9_marry_17 : decode cX9_marry 17 = .ok (.if_icmp .ne 23, 3) := by decide +kernel
theorem dX9_marry_20 : decode cX9_marry 20 = .ok (.aload_n 0, 1) := by decide +kernel
theorem dX9_marry_21 : decode cX9_marry 21 = .ok (.iload_n 1, 1) := by decide +kernel
theorem dX9_marry_22 : decode cX9_marry 22 = .ok (.iconst 0, 1) := by decide +kernel
theorem dX9_marry_23 : decode cX9_marry 23 = .ok (.invokevirtual 47, 3) := by decide +kernel
theorem dX9_marry_26 : decode cX9_marry 26 = .ok (.aload_n 0, 1) := by decide +kernel
theorem dX9_marry_27 : decode cX9_marry 27 = .ok (.iload_n 2, 1) := by decide +kernel
theorem dX9_marry_28 : decode cX9_marry 28 = .ok (.iconst 0, 1) := by decide +kernel
theorem dX9_marry_29 : decode cX9_marry 29 = .ok (.invokevirtual 47, 3) := by decide +kernel
theorem dX9_marry_32 : decode cX9_marry 32 = .ok (.invokestatic 77, 3) := by decide +kernel
theorem dX9_marry_35 : decode cX9_marry 35 = .ok (.bipush 6, 2) := by decide +kernel
theorem dX9_marry_37 : decode cX9_marry 37 = .ok (.if_icmp .le 5, 3) := by decide +kernel
theorem dX9_marry_40 : decode cX9_marry 40 = .ok (.iconst 0, 1) := by decide +kernel
theorem dX9_marry_41 : decode cX9_marry 41 = .ok (.ireturn, 1) := by decide +kernel
theorem dX9_marry_42 : decode cX9_marry 42 = .ok (.aload_n 0, 1) := by decide +kernel
theorem dX9_marry_43 : decode cX9_marry 43 = .ok (.iload_n 1, 1) := by decide +kernel
theorem dX9_marry_44 : decode cX9_marry 44 = .ok (.iconst 3, 1) := by decide +kernel
theorem dX9_marry_45 : decode cX9_marry 45 = .ok (.iload_n 2, 1) := by decide +kernel
theorem dX9_marry_46 : decode cX9_marry 46 = .ok (.invokevirtual 32, 3) := by decide +kernel
theorem dX9_marry_49 : decode cX9_marry 49 = .ok (.aload_n 0, 1) := by decide +kernel
theorem dX9_marry_50 : decode cX9_marry 50 = .ok (.iload_n 2, 1) := by decide +kernel
theorem dX9_marry_51 : decode cX9_marry 51 = .ok (.iconst 3, 1) := by decide +kernel
theorem dX9_marry_52 : decode cX9_marry 52 = .ok (.iload_n 1, 1) := by decide +kernel
theorem dX9_marry_53 : decode cX9_marry 53 = .ok (.invokevirtual 32, 3) := by decide +kernel
theorem dX9_marry_56 : decode cX9_marry 56 = .ok (.iconst 1, 1) := by decide +kernel
theorem dX9_marry_57 : decode cX9_marry 57 = .ok (.ireturn, 1) := by decide +kernel
theorem dX9_passYear_0 : decode cX9_passYear 0 = .ok (.aload_n 0, 1) := by decide +kernel
theorem dX9_passYear_1 : decode cX9_passYear 1 = .ok (.invokevirtual 80, 3) := by decide +kernel
theorem dX9_passYear_4 : decode cX9_passYear 4 = .ok (.iconst 3, 1) := by decide +kernel
theorem dX9_passYear_5 : decode cX9_passYear 5 = .ok (.irem, 1) := by decide +kernel
theorem dX9_passYear_6 : decode cX9_passYear 6 = .ok (.istore_n 3, 1) := by decide +kernel
theorem dX9_passYear_7 : decode cX9_passYear 7 = .ok (.iconst 0, 1) := by decide +kernel
theorem dX9_passYear_8 : decode cX9_passYear 8 = .ok (.istore 4, 2) := by decide +kernel
theorem dX9_passYear_10 : decode cX9_passYear 10 = .ok (.iload 4, 2) := by decide +kernel
theorem dX9_passYear_12 : decode cX9_passYear 12 = .ok (.iload_n 1, 1) := by decide +kernel
theorem dX9_passYear_13 : decode cX9_passYear 13 = .ok (.if_icmp .ge 61, 3) := by decide +kernel
theorem dX9_passYear_16 : decode cX9_passYear 16 = .ok (.aload_n 0, 1) := by decide +kernel
theorem dX9_passYear_17 : decode cX9_passYear 17 = .ok (.iload 4, 2) := by decide +kernel
theorem dX9_passYear_19 : decode cX9_passYear 19 = .ok (.iconst 2, 1) := by decide +kernel
theorem dX9_passYear_20 : decode cX9_passYear 20 = .ok (.invokevirtual 47, 3) := by decide +kernel
theorem dX9_passYear_23 : decode cX9_passYear 23 = .ok (.ifCond .ne 21, 3) := by decide +kernel
theorem dX9_passYear_26 : decode cX9_passYear 26 = .ok (.aload_n 0, 1) := by decide +kernel
theorem dX9_passYear_27 : decode cX9_passYear 27 = .ok (.iload 4, 2) := by decide +kernel
theorem dX9_passYear_29 : decode cX9_passYear 29 = .ok (.iconst 0, 1) := by decide +kernel
theorem dX9_passYear_30 : decode cX9_passYear 30 = .ok (.aload_n 0, 1) := by decide +kernel
theorem dX9_passYear_31 : decode cX9_passYear 31 = .ok (.iload 4, 2) := by decide +kernel
theorem dX9_passYear_33 : decode cX9_passYear 33 = .ok (.iconst 0, 1) := by decide +kernel
theorem dX9_passYear_34 : decode cX9_passYear 34 = .ok (.invokevirtual 47, 3) := by decide +kernel
theorem dX9_passYear_37 : decode cX9_passYear 37 = .ok (.iload_n 3, 1) := by decide +kernel
theorem dX9_passYear_38 : decode cX9_passYear 38 = .ok (.invokestatic 65, 3) := by decide +kernel
theorem dX9_passYear_41 : decode cX9_passYear 41 = .ok (.invokevirtual 32, 3) := by decide +kernel
theorem dX9_passYear_44 : decode cX9_passYear 44 = .ok (.aload_n 0, 1) := by decide +kernel
theorem dX9_passYear_45 : decode cX9_passYear 45 = .ok (.iload 4, 2) := by decide +kernel
theorem dX9_passYear_47 : decode cX9_passYear 47 = .ok (.iconst 2, 1) := by decide +kernel
theorem dX9_passYear_48 : decode cX9_passYear 48 = .ok (.iconst 0, 1) := by decide +kernel
theorem dX9_passYear_49 : decode cX9_passYear 49 = .ok (.invokevirtual 32, 3) := by decide +kernel
theorem dX9_passYear_52 : decode cX9_passYear 52 = .ok (.aload_n 0, 1) := by decide +kernel
theorem dX9_passYear_53 : decode cX9_passYear 53 = .ok (.iload 4, 2) := by decide +kernel
theorem dX9_passYear_55 : decode cX9_passYear 55 = .ok (.iconst 1, 1) := by decide +kernel
theorem dX9_passYear_56 : decode cX9_passYear 56 = .ok (.aload_n 0, 1) := by decide +kernel
theorem dX9_passYear_57 : decode cX9_passYear 57 = .ok (.iload 4, 2) := by decide +kernel
theorem dX9_passYear_59 : decode cX9_passYear 59 = .ok (.iconst 1, 1) := by decide +kernel
theorem dX9_passYear_60 : decode cX9_passYear 60 = .ok (.invokevirtual 47, 3) := by decide +kernel
theorem dX9_passYear_63 : decode cX9_passYear 63 = .ok (.iconst 1, 1) := by decide +kernel
theorem dX9_passYear_64 : decode cX9_passYear 64 = .ok (.iadd, 1) := by decide +kernel
theorem dX9_passYear_65 : decode cX9_passYear 65 = .ok (.invokevirtual 32, 3) := by decide +kernel
theorem dX9_passYear_68 : decode cX9_passYear 68 = .ok (.iinc 4 1, 3) := by decide +kernel
theorem dX9_passYear_71 : decode cX9_passYear 71 = .ok (.goto (-61), 3) := by decide +kernel
theorem dX9_passYear_74 : decode cX9_passYear 74 = .ok (.iconst 0, 1) := by decide +kernel
theorem dX9_passYear_75 : decode cX9_passYear 75 = .ok (.istore 4, 2) := by decide +kernel
theorem dX9_passYear_77 : decode cX9_passYear 77 = .ok (.iload 4, 2) := by decide +kernel
theorem dX9_passYear_79 : decode cX9_passYear 79 = .ok (.iconst 3, 1) := by decide +kernel
theorem dX9_passYear_80 : decode cX9_passYear 80 = .ok (.if_icmp .ge 35, 3) := by decide +kernel
theorem dX9_passYear_83 : decode cX9_passYear 83 = .ok (.aload_n 0, 1) := by decide +kernel
theorem dX9_passYear_84 : decode cX9_passYear 84 = .ok (.getfield 9, 3) := by decide +kernel
theorem dX9_passYear_87 : decode cX9_passYear 87 = .ok (.bipush 40, 2) := by decide +kernel
theorem dX9_passYear_89 : decode cX9_passYear 89 = .ok (.iload 4, 2) := by decide +kernel
theorem dX9_passYear_91 : decode cX9_passYear 91 = .ok (.iadd, 1) := by decide +kernel
theorem dX9_passYear_92 : decode cX9_passYear 92 = .ok (.sipush 200, 3) := by decide +kernel
theorem dX9_passYear_95 : decode cX9_passYear 95 = .ok (.aload_n 0, 1) := by decide +kernel
theorem dX9_passYear_96 : decode cX9_passYear 96 = .ok (.iload 4, 2) := by decide +kernel
theorem dX9_passYear_98 : decode cX9_passYear 98 = .ok (.invokevirtual 58, 3) := by decide +kernel
theorem dX9_passYear_101 : decode cX9_passYear 101 = .ok (.iload_n 2, 1) := by decide +kernel
theorem dX9_passYear_102 : decode cX9_passYear 102 = .ok (.iadd, 1) := by decide +kernel
theorem dX9_passYear_103 : decode cX9_passYear 103 = .ok (.invokestatic 84, 3) := by decide +kernel
theorem dX9_passYear_106 : decode cX9_passYear 106 = .ok (.invokestatic 43, 3) := by decide +kernel
theorem dX9_passYear_109 : decode cX9_passYear 109 = .ok (.iinc 4 1, 3) := by decide +kernel
theorem dX9_passYear_112 : decode cX9_passYear 112 = .ok (.goto (-35), 3) := by decide +kernel
theorem dX9_passYear_115 : decode cX9_passYear 115 = .ok (.aload_n 0, 1) := by decide +kernel
theorem dX9_passYear_116 : decode cX9_passYear 116 = .ok (.getfield 9, 3) := by decide +kernel
theorem dX9_passYear_119 : decode cX9_passYear 119 = .ok (.bipush 43, 2) := by decide +kernel
theorem dX9_passYear_121 : decode cX9_passYear 121 = .ok (.aload_n 0, 1) := by decide +kernel
theorem dX9_passYear_122 : decode cX9_passYear 122 = .ok (.invokevirtual 80, 3) := by decide +kernel
theorem dX9_passYear_125 : decode cX9_passYear 125 = .ok (.iconst 1, 1) := by decide +kernel
theorem dX9_passYear_126 : decode cX9_passYear 126 = .ok (.iadd, 1) := by decide +kernel
theorem dX9_passYear_127 : decode cX9_passYear 127 = .ok (.invokestatic 43, 3) := by decide +kernel
theorem dX9_passYear_130 : decode cX9_passYear 130 = .ok (.return_, 1) := by decide +kernel
theorem dX9_unsalted_0 : decode cX9_unsalted 0 = .ok (.iconst 0, 1) := by decide +kernel
theorem dX9_unsalted_1 : decode cX9_unsalted 1 = .ok (.istore_n 2, 1) := by decide +kernel
theorem dX9_unsalted_2 : decode cX9_unsalted 2 = .ok (.iconst 0, 1) := by decide +kernel
theorem dX9_unsalted_3 : decode cX9_unsalted 3 = .ok (.istore_n 3, 1) := by decide +kernel
theorem dX9_unsalted_4 : decode cX9_unsalted 4 = .ok (.iload_n 3, 1) := by decide +kernel
theorem dX9_unsalted_5 : decode cX9_unsalted 5 = .ok (.iload_n 1, 1) := by decide +kernel
theorem dX9_unsalted_6 : decode cX9_unsalted 6 = .ok (.if_icmp .ge 21, 3) := by decide +kernel
theorem dX9_unsalted_9 : decode cX9_unsalted 9 = .ok (.aload_n 0, 1) := by decide +kernel
theorem dX9_unsalted_10 : decode cX9_unsalted 10 = .ok (.iload_n 3, 1) := by decide +kernel
theorem dX9_unsalted_11 : decode cX9_unsalted 11 = .ok (.iconst 2, 1) := by decide +kernel
theorem dX9_unsalted_12 : decode cX9_unsalted 12 = .ok (.invokevirtual 47, 3) := by decide +kernel
theorem dX9_unsalted_15 : decode cX9_unsalted 15 = .ok (.ifCond .ne 6, 3) := by decide +kernel
theorem dX9_unsalted_18 : decode cX9_unsalted 18 = .ok (.iinc 2 1, 3) := by decide +kernel
theorem dX9_unsalted_21 : decode cX9_unsalted 21 = .ok (.iinc 3 1, 3) := by decide +kernel
theorem dX9_unsalted_24 : decode cX9_unsalted 24 = .ok (.goto (-20), 3) := by decide +kernel
theorem dX9_unsalted_27 : decode cX9_unsalted 27 = .ok (.iload_n 2, 1) := by decide +kernel
theorem dX9_unsalted_28 : decode cX9_unsalted 28 = .ok (.ireturn, 1) := by decide +kernel
theorem dX9_married_0 : decode cX9_married 0 = .ok (.iconst 0, 1) := by decide +kernel
theorem dX9_married_1 : decode cX9_married 1 = .ok (.istore_n 2, 1) := by decide +kernel
theorem dX9_married_2 : decode cX9_married 2 = .ok (.iconst 0, 1) := by decide +kernel
theorem dX9_married_3 : decode cX9_married 3 = .ok (.istore_n 3, 1) := by decide +kernel
theorem dX9_married_4 : decode cX9_married 4 = .ok (.iload_n 3, 1) := by decide +kernel
theorem dX9_married_5 : decode cX9_married 5 = .ok (.iload_n 1, 1) := by decide +kernel
theorem dX9_married_6 : decode cX9_married 6 = .ok (.if_icmp .ge 22, 3) := by decide +kernel
theorem dX9_married_9 : decode cX9_married 9 = .ok (.aload_n 0, 1) := by decide +kernel
theorem dX9_married_10 : decode cX9_married 10 = .ok (.iload_n 3, 1) := by decide +kernel
theorem dX9_married_11 : decode cX9_married 11 = .ok (.iconst 3, 1) := by decide +kernel
theorem dX9_married_12 : decode cX9_married 12 = .ok (.invokevirtual 47, 3) := by decide +kernel
theorem dX9_married_15 : decode cX9_married 15 = .ok (.iconst (-1), 1) := by decide +kernel
theorem dX9_married_16 : decode cX9_married 16 = .ok (.if_icmp .eq 6, 3) := by decide +kernel
theorem dX9_married_19 : decode cX9_married 19 = .ok (.iinc 2 1, 3) := by decide +kernel
theorem dX9_married_22 : decode cX9_married 22 = .ok (.iinc 3 1, 3) := by decide +kernel
theorem dX9_married_25 : decode cX9_married 25 = .ok (.goto (-21), 3) := by decide +kernel
theorem dX9_married_28 : decode cX9_married 28 = .ok (.iload_n 2, 1) := by decide +kernel
theorem dX9_married_29 : decode cX9_married 29 = .ok (.ireturn, 1) := by decide +kernel
theorem dX9_allDyes_0 : decode cX9_allDyes 0 = .ok (.iconst 0, 1) := by decide +kernel
theorem dX9_allDyes_1 : decode cX9_allDyes 1 = .ok (.istore_n 2, 1) := by decide +kernel
theorem dX9_allDyes_2 : decode cX9_allDyes 2 = .ok (.iconst 0, 1) := by decide +kernel
theorem dX9_allDyes_3 : decode cX9_allDyes 3 = .ok (.istore_n 3, 1) := by decide +kernel
theorem dX9_allDyes_4 : decode cX9_allDyes 4 = .ok (.iload_n 3, 1) := by decide +kernel
theorem dX9_allDyes_5 : decode cX9_allDyes 5 = .ok (.iload_n 1, 1) := by decide +kernel
theorem dX9_allDyes_6 : decode cX9_allDyes 6 = .ok (.if_icmp .ge 21, 3) := by decide +kernel
theorem dX9_allDyes_9 : decode cX9_allDyes 9 = .ok (.iload_n 2, 1) := by decide +kernel
theorem dX9_allDyes_10 : decode cX9_allDyes 10 = .ok (.aload_n 0, 1) := by decide +kernel
theorem dX9_allDyes_11 : decode cX9_allDyes 11 = .ok (.iload_n 3, 1) := by decide +kernel
theorem dX9_allDyes_12 : decode cX9_allDyes 12 = .ok (.iconst 0, 1) := by decide +kernel
theorem dX9_allDyes_13 : decode cX9_allDyes 13 = .ok (.invokevirtual 47, 3) := by decide +kernel
theorem dX9_allDyes_16 : decode cX9_allDyes 16 = .ok (.invokestatic 89, 3) := by decide +kernel
theorem dX9_allDyes_19 : decode cX9_allDyes 19 = .ok (.iadd, 1) := by decide +kernel
theorem dX9_allDyes_20 : decode cX9_allDyes 20 = .ok (.istore_n 2, 1) := by decide +kernel
theorem dX9_allDyes_21 : decode cX9_allDyes 21 = .ok (.iinc 3 1, 3) := by decide +kernel
theorem dX9_allDyes_24 : decode cX9_allDyes 24 = .ok (.goto (-20), 3) := by decide +kernel
theorem dX9_allDyes_27 : decode cX9_allDyes 27 = .ok (.iload_n 2, 1) := by decide +kernel
theorem dX9_allDyes_28 : decode cX9_allDyes 28 = .ok (.ireturn, 1) := by decide +kernel
theorem dX9_unlikeShades_0 : decode cX9_unlikeShades 0 = .ok (.iconst 0, 1) := by decide +kernel
theorem dX9_unlikeShades_1 : decode cX9_unlikeShades 1 = .ok (.istore_n 2, 1) := by decide +kernel
theorem dX9_unlikeShades_2 : decode cX9_unlikeShades 2 = .ok (.iconst 0, 1) := by decide +kernel
theorem dX9_unlikeShades_3 : decode cX9_unlikeShades 3 = .ok (.istore_n 3, 1) := by decide +kernel
theorem dX9_unlikeShades_4 : decode cX9_unlikeShades 4 = .ok (.iload_n 3, 1) := by decide +kernel
theorem dX9_unlikeShades_5 : decode cX9_unlikeShades 5 = .ok (.iload_n 1, 1) := by decide +kernel
theorem dX9_unlikeShades_6 : decode cX9_unlikeShades 6 = .ok (.if_icmp .ge 54, 3) := by decide +kernel
theorem dX9_unlikeShades_9 : decode cX9_unlikeShades 9 = .ok (.iconst 1, 1) := by decide +kernel
theorem dX9_unlikeShades_10 : decode cX9_unlikeShades 10 = .ok (.istore 4, 2) := by decide +kernel
theorem dX9_unlikeShades_12 : decode cX9_unlikeShades 12 = .ok (.iconst 0, 1) := by decide +kernel
theorem dX9_unlikeShades_13 : decode cX9_unlikeShades 13 = .ok (.istore 5, 2) := by decide +kernel
theorem dX9_unlikeShades_15 : decode cX9_unlikeShades 15 = .ok (.iload 5, 2) := by decide +kernel
theorem dX9_unlikeShades_17 : decode cX9_unlikeShades 17 = .ok (.iload_n 3, 1) := by decide +kernel
theorem dX9_unlikeShades_18 : decode cX9_unlikeShades 18 = .ok (.if_icmp .ge 28, 3) := by decide +kernel
theorem dX9_unlikeShades_21 : decode cX9_unlikeShades 21 = .ok (.aload_n 0, 1) := by decide +kernel
theorem dX9_unlikeShades_22 : decode cX9_unlikeShades 22 = .ok (.iload 5, 2) := by decide +kernel
theorem dX9_unlikeShades_24 : decode cX9_unlikeShades 24 = .ok (.iconst 0, 1) := by decide +kernel
theorem dX9_unlikeShades_25 : decode cX9_unlikeShades 25 = .ok (.invokevirtual 47, 3) := by decide +kernel
theorem dX9_unlikeShades_28 : decode cX9_unlikeShades 28 = .ok (.aload_n 0, 1) := by decide +kernel
theorem dX9_unlikeShades_29 : decode cX9_unlikeShades 29 = .ok (.iload_n 3, 1) := by decide +kernel
theorem dX9_unlikeShades_30 : decode cX9_unlikeShades 30 = .ok (.iconst 0, 1) := by decide +kernel
theorem dX9_unlikeShades_31 : decode cX9_unlikeShades 31 = .ok (.invokevirtual 47, 3) := by decide +kernel
theorem dX9_unlikeShades_34 : decode cX9_unlikeShades 34 = .ok (.if_icmp .ne 6, 3) := by decide +kernel
theorem dX9_unlikeShades_37 : decode cX9_unlikeShades 37 = .ok (.iconst 0, 1) := by decide +kernel
theorem dX9_unlikeShades_38 : decode cX9_unlikeShades 38 = .ok (.istore 4, 2) := by decide +kernel
theorem dX9_unlikeShades_40 : decode cX9_unlikeShades 40 = .ok (.iinc 5 1, 3) := by decide +kernel
theorem dX9_unlikeShades_43 : decode cX9_unlikeShades 43 = .ok (.goto (-28), 3) := by decide +kernel
theorem dX9_unlikeShades_46 : decode cX9_unlikeShades 46 = .ok (.iload 4, 2) := by decide +kernel
theorem dX9_unlikeShades_48 : decode cX9_unlikeShades 48 = .ok (.ifCond .eq 6, 3) := by decide +kernel
theorem dX9_unlikeShades_51 : decode cX9_unlikeShades 51 = .ok (.iinc 2 1, 3) := by decide +kernel
theorem dX9_unlikeShades_54 : decode cX9_unlikeShades 54 = .ok (.iinc 3 1, 3) := by decide +kernel
theorem dX9_unlikeShades_57 : decode cX9_unlikeShades 57 = .ok (.goto (-53), 3) := by decide +kernel
theorem dX9_unlikeShades_60 : decode cX9_unlikeShades 60 = .ok (.iload_n 2, 1) := by decide +kernel
theorem dX9_unlikeShades_61 : decode cX9_unlikeShades 61 = .ok (.ireturn, 1) := by decide +kernel
theorem dX10_init_0 : decode cX10_init 0 = .ok (.aload_n 0, 1) := by decide +kernel
theorem dX10_init_1 : decode cX10_init 1 = .ok (.invokespecial 3, 3) := by decide +kernel
theorem dX10_init_4 : decode cX10_init 4 = .ok (.aload_n 0, 1) := by decide +kernel
theorem dX10_init_5 : decode cX10_init 5 = .ok (.new 9, 3) := by decide +kernel
theorem dX10_init_8 : decode cX10_init 8 = .ok (.dup, 1) := by decide +kernel
theorem dX10_init_9 : decode cX10_init 9 = .ok (.invokespecial 11, 3) := by decide +kernel
theorem dX10_init_12 : decode cX10_init 12 = .ok (.putfield 12, 3) := by decide +kernel
theorem dX10_init_15 : decode cX10_init 15 = .ok (.aload_n 0, 1) := by decide +kernel
theorem dX10_init_16 : decode cX10_init 16 = .ok (.new 16, 3) := by decide +kernel
theorem dX10_init_19 : decode cX10_init 19 = .ok (.dup, 1) := by decide +kernel
theorem dX10_init_20 : decode cX10_init 20 = .ok (.invokespecial 18, 3) := by decide +kernel
theorem dX10_init_23 : decode cX10_init 23 = .ok (.putfield 19, 3) := by decide +kernel
theorem dX10_init_26 : decode cX10_init 26 = .ok (.aload_n 0, 1) := by decide +kernel
theorem dX10_init_27 : decode cX10_init 27 = .ok (.new 16, 3) := by decide +kernel
theorem dX10_init_30 : decode cX10_init 30 = .ok (.dup, 1) := by decide +kernel
theorem dX10_init_31 : decode cX10_init 31 = .ok (.invokespecial 18, 3) := by decide +kernel
theorem dX10_init_34 : decode cX10_init 34 = .ok (.putfield 23, 3) := by decide +kernel
theorem dX10_init_37 : decode cX10_init 37 = .ok (.aload_n 0, 1) := by decide +kernel
theorem dX10_init_38 : decode cX10_init 38 = .ok (.new 26, 3) := by decide +kernel
theorem dX10_init_41 : decode cX10_init 41 = .ok (.dup, 1) := by decide +kernel
theorem dX10_init_42 : decode cX10_init 42 = .ok (.invokespecial 28, 3) := by decide +kernel
theorem dX10_init_45 : decode cX10_init 45 = .ok (.putfield 29, 3) := by decide +kernel
theorem dX10_init_48 : decode cX10_init 48 = .ok (.aload_n 0, 1) := by decide +kernel
theorem dX10_init_49 : decode cX10_init 49 = .ok (.new 33, 3) := by decide +kernel
theorem dX10_init_52 : decode cX10_init 52 = .ok (.dup, 1) := by decide +kernel
theorem dX10_init_53 : decode cX10_init 53 = .ok (.invokespecial 35, 3) := by decide +kernel
theorem dX10_init_56 : decode cX10_init 56 = .ok (.putfield 36, 3) := by decide +kernel
theorem dX10_init_59 : decode cX10_init 59 = .ok (.aload_n 0, 1) := by decide +kernel
theorem dX10_init_60 : decode cX10_init 60 = .ok (.new 40, 3) := by decide +kernel
theorem dX10_init_63 : decode cX10_init 63 = .ok (.dup, 1) := by decide +kernel
theorem dX10_init_64 : decode cX10_init 64 = .ok (.invokespecial 42, 3) := by decide +kernel
theorem dX10_init_67 : decode cX10_init 67 = .ok (.putfield 43, 3) := by decide +kernel
theorem dX10_init_70 : decode cX10_init 70 = .ok (.aload_n 0, 1) := by decide +kernel
theorem dX10_init_71 : decode cX10_init 71 = .ok (.new 47, 3) := by decide +kernel
theorem dX10_init_74 : decode cX10_init 74 = .ok (.dup, 1) := by decide +kernel
theorem dX10_init_75 : decode cX10_init 75 = .ok (.invokespecial 49, 3) := by decide +kernel
theorem dX10_init_78 : decode cX10_init 78 = .ok (.putfield 50, 3) := by decide +kernel
theorem dX10_init_81 : decode cX10_init 81 = .ok (.aload_n 0, 1) := by decide +kernel
theorem dX10_init_82 : decode cX10_init 82 = .ok (.new 54, 3) := by decide +kernel
theorem dX10_init_85 : decode cX10_init 85 = .ok (.dup, 1) := by decide +kernel
theorem dX10_init_86 : decode cX10_init 86 = .ok (.invokespecial 56, 3) := by decide +kernel
theorem dX10_init_89 : decode cX10_init 89 = .ok (.putfield 57, 3) := by decide +kernel
theorem dX10_init_92 : decode cX10_init 92 = .ok (.aload_n 0, 1) := by decide +kernel
theorem dX10_init_93 : decode cX10_init 93 = .ok (.new 61, 3) := by decide +kernel
theorem dX10_init_96 : decode cX10_init 96 = .ok (.dup, 1) := by decide +kernel
theorem dX10_init_97 : decode cX10_init 97 = .ok (.invokespecial 63, 3) := by decide +kernel
theorem dX10_init_100 : decode cX10_init 100 = .ok (.putfield 64, 3) := by decide +kernel
theorem dX10_init_103 : decode cX10_init 103 = .ok (.aload_n 0, 1) := by decide +kernel
theorem dX10_init_104 : decode cX10_init 104 = .ok (.new 68, 3) := by decide +kernel
theorem dX10_init_107 : decode cX10_init 107 = .ok (.dup, 1) := by decide +kernel
theorem dX10_init_108 : decode cX10_init 108 = .ok (.invokespecial 70, 3) := by decide +kernel
theorem dX10_init_111 : decode cX10_init 111 = .ok (.putfield 71, 3) := by decide +kernel
theorem dX10_init_114 : decode cX10_init 114 = .ok (.aload_n 0, 1) := by decide +kernel
theorem dX10_init_115 : decode cX10_init 115 = .ok (.bipush 36, 2) := by decide +kernel
theorem dX10_init_117 : decode cX10_init 117 = .ok (.newarray .int, 2) := by decide +kernel
theorem dX10_init_119 : decode cX10_init 119 = .ok (.putfield 75, 3) := by decide +kernel
theorem dX10_init_122 : decode cX10_init 122 = .ok (.aload_n 0, 1) := by decide +kernel
theorem dX10_init_123 : decode cX10_init 123 = .ok (.new 79, 3) := by decide +kernel
theorem dX10_init_126 : decode cX10_init 126 = .ok (.dup, 1) := by decide +kernel
theorem dX10_init_127 : decode cX10_init 127 = .ok (.invokespecial 81, 3) := by decide +kernel
theorem dX10_init_130 : decode cX10_init 130 = .ok (.putfield 82, 3) := by decide +kernel
theorem dX10_init_133 : decode cX10_init 133 = .ok (.return_, 1) := by decide +kernel
theorem dX10_feed_0 : decode cX10_feed 0 = .ok (.aload_n 0, 1) := by decide +kernel
theorem dX10_feed_1 : decode cX10_feed 1 = .ok (.getfield 12, 3) := by decide +kernel
theorem dX10_feed_4 : decode cX10_feed 4 = .ok (.invokevirtual 86, 3) := by decide +kernel
theorem dX10_feed_7 : decode cX10_feed 7 = .ok (.ifCond .ne 5, 3) := by decide +kernel
theorem dX10_feed_10 : decode cX10_feed 10 = .ok (.iconst (-1), 1) := by decide +kernel
theorem dX10_feed_11 : decode cX10_feed 11 = .ok (.ireturn, 1) := by decide +kernel
theorem dX10_feed_12 : decode cX10_feed 12 = .ok (.aload_n 0, 1) := by decide +kernel
theorem dX10_feed_13 : decode cX10_feed 13 = .ok (.getfield 12, 3) := by decide +kernel
theorem dX10_feed_16 : decode cX10_feed 16 = .ok (.iload_n 1, 1) := by decide +kernel
theorem dX10_feed_17 : decode cX10_feed 17 = .ok (.invokevirtual 90, 3) := by decide +kernel
theorem dX10_feed_20 : decode cX10_feed 20 = .ok (.aload_n 0, 1) := by decide +kernel
theorem dX10_feed_21 : decode cX10_feed 21 = .ok (.getfield 12, 3) := by decide +kernel
theorem dX10_feed_24 : decode cX10_feed 24 = .ok (.iload_n 2, 1) := by decide +kernel
theorem dX10_feed_25 : decode cX10_feed 25 = .ok (.invokevirtual 90, 3) := by decide +kernel
theorem dX10_feed_28 : decode cX10_feed 28 = .ok (.aload_n 0, 1) := by decide +kernel
theorem dX10_feed_29 : decode cX10_feed 29 = .ok (.getfield 12, 3) := by decide +kernel
theorem dX10_feed_32 : decode cX10_feed 32 = .ok (.iload_n 3, 1) := by decide +kernel
theorem dX10_feed_33 : decode cX10_feed 33 = .ok (.invokevirtual 90, 3) := by decide +kernel
theorem dX10_feed_36 : decode cX10_feed 36 = .ok (.aload_n 0, 1) := by decide +kernel
theorem dX10_feed_37 : decode cX10_feed 37 = .ok (.getfield 12, 3) := by decide +kernel
theorem dX10_feed_40 : decode cX10_feed 40 = .ok (.iload 4, 2) := by decide +kernel
theorem dX10_feed_42 : decode cX10_feed 42 = .ok (.invokevirtual 90, 3) := by decide +kernel
theorem dX10_feed_45 : decode cX10_feed 45 = .ok (.aload_n 0, 1) := by decide +kernel
theorem dX10_feed_46 : decode cX10_feed 46 = .ok (.getfield 12, 3) := by decide +kernel
theorem dX10_feed_49 : decode cX10_feed 49 = .ok (.iload 5, 2) := by decide +kernel
theorem dX10_feed_51 : decode cX10_feed 51 = .ok (.invokevirtual 90, 3) := by decide +kernel
theorem dX10_feed_54 : decode cX10_feed 54 = .ok (.aload_n 0, 1) := by decide +kernel
theorem dX10_feed_55 : decode cX10_feed 55 = .ok (.getfield 12, 3) := by decide +kernel
theorem dX10_feed_58 : decode cX10_feed 58 = .ok (.getfield 94, 3) := by decide +kernel
theorem dX10_feed_61 : decode cX10_feed 61 = .ok (.ireturn, 1) := by decide +kernel
theorem dX10_city_0 : decode cX10_city 0 = .ok (.aload_n 0, 1) := by decide +kernel
theorem dX10_city_1 : decode cX10_city 1 = .ok (.aload_n 0, 1) := by decide +kernel
theorem dX10_city_2 : decode cX10_city 2 = .ok (.getfield 12, 3) := by decide +kernel
theorem dX10_city_5 : decode cX10_city 5 = .ok (.iload_n 1, 1) := by decide +kernel
theorem dX10_city_6 : decode cX10_city 6 = .ok (.sipush 600, 3) := by decide +kernel
theorem dX10_city_9 : decode cX10_city 9 = .ok (.invokevirtual 98, 3) := by decide +kernel
theorem dX10_city_12 : decode cX10_city 12 = .ok (.invokevirtual 102, 3) := by decide +kernel
theorem dX10_city_15 : decode cX10_city 15 = .ok (.aload_n 0, 1) := by decide +kernel
theorem dX10_city_16 : decode cX10_city 16 = .ok (.getfield 12, 3) := by decide +kernel
theorem dX10_city_19 : decode cX10_city 19 = .ok (.iload_n 1, 1) := by decide +kernel
theorem dX10_city_20 : decode cX10_city 20 = .ok (.invokevirtual 106, 3) := by decide +kernel
theorem dX10_city_23 : decode cX10_city 23 = .ok (.new 79, 3) := by decide +kernel
theorem dX10_city_26 : decode cX10_city 26 = .ok (.dup, 1) := by decide +kernel
theorem dX10_city_27 : decode cX10_city 27 = .ok (.invokespecial 81, 3) := by decide +kernel
theorem dX10_city_30 : decode cX10_city 30 = .ok (.astore_n 2, 1) := by decide +kernel
theorem dX10_city_31 : decode cX10_city 31 = .ok (.aload_n 2, 1) := by decide +kernel
theorem dX10_city_32 : decode cX10_city 32 = .ok (.aload_n 0, 1) := by decide +kernel
theorem dX10_city_33 : decode cX10_city 33 = .ok (.getfield 12, 3) := by decide +kernel
theorem dX10_city_36 : decode cX10_city 36 = .ok (.invokevirtual 109, 3) := by decide +kernel
theorem dX10_city_39 : decode cX10_city 39 = .ok (.aload_n 0, 1) := by decide +kernel
theorem dX10_city_40 : decode cX10_city 40 = .ok (.getfield 12, 3) := by decide +kernel
theorem dX10_city_43 : decode cX10_city 43 = .ok (.invokevirtual 113, 3) := by decide +kernel
theorem dX10_city_46 : decode cX10_city 46 = .ok (.ifCond .eq 11, 3) := by decide +kernel
theorem dX10_city_49 : decode cX10_city 49 = .ok (.aload_n 0, 1) := by decide +kernel
theorem dX10_city_50 : decode cX10_city 50 = .ok (.getfield 12, 3) := by decide +kernel
theorem dX10_city_53 : decode cX10_city 53 = .ok (.invokevirtual 116, 3) := by decide +kernel
theorem dX10_city_56 : decode cX10_city 56 = .ok (.ireturn, 1) := by decide +kernel
theorem dX10_city_57 : decode cX10_city 57 = .ok (.aload_n 0, 1) := by decide +kernel
theorem dX10_city_58 : decode cX10_city 58 = .ok (.aload_n 2, 1) := by decide +kernel
theorem dX10_city_59 : decode cX10_city 59 = .ok (.putfield 82, 3) := by decide +kernel
theorem dX10_city_62 : decode cX10_city 62 = .ok (.aload_n 0, 1) := by decide +kernel
theorem dX10_city_63 : decode cX10_city 63 = .ok (.getfield 19, 3) := by decide +kernel
theorem dX10_city_66 : decode cX10_city 66 = .ok (.aload_n 2, 1) := by decide +kernel
theorem dX10_city_67 : decode cX10_city 67 = .ok (.invokevirtual 120, 3) := by decide +kernel
theorem dX10_city_70 : decode cX10_city 70 = .ok (.aload_n 0, 1) := by decide +kernel
theorem dX10_city_71 : decode cX10_city 71 = .ok (.getfield 29, 3) := by decide +kernel
theorem dX10_city_74 : decode cX10_city 74 = .ok (.invokevirtual 124, 3) := by decide +kernel
theorem dX10_city_77 : decode cX10_city 77 = .ok (.aload_n 0, 1) := by decide +kernel
theorem dX10_city_78 : decode cX10_city 78 = .ok (.getfield 36, 3) := by decide +kernel
theorem dX10_city_81 : decode cX10_city 81 = .ok (.invokevirtual 127, 3) := by decide +kernel
theorem dX10_city_84 : decode cX10_city 84 = .ok (.aload_n 0, 1) := by decide +kernel
theorem dX10_city_85 : decode cX10_city 85 = .ok (.getfield 50, 3) := by decide +kernel
theorem dX10_city_88 : decode cX10_city 88 = .ok (.invokevirtual 130, 3) := by decide +kernel
theorem dX10_city_91 : decode cX10_city 91 = .ok (.aload_n 0, 1) := by decide +kernel
theorem dX10_city_92 : decode cX10_city 92 = .ok (.iconst 0, 1) := by decide +kernel
theorem dX10_city_93 : decode cX10_city 93 = .ok (.putfield 131, 3) := by decide +kernel
theorem dX10_city_96 : decode cX10_city 96 = .ok (.aload_n 0, 1) := by decide +kernel
theorem dX10_city_97 : decode cX10_city 97 = .ok (.getfield 82, 3) := by decide +kernel
theorem dX10_city_100 : decode cX10_city 100 = .ok (.getfield 134, 3) := by decide +kernel
theorem dX10_city_103 : decode cX10_city 103 = .ok (.ireturn, 1) := by decide +kernel
theorem dX10_law_0 : decode cX10_law 0 = .ok (.aload_n 0, 1) := by decide +kernel
theorem dX10_law_1 : decode cX10_law 1 = .ok (.aload_n 0, 1) := by decide +kernel
theorem dX10_law_2 : decode cX10_law 2 = .ok (.getfield 12, 3) := by decide +kernel
theorem dX10_law_5 : decode cX10_law 5 = .ok (.iload_n 1, 1) := by decide +kernel
theorem dX10_law_6 : decode cX10_law 6 = .ok (.sipush 150, 3) := by decide +kernel
theorem dX10_law_9 : decode cX10_law 9 = .ok (.invokevirtual 98, 3) := by decide +kernel
theorem dX10_law_12 : decode cX10_law 12 = .ok (.invokevirtual 102, 3) := by decide +kernel
theorem dX10_law_15 : decode cX10_law 15 = .ok (.aload_n 0, 1) := by decide +kernel
theorem dX10_law_16 : decode cX10_law 16 = .ok (.getfield 12, 3) := by decide +kernel
theorem dX10_law_19 : decode cX10_law 19 = .ok (.iload_n 1, 1) := by decide +kernel
theorem dX10_law_20 : decode cX10_law 20 = .ok (.invokevirtual 106, 3) := by decide +kernel
theorem dX10_law_23 : decode cX10_law 23 = .ok (.aload_n 0, 1) := by decide +kernel
theorem dX10_law_24 : decode cX10_law 24 = .ok (.getfield 29, 3) := by decide +kernel
theorem dX10_law_27 : decode cX10_law 27 = .ok (.aload_n 0, 1) := by decide +kernel
theorem dX10_law_28 : decode cX10_law 28 = .ok (.getfield 12, 3) := by decide +kernel
theorem dX10_law_31 : decode cX10_law 31 = .ok (.invokevirtual 137, 3) := by decide +kernel
theorem dX10_law_34 : decode cX10_law 34 = .ok (.aload_n 0, 1) := by decide +kernel
theorem dX10_law_35 : decode cX10_law 35 = .ok (.getfield 12, 3) := by decide +kernel
theorem dX10_law_38 : decode cX10_law 38 = .ok (.invokevirtual 113, 3) := by decide +kernel
theorem dX10_law_41 : decode cX10_law 41 = .ok (.ifCond .eq 13, 3) := by decide +kernel
theorem dX10_law_44 : decode cX10_law 44 = .ok (.aload_n 0, 1) := by decide +kernel
theorem dX10_law_45 : decode cX10_law 45 = .ok (.getfield 12, 3) := by decide +kernel
theorem dX10_law_48 : decode cX10_law 48 = .ok (.invokevirtual 116, 3) := by decide +kernel
theorem dX10_law_51 : decode cX10_law 51 = .ok (.goto 4, 3) := by decide +kernel
theorem dX10_law_54 : decode cX10_law 54 = .ok (.iconst 1, 1) := by decide +kernel
theorem dX10_law_55 : decode cX10_law 55 = .ok (.ireturn, 1) := by decide +kernel
theorem dX10_work_0 : decode cX10_work 0 = .ok (.aload_n 0, 1) := by decide +kernel
theorem dX10_work_1 : decode cX10_work 1 = .ok (.aload_n 0, 1) := by decide +kernel
theorem dX10_work_2 : decode cX10_work 2 = .ok (.getfield 12, 3) := by decide +kernel
theorem dX10_work_5 : decode cX10_work 5 = .ok (.iload_n 1, 1) := by decide +kernel
theorem dX10_work_6 : decode cX10_work 6 = .ok (.sipush 150, 3) := by decide +kernel
theorem dX10_work_9 : decode cX10_work 9 = .ok (.invokevirtual 98, 3) := by decide +kernel
theorem dX10_work_12 : decode cX10_work 12 = .ok (.invokevirtual 102, 3) := by decide +kernel
theorem dX10_work_15 : decode cX10_work 15 = .ok (.aload_n 0, 1) := by decide +kernel
theorem dX10_work_16 : decode cX10_work 16 = .ok (.getfield 50, 3) := by decide +kernel
theorem dX10_work_19 : decode cX10_work 19 = .ok (.getfield 138, 3) := by decide +kernel
theorem dX10_work_22 : decode cX10_work 22 = .ok (.bipush 16, 2) := by decide +kernel
theorem dX10_work_24 : decode cX10_work 24 = .ok (.if_icmp .lt 14, 3) := by decide +kernel
theorem dX10_work_27 : decode cX10_work 27 = .ok (.aload_n 0, 1) := by decide +kernel
theorem dX10_work_28 : decode cX10_work 28 = .ok (.getfield 12, 3) := by decide +kernel
theorem dX10_work_31 : decode cX10_work 31 = .ok (.iconst 0, 1) := by decide +kernel
theorem dX10_work_32 : decode cX10_work 32 = .ok (.invokevirtual 106, 3) := by decide +kernel
theorem dX10_work_35 : decode cX10_work 35 = .ok (.bipush (-20), 2) := by decide +kernel
theorem dX10_work_37 : decode cX10_work 37 = .ok (.ireturn, 1) := by decide +kernel
theorem dX10_work_38 : decode cX10_work 38 = .ok (.aload_n 0, 1) := by decide +kernel
theorem dX10_work_39 : decode cX10_work 39 = .ok (.getfield 12, 3) := by decide +kernel
theorem dX10_work_42 : decode cX10_work 42 = .ok (.iload_n 1, 1) := by decide +kernel
theorem dX10_work_43 : decode cX10_work 43 = .ok (.invokevirtual 106, 3) := by decide +kernel
theorem dX10_work_46 : decode cX10_work 46 = .ok (.aload_n 0, 1) := by decide +kernel
theorem dX10_work_47 : decode cX10_work 47 = .ok (.getfield 43, 3) := by decide +kernel
theorem dX10_work_50 : decode cX10_work 50 = .ok (.aload_n 0, 1) := by decide +kernel
theorem dX10_work_51 : decode cX10_work 51 = .ok (.getfield 12, 3) := by decide +kernel
theorem dX10_work_54 : decode cX10_work 54 = .ok (.aload_n 0, 1) := by decide +kernel
theorem dX10_work_55 : decode cX10_work 55 = .ok (.getfield 82, 3) := by decide +kernel
theorem dX10_work_58 : decode cX10_work 58 = .ok (.invokevirtual 141, 3) := by decide +kernel
theorem dX10_work_61 : decode cX10_work 61 = .ok (.aload_n 0, 1) := by decide +kernel
theorem dX10_work_62 : decode cX10_work 62 = .ok (.getfield 12, 3) := by decide +kernel
theorem dX10_work_65 : decode cX10_work 65 = .ok (.invokevirtual 113, 3) := by decide +kernel
theorem dX10_work_68 : decode cX10_work 68 = .ok (.ifCond .eq 11, 3) := by decide +kernel
theorem dX10_work_71 : decode cX10_work 71 = .ok (.aload_n 0, 1) := by decide +kernel
theorem dX10_work_72 : decode cX10_work 72 = .ok (.getfield 12, 3) := by decide +kernel
theorem dX10_work_75 : decode cX10_work 75 = .ok (.invokevirtual 116, 3) := by decide +kernel
theorem dX10_work_78 : decode cX10_work 78 = .ok (.ireturn, 1) := by decide +kernel
theorem dX10_work_79 : decode cX10_work 79 = .ok (.aload_n 0, 1) := by decide +kernel
theorem dX10_work_80 : decode cX10_work 80 = .ok (.getfield 50, 3) := by decide +kernel
theorem dX10_work_83 : decode cX10_work 83 = .ok (.aload_n 0, 1) := by decide +kernel
theorem dX10_work_84 : decode cX10_work 84 = .ok (.getfield 19, 3) := by decide +kernel
theorem dX10_work_87 : decode cX10_work 87 = .ok (.invokevirtual 144, 3) := by decide +kernel
theorem dX10_work_90 : decode cX10_work 90 = .ok (.aload_n 0, 1) := by decide +kernel
theorem dX10_work_91 : decode cX10_work 91 = .ok (.getfield 43, 3) := by decide +kernel
theorem dX10_work_94 : decode cX10_work 94 = .ok (.aload_n 0, 1) := by decide +kernel
theorem dX10_work_95 : decode cX10_work 95 = .ok (.getfield 82, 3) := by decide +kernel
theorem dX10_work_98 : decode cX10_work 98 = .ok (.aload_n 0, 1) := by decide +kernel
theorem dX10_work_99 : decode cX10_work 99 = .ok (.getfield 19, 3) := by decide +kernel
theorem dX10_work_102 : decode cX10_work 102 = .ok (.invokevirtual 148, 3) := by decide +kernel
theorem dX10_work_105 : decode cX10_work 105 = .ok (.aload_n 0, 1) := by decide +kernel
theorem dX10_work_106 : decode cX10_work 106 = .ok (.aload_n 0, 1) := by decide +kernel
theorem dX10_work_107 : decode cX10_work 107 = .ok (.getfield 43, 3) := by decide +kernel
theorem dX10_work_110 : decode cX10_work 110 = .ok (.getfield 152, 3) := by decide +kernel
theorem dX10_work_113 : decode cX10_work 113 = .ok (.putfield 131, 3) := by decide +kernel
theorem dX10_work_116 : decode cX10_work 116 = .ok (.aload_n 0, 1) := by decide +kernel
theorem dX10_work_117 : decode cX10_work 117 = .ok (.getfield 43, 3) := by decide +kernel
theorem dX10_work_120 : decode cX10_work 120 = .ok (.getfield 155, 3) := by decide +kernel
theorem dX10_work_123 : decode cX10_work 123 = .ok (.ireturn, 1) := by decide +kernel
theorem dX10_book_0 : decode cX10_book 0 = .ok (.aload_n 0, 1) := by decide +kernel
theorem dX10_book_1 : decode cX10_book 1 = .ok (.aload_n 0, 1) := by decide +kernel
theorem dX10_book_2 : decode cX10_book 2 = .ok (.getfield 12, 3) := by decide +kernel
theorem dX10_book_5 : decode cX10_book 5 = .ok (.iload_n 1, 1) := by decide +kernel
theorem dX10_book_6 : decode cX10_book 6 = .ok (.bipush 60, 2) := by decide +kernel
theorem dX10_book_8 : decode cX10_book 8 = .ok (.invokevirtual 98, 3) := by decide +kernel
theorem dX10_book_11 : decode cX10_book 11 = .ok (.invokevirtual 102, 3) := by decide +kernel
theorem dX10_book_14 : decode cX10_book 14 = .ok (.aload_n 0, 1) := by decide +kernel
theorem dX10_book_15 : decode cX10_book 15 = .ok (.getfield 12, 3) := by decide +kernel
theorem dX10_book_18 : decode cX10_book 18 = .ok (.iload_n 1, 1) := by decide +kernel
theorem dX10_book_19 : decode cX10_book 19 = .ok (.invokevirtual 106, 3) := by decide +kernel
theorem dX10_book_22 : decode cX10_book 22 = .ok (.aload_n 0, 1) := by decide +kernel
theorem dX10_book_23 : decode cX10_book 23 = .ok (.getfield 36, 3) := by decide +kernel
theorem dX10_book_26 : decode cX10_book 26 = .ok (.aload_n 0, 1) := by decide +kernel
theorem dX10_book_27 : decode cX10_book 27 = .ok (.getfield 12, 3) := by decide +kernel
theorem dX10_book_30 : decode cX10_book 30 = .ok (.invokevirtual 158, 3) := by decide +kernel
theorem dX10_book_33 : decode cX10_book 33 = .ok (.aload_n 0, 1) := by decide +kernel
theorem dX10_book_34 : decode cX10_book 34 = .ok (.getfield 12, 3) := by decide +kernel
theorem dX10_book_37 : decode cX10_book 37 = .ok (.invokevirtual 113, 3) := by decide +kernel
theorem dX10_book_40 : decode cX10_book 40 = .ok (.ifCond .eq 13, 3) := by decide +kernel
theorem dX10_book_43 : decode cX10_book 43 = .ok (.aload_n 0, 1) := by decide +kernel
theorem dX10_book_44 : decode cX10_book 44 = .ok (.getfield 12, 3) := by decide +kernel
theorem dX10_book_47 : decode cX10_book 47 = .ok (.invokevirtual 116, 3) := by decide +kernel
theorem dX10_book_50 : decode cX10_book 50 = .ok (.goto 10, 3) := by decide +kernel
theorem dX10_book_53 : decode cX10_book 53 = .ok (.aload_n 0, 1) := by decide +kernel
theorem dX10_book_54 : decode cX10_book 54 = .ok (.getfield 36, 3) := by decide +kernel
theorem dX10_book_57 : decode cX10_book 57 = .ok (.getfield 159, 3) := by decide +kernel
theorem dX10_book_60 : decode cX10_book 60 = .ok (.ireturn, 1) := by decide +kernel
theorem dX10_fault_0 : decode cX10_fault 0 = .ok (.aload_n 0, 1) := by decide +kernel
theorem dX10_fault_1 : decode cX10_fault 1 = .ok (.getfield 12, 3) := by decide +kernel
theorem dX10_fault_4 : decode cX10_fault 4 = .ok (.getfield 162, 3) := by decide +kernel
theorem dX10_fault_7 : decode cX10_fault 7 = .ok (.ireturn, 1) := by decide +kernel
theorem dX10_undo_0 : decode cX10_undo 0 = .ok (.aload_n 0, 1) := by decide +kernel
theorem dX10_undo_1 : decode cX10_undo 1 = .ok (.getfield 50, 3) := by decide +kernel
theorem dX10_undo_4 : decode cX10_undo 4 = .ok (.getfield 138, 3) := by decide +kernel
theorem dX10_undo_7 : decode cX10_undo 7 = .ok (.ifCond .gt 5, 3) := by decide +kernel
theorem dX10_undo_10 : decode cX10_undo 10 = .ok (.iconst (-1), 1) := by decide +kernel
theorem dX10_undo_11 : decode cX10_undo 11 = .ok (.ireturn, 1) := by decide +kernel
theorem dX10_undo_12 : decode cX10_undo 12 = .ok (.aload_n 0, 1) := by decide +kernel
theorem dX10_undo_13 : decode cX10_undo 13 = .ok (.getfield 50, 3) := by decide +kernel
theorem dX10_undo_16 : decode cX10_undo 16 = .ok (.aload_n 0, 1) := by decide +kernel
theorem dX10_undo_17 : decode cX10_undo 17 = .ok (.getfield 19, 3) := by decide +kernel
theorem dX10_undo_20 : decode cX10_undo 20 = .ok (.invokevirtual 165, 3) := by decide +kernel
theorem dX10_undo_23 : decode cX10_undo 23 = .ok (.aload_n 0, 1) := by decide +kernel
theorem dX10_undo_24 : decode cX10_undo 24 = .ok (.iconst 0, 1) := by decide +kernel
theorem dX10_undo_25 : decode cX10_undo 25 = .ok (.putfield 131, 3) := by decide +kernel
theorem dX10_undo_28 : decode cX10_undo 28 = .ok (.aload_n 0, 1) := by decide +kernel
theorem dX10_undo_29 : decode cX10_undo 29 = .ok (.getfield 50, 3) := by decide +kernel
theorem dX10_undo_32 : decode cX10_undo 32 = .ok (.getfield 138, 3) := by decide +kernel
theorem dX10_undo_35 : decode cX10_undo 35 = .ok (.ireturn, 1) := by decide +kernel
theorem dX10_told_0 : decode cX10_told 0 = .ok (.aload_n 0, 1) := by decide +kernel
theorem dX10_told_1 : decode cX10_told 1 = .ok (.iload_n 1, 1) := by decide +kernel
theorem dX10_told_2 : decode cX10_told 2 = .ok (.ifCond .lt 13, 3) := by decide +kernel
theorem dX10_told_5 : decode cX10_told 5 = .ok (.iload_n 1, 1) := by decide +kernel
theorem dX10_told_6 : decode cX10_told 6 = .ok (.bipush 9, 2) := by decide +kernel
theorem dX10_told_8 : decode cX10_told 8 = .ok (.if_icmp .gt 7, 3) := by decide +kernel
theorem dX10_told_11 : decode cX10_told 11 = .ok (.iconst 1, 1) := by decide +kernel
theorem dX10_told_12 : decode cX10_told 12 = .ok (.goto 4, 3) := by decide +kernel
theorem dX10_told_15 : decode cX10_told 15 = .ok (.iconst 0, 1) := by decide +kernel
theorem dX10_told_16 : decode cX10_told 16 = .ok (.invokevirtual 102, 3) := by decide +kernel
theorem dX10_told_19 : decode cX10_told 19 = .ok (.iload_n 1, 1) := by decide +kernel
theorem dX10_told_20 : decode cX10_told 20 = .ok (.tableswitch 151 0 8 #[52, 60, 68, 76, 85, 100, 123, 131, 136], 52) := by decide +kernel
theorem dX10_told_72 : decode cX10_told 72 = .ok (.aload_n 0, 1) := by decide +kernel
theorem dX10_told_73 : decode cX10_told 73 = .ok (.getfield 82, 3) := by decide +kernel
theorem dX10_told_76 : decode cX10_told 76 = .ok (.getfield 168, 3) := by decide +kernel
theorem dX10_told_79 : decode cX10_told 79 = .ok (.ireturn, 1) := by decide +kernel
theorem dX10_told_80 : decode cX10_told 80 = .ok (.aload_n 0, 1) := by decide +kernel
theorem dX10_told_81 : decode cX10_told 81 = .ok (.getfield 82, 3) := by decide +kernel
theorem dX10_told_84 : decode cX10_told 84 = .ok (.getfield 134, 3) := by decide +kernel
theorem dX10_told_87 : decode cX10_told 87 = .ok (.ireturn, 1) := by decide +kernel
theorem dX10_told_88 : decode cX10_told 88 = .ok (.aload_n 0, 1) := by decide +kernel
theorem dX10_told_89 : decode cX10_told 89 = .ok (.getfield 19, 3) := by decide +kernel
theorem dX10_told_92 : decode cX10_told 92 = .ok (.invokevirtual 171, 3) := by decide +kernel
theorem dX10_told_95 : decode cX10_told 95 = .ok (.ireturn, 1) := by decide +kernel
theorem dX10_told_96 : decode cX10_told 96 = .ok (.aload_n 0, 1) := by decide +kernel
theorem dX10_told_97 : decode cX10_told 97 = .ok (.aload_n 0, 1) := by decide +kernel
theorem dX10_told_98 : decode cX10_told 98 = .ok (.getfield 19, 3) := by decide +kernel
theorem dX10_told_101 : decode cX10_told 101 = .ok (.invokevirtual 174, 3) := by decide +kernel
theorem dX10_told_104 : decode cX10_told 104 = .ok (.ireturn, 1) := by decide +kernel
theorem dX10_told_105 : decode cX10_told 105 = .ok (.aload_n 0, 1) := by decide +kernel
theorem dX10_told_106 : decode cX10_told 106 = .ok (.getfield 19, 3) := by decide +kernel
theorem dX10_told_109 : decode cX10_told 109 = .ok (.aload_n 0, 1) := by decide +kernel
theorem dX10_told_110 : decode cX10_told 110 = .ok (.getfield 82, 3) := by decide +kernel
theorem dX10_told_113 : decode cX10_told 113 = .ok (.getfield 134, 3) := by decide +kernel
theorem dX10_told_116 : decode cX10_told 116 = .ok (.invokevirtual 178, 3) := by decide +kernel
theorem dX10_told_119 : decode cX10_told 119 = .ok (.ireturn, 1) := by decide +kernel
theorem dX10_told_120 : decode cX10_told 120 = .ok (.aload_n 0, 1) := by decide +kernel
theorem dX10_told_121 : decode cX10_told 121 = .ok (.getfield 82, 3) := by decide +kernel
theorem dX10_told_124 : decode cX10_told 124 = .ok (.getfield 134, 3) := by decide +kernel
theorem dX10_told_127 : decode cX10_told 127 = .ok (.aload_n 0, 1) := by decide +kernel
theorem dX10_told_128 : decode cX10_told 128 = .ok (.getfield 19, 3) := by decide +kernel
theorem dX10_told_131 : decode cX10_told 131 = .ok (.aload_n 0, 1) := by decide +kernel
theorem dX10_told_132 : decode cX10_told 132 = .ok (.getfield 82, 3) := by decide +kernel
theorem dX10_told_135 : decode cX10_told 135 = .ok (.getfield 134, 3) := by decide +kernel
theorem dX10_told_138 : decode cX10_told 138 = .ok (.invokevirtual 182, 3) := by decide +kernel
theorem dX10_told_141 : decode cX10_told 141 = .ok (.isub, 1) := by decide +kernel
theorem dX10_told_142 : decode cX10_told 142 = .ok (.ireturn, 1) := by decide +kernel
theorem dX10_told_143 : decode cX10_told 143 = .ok (.aload_n 0, 1) := by decide +kernel
theorem dX10_told_144 : decode cX10_told 144 = .ok (.getfield 36, 3) := by decide +kernel
theorem dX10_told_147 : decode cX10_told 147 = .ok (.getfield 159, 3) := by decide +kernel
theorem dX10_told_150 : decode cX10_told 150 = .ok (.ireturn, 1) := by decide +kernel
theorem dX10_told_151 : decode cX10_told 151 = .ok (.aload_n 0, 1) := by decide +kernel
theorem dX10_told_152 : decode cX10_told 152 = .ok (.getfield 131, 3) := by decide +kernel
theorem dX10_told_155 : decode cX10_told 155 = .ok (.ireturn, 1) := by decide +kernel
theorem dX10_told_156 : decode cX10_told 156 = .ok (.aload_n 0, 1) := by decide +kernel
theorem dX10_told_157 : decode cX10_told 157 = .ok (.getfield 19, 3) := by decide +kernel
theorem dX10_told_160 : decode cX10_told 160 = .ok (.aload_n 0, 1) := by decide +kernel
theorem dX10_told_161 : decode cX10_told 161 = .ok (.getfield 82, 3) := by decide +kernel
theorem dX10_told_164 : decode cX10_told 164 = .ok (.getfield 134, 3) := by decide +kernel
theorem dX10_told_167 : decode cX10_told 167 = .ok (.invokevirtual 185, 3) := by decide +kernel
theorem dX10_told_170 : decode cX10_told 170 = .ok (.ireturn, 1) := by decide +kernel
theorem dX10_told_171 : decode cX10_told 171 = .ok (.aload_n 0, 1) := by decide +kernel
theorem dX10_told_172 : decode cX10_told 172 = .ok (.getfield 82, 3) := by decide +kernel
theorem dX10_told_175 : decode cX10_told 175 = .ok (.getfield 188, 3) := by decide +kernel
theorem dX10_told_178 : decode cX10_told 178 = .ok (.ireturn, 1) := by decide +kernel
theorem dX10_street_0 : decode cX10_street 0 = .ok (.aload_n 0, 1) := by decide +kernel
theorem dX10_street_1 : decode cX10_street 1 = .ok (.aload_n 0, 1) := by decide +kernel
theorem dX10_street_2 : decode cX10_street 2 = .ok (.getfield 82, 3) := by decide +kernel
theorem dX10_street_5 : decode cX10_street 5 = .ok (.iload_n 1, 1) := by decide +kernel
theorem dX10_street_6 : decode cX10_street 6 = .ok (.invokevirtual 191, 3) := by decide +kernel
theorem dX10_street_9 : decode cX10_street 9 = .ok (.invokevirtual 195, 3) := by decide +kernel
theorem dX10_street_12 : decode cX10_street 12 = .ok (.aload_n 0, 1) := by decide +kernel
theorem dX10_street_13 : decode cX10_street 13 = .ok (.iload_n 2, 1) := by decide +kernel
theorem dX10_street_14 : decode cX10_street 14 = .ok (.ifCond .lt 12, 3) := by decide +kernel
theorem dX10_street_17 : decode cX10_street 17 = .ok (.iload_n 2, 1) := by decide +kernel
theorem dX10_street_18 : decode cX10_street 18 = .ok (.iconst 3, 1) := by decide +kernel
theorem dX10_street_19 : decode cX10_street 19 = .ok (.if_icmp .gt 7, 3) := by decide +kernel
theorem dX10_street_22 : decode cX10_street 22 = .ok (.iconst 1, 1) := by decide +kernel
theorem dX10_street_23 : decode cX10_street 23 = .ok (.goto 4, 3) := by decide +kernel
theorem dX10_street_26 : decode cX10_street 26 = .ok (.iconst 0, 1) := by decide +kernel
theorem dX10_street_27 : decode cX10_street 27 = .ok (.invokevirtual 102, 3) := by decide +kernel
theorem dX10_street_30 : decode cX10_street 30 = .ok (.iload_n 2, 1) := by decide +kernel
theorem dX10_street_31 : decode cX10_street 31 = .ok (.tableswitch 49 0 2 #[25, 34, 43], 25) := by decide +kernel
theorem dX10_street_56 : decode cX10_street 56 = .ok (.aload_n 0, 1) := by decide +kernel
theorem dX10_street_57 : decode cX10_street 57 = .ok (.getfield 82, 3) := by decide +kernel
theorem dX10_street_60 : decode cX10_street 60 = .ok (.iload_n 1, 1) := by decide +kernel
theorem dX10_street_61 : decode cX10_street 61 = .ok (.invokevirtual 198, 3) := by decide +kernel
theorem dX10_street_64 : decode cX10_street 64 = .ok (.ireturn, 1) := by decide +kernel
theorem dX10_street_65 : decode cX10_street 65 = .ok (.aload_n 0, 1) := by decide +kernel
theorem dX10_street_66 : decode cX10_street 66 = .ok (.getfield 82, 3) := by decide +kernel
theorem dX10_street_69 : decode cX10_street 69 = .ok (.iload_n 1, 1) := by decide +kernel
theorem dX10_street_70 : decode cX10_street 70 = .ok (.invokevirtual 201, 3) := by decide +kernel
theorem dX10_street_73 : decode cX10_street 73 = .ok (.ireturn, 1) := by decide +kernel
theorem dX10_street_74 : decode cX10_street 74 = .ok (.aload_n 0, 1) := by decide +kernel
theorem dX10_street_75 : decode cX10_street 75 = .ok (.iload_n 1, 1) := by decide +kernel
theorem dX10_street_76 : decode cX10_street 76 = .ok (.invokevirtual 204, 3) := by decide +kernel
theorem dX10_street_79 : decode cX10_street 79 = .ok (.ireturn, 1) := by decide +kernel
theorem dX10_street_80 : decode cX10_street 80 = .ok (.aload_n 0, 1) := by decide +kernel
theorem dX10_street_81 : decode cX10_street 81 = .ok (.getfield 82, 3) := by decide +kernel
theorem dX10_street_84 : decode cX10_street 84 = .ok (.iload_n 1, 1) := by decide +kernel
theorem dX10_street_85 : decode cX10_street 85 = .ok (.invokevirtual 207, 3) := by decide +kernel
theorem dX10_street_88 : decode cX10_street 88 = .ok (.ireturn, 1) := by decide +kernel
theorem dX10_person_0 : decode cX10_person 0 = .ok (.aload_n 0, 1) := by decide +kernel
theorem dX10_person_1 : decode cX10_person 1 = .ok (.aload_n 0, 1) := by decide +kernel
theorem dX10_person_2 : decode cX10_person 2 = .ok (.getfield 82, 3) := by decide +kernel
theorem dX10_person_5 : decode cX10_person 5 = .ok (.iload_n 1, 1) := by decide +kernel
theorem dX10_person_6 : decode cX10_person 6 = .ok (.invokevirtual 210, 3) := by decide +kernel
theorem dX10_person_9 : decode cX10_person 9 = .ok (.invokevirtual 195, 3) := by decide +kernel
theorem dX10_person_12 : decode cX10_person 12 = .ok (.aload_n 0, 1) := by decide +kernel
theorem dX10_person_13 : decode cX10_person 13 = .ok (.iload_n 2, 1) := by decide +kernel
theorem dX10_person_14 : decode cX10_person 14 = .ok (.ifCond .lt 13, 3) := by decide +kernel
theorem dX10_person_17 : decode cX10_person 17 = .ok (.iload_n 2, 1) := by decide +kernel
theorem dX10_person_18 : decode cX10_person 18 = .ok (.bipush 7, 2) := by decide +kernel
theorem dX10_person_20 : decode cX10_person 20 = .ok (.if_icmp .gt 7, 3) := by decide +kernel
theorem dX10_person_23 : decode cX10_person 23 = .ok (.iconst 1, 1) := by decide +kernel
theorem dX10_person_24 : decode cX10_person 24 = .ok (.goto 4, 3) := by decide +kernel
theorem dX10_person_27 : decode cX10_person 27 = .ok (.iconst 0, 1) := by decide +kernel
theorem dX10_person_28 : decode cX10_person 28 = .ok (.invokevirtual 102, 3) := by decide +kernel
theorem dX10_person_31 : decode cX10_person 31 = .ok (.iload_n 2, 1) := by decide +kernel
theorem dX10_person_32 : decode cX10_person 32 = .ok (.tableswitch 120 0 6 #[44, 53, 63, 73, 90, 100, 110], 44) := by decide +kernel
theorem dX10_person_76 : decode cX10_person 76 = .ok (.aload_n 0, 1) := by decide +kernel
theorem dX10_person_77 : decode cX10_person 77 = .ok (.getfield 82, 3) := by decide +kernel
theorem dX10_person_80 : decode cX10_person 80 = .ok (.iload_n 1, 1) := by decide +kernel
theorem dX10_person_81 : decode cX10_person 81 = .ok (.invokevirtual 213, 3) := by decide +kernel
theorem dX10_person_84 : decode cX10_person 84 = .ok (.ireturn, 1) := by decide +kernel
theorem dX10_person_85 : decode cX10_person 85 = .ok (.aload_n 0, 1) := by decide +kernel
theorem dX10_person_86 : decode cX10_person 86 = .ok (.getfield 19, 3) := by decide +kernel
theorem dX10_person_89 : decode cX10_person 89 = .ok (.iload_n 1, 1) := by decide +kernel
theorem dX10_person_90 : decode cX10_person 90 = .ok (.iconst 1, 1) := by decide +kernel
theorem dX10_person_91 : decode cX10_person 91 = .ok (.invokevirtual 216, 3) := by decide +kernel
theorem dX10_person_94 : decode cX10_person 94 = .ok (.ireturn, 1) := by decide +kernel
theorem dX10_person_95 : decode cX10_person 95 = .ok (.aload_n 0, 1) := by decide +kernel
theorem dX10_person_96 : decode cX10_person 96 = .ok (.getfield 19, 3) := by decide +kernel
theorem dX10_person_99 : decode cX10_person 99 = .ok (.iload_n 1, 1) := by decide +kernel
theorem dX10_person_100 : decode cX10_person 100 = .ok (.iconst 0, 1) := by decide +kernel
theorem dX10_person_101 : decode cX10_person 101 = .ok (.invokevirtual 216, 3) := by decide +kernel
theorem dX10_person_104 : decode cX10_person 104 = .ok (.ireturn, 1) := by decide +kernel
theorem dX10_person_105 : decode cX10_person 105 = .ok (.aload_n 0, 1) := by decide +kernel
theorem dX10_person_106 : decode cX10_person 106 = .ok (.getfield 82, 3) := by decide +kernel
theorem dX10_person_109 : decode cX10_person 109 = .ok (.aload_n 0, 1) := by decide +kernel
theorem dX10_person_110 : decode cX10_person 110 = .ok (.getfield 19, 3) := by decide +kernel
theorem dX10_person_113 : decode cX10_person 113 = .ok (.iload_n 1, 1) := by decide +kernel
theorem dX10_person_114 : decode cX10_person 114 = .ok (.iconst 0, 1) := by decide +kernel
theorem dX10_person_115 : decode cX10_person 115 = .ok (.invokevirtual 216, 3) := by decide +kernel
theorem dX10_person_118 : decode cX10_person 118 = .ok (.invokevirtual 219, 3) := by decide +kernel
theorem dX10_person_121 : decode cX10_person 121 = .ok (.ireturn, 1) := by decide +kernel
theorem dX10_person_122 : decode cX10_person 122 = .ok (.aload_n 0, 1) := by decide +kernel
theorem dX10_person_123 : decode cX10_person 123 = .ok (.getfield 19, 3) := by decide +kernel
theorem dX10_person_126 : decode cX10_person 126 = .ok (.iload_n 1, 1) := by decide +kernel
theorem dX10_person_127 : decode cX10_person 127 = .ok (.iconst 4, 1) := by decide +kernel
theorem dX10_person_128 : decode cX10_person 128 = .ok (.invokevirtual 216, 3) := by decide +kernel
theorem dX10_person_131 : decode cX10_person 131 = .ok (.ireturn, 1) := by decide +kernel
theorem dX10_person_132 : decode cX10_person 132 = .ok (.aload_n 0, 1) := by decide +kernel
theorem dX10_person_133 : decode cX10_person 133 = .ok (.getfield 19, 3) := by decide +kernel
theorem dX10_person_136 : decode cX10_person 136 = .ok (.iload_n 1, 1) := by decide +kernel
theorem dX10_person_137 : decode cX10_person 137 = .ok (.iconst 3, 1) := by decide +kernel
theorem dX10_person_138 : decode cX10_person 138 = .ok (.invokevirtual 216, 3) := by decide +kernel
theorem dX10_person_141 : decode cX10_person 141 = .ok (.ireturn, 1) := by decide +kernel
theorem dX10_person_142 : decode cX10_person 142 = .ok (.aload_n 0, 1) := by decide +kernel
theorem dX10_person_143 : decode cX10_person 143 = .ok (.getfield 19, 3) := by decide +kernel
theorem dX10_person_146 : decode cX10_person 146 = .ok (.iload_n 1, 1) := by decide +kernel
theorem dX10_person_147 : decode cX10_person 147 = .ok (.iconst 2, 1) := by decide +kernel
theorem dX10_person_148 : decode cX10_person 148 = .ok (.invokevirtual 216, 3) := by decide +kernel
theorem dX10_person_151 : decode cX10_person 151 = .ok (.ireturn, 1) := by decide +kernel
theorem dX10_person_152 : decode cX10_person 152 = .ok (.aload_n 0, 1) := by decide +kernel
theorem dX10_person_153 : decode cX10_person 153 = .ok (.aload_n 0, 1) := by decide +kernel
theorem dX10_person_154 : decode cX10_person 154 = .ok (.getfield 19, 3) := by decide +kernel
theorem dX10_person_157 : decode cX10_person 157 = .ok (.iload_n 1, 1) := by decide +kernel
theorem dX10_person_158 : decode cX10_person 158 = .ok (.invokevirtual 222, 3) := by decide +kernel
theorem dX10_person_161 : decode cX10_person 161 = .ok (.ifCond .eq 7, 3) := by decide +kernel
theorem dX10_person_164 : decode cX10_person 164 = .ok (.iconst 1, 1) := by decide +kernel
theorem dX10_person_165 : decode cX10_person 165 = .ok (.goto 4, 3) := by decide +kernel
theorem dX10_person_168 : decode cX10_person 168 = .ok (.iconst 0, 1) := by decide +kernel
theorem dX10_person_169 : decode cX10_person 169 = .ok (.ireturn, 1) := by decide +kernel
theorem dX10_stock_0 : decode cX10_stock 0 = .ok (.aload_n 0, 1) := by decide +kernel
theorem dX10_stock_1 : decode cX10_stock 1 = .ok (.iload_n 1, 1) := by decide +kernel
theorem dX10_stock_2 : decode cX10_stock 2 = .ok (.invokestatic 226, 3) := by decide +kernel
theorem dX10_stock_5 : decode cX10_stock 5 = .ok (.invokevirtual 195, 3) := by decide +kernel
theorem dX10_stock_8 : decode cX10_stock 8 = .ok (.aload_n 0, 1) := by decide +kernel
theorem dX10_stock_9 : decode cX10_stock 9 = .ok (.getfield 19, 3) := by decide +kernel
theorem dX10_stock_12 : decode cX10_stock 12 = .ok (.iload_n 1, 1) := by decide +kernel
theorem dX10_stock_13 : decode cX10_stock 13 = .ok (.invokevirtual 229, 3) := by decide +kernel
theorem dX10_stock_16 : decode cX10_stock 16 = .ok (.ireturn, 1) := by decide +kernel
theorem dX10_would_0 : decode cX10_would 0 = .ok (.aload_n 0, 1) := by decide +kernel
theorem dX10_would_1 : decode cX10_would 1 = .ok (.iload_n 1, 1) := by decide +kernel
theorem dX10_would_2 : decode cX10_would 2 = .ok (.invokestatic 232, 3) := by decide +kernel
theorem dX10_would_5 : decode cX10_would 5 = .ok (.ifCond .eq 28, 3) := by decide +kernel
theorem dX10_would_8 : decode cX10_would 8 = .ok (.iload_n 2, 1) := by decide +kernel
theorem dX10_would_9 : decode cX10_would 9 = .ok (.ifCond .lt 24, 3) := by decide +kernel
theorem dX10_would_12 : decode cX10_would 12 = .ok (.iload_n 2, 1) := by decide +kernel
theorem dX10_would_13 : decode cX10_would 13 = .ok (.sipush 400, 3) := by decide +kernel
theorem dX10_would_16 : decode cX10_would 16 = .ok (.if_icmp .gt 17, 3) := by decide +kernel
theorem dX10_would_19 : decode cX10_would 19 = .ok (.iload_n 3, 1) := by decide +kernel
theorem dX10_would_20 : decode cX10_would 20 = .ok (.ifCond .lt 13, 3) := by decide +kernel
theorem dX10_would_23 : decode cX10_would 23 = .ok (.iload_n 3, 1) := by decide +kernel
theorem dX10_would_24 : decode cX10_would 24 = .ok (.bipush 9, 2) := by decide +kernel
theorem dX10_would_26 : decode cX10_would 26 = .ok (.if_icmp .gt 7, 3) := by decide +kernel
theorem dX10_would_29 : decode cX10_would 29 = .ok (.iconst 1, 1) := by decide +kernel
theorem dX10_would_30 : decode cX10_would 30 = .ok (.goto 4, 3) := by decide +kernel
theorem dX10_would_33 : decode cX10_would 33 = .ok (.iconst 0, 1) := by decide +kernel
theorem dX10_would_34 : decode cX10_would 34 = .ok (.invokevirtual 102, 3) := by decide +kernel
theorem dX10_would_37 : decode cX10_would 37 = .ok (.aload_n 0, 1) := by decide +kernel
theorem dX10_would_38 : decode cX10_would 38 = .ok (.iload 4, 2) := by decide +kernel
theorem dX10_would_40 : decode cX10_would 40 = .ok (.ifCond .lt 38, 3) := by decide +kernel
theorem dX10_would_43 : decode cX10_would 43 = .ok (.iload 4, 2) := by decide +kernel
theorem dX10_would_45 : decode cX10_would 45 = .ok (.bipush 99, 2) := by decide +kernel
theorem dX10_would_47 : decode cX10_would 47 = .ok (.if_icmp .gt 31, 3) := by decide +kernel
theorem dX10_would_50 : decode cX10_would 50 = .ok (.iload 5, 2) := by decide +kernel
theorem dX10_would_52 : decode cX10_would 52 = .ok (.ifCond .lt 26, 3) := by decide +kernel
theorem dX10_would_55 : decode cX10_would 55 = .ok (.iload 5, 2) := by decide +kernel
theorem dX10_would_57 : decode cX10_would 57 = .ok (.sipush 300, 3) := by decide +kernel
theorem dX10_would_60 : decode cX10_would 60 = .ok (.if_icmp .gt 18, 3) := by decide +kernel
theorem dX10_would_63 : decode cX10_would 63 = .ok (.iload 6, 2) := by decide +kernel
theorem dX10_would_65 : decode cX10_would 65 = .ok (.ifCond .lt 13, 3) := by decide +kernel
theorem dX10_would_68 : decode cX10_would 68 = .ok (.iload 6, 2) := by decide +kernel
theorem dX10_would_70 : decode cX10_would 70 = .ok (.iconst 1, 1) := by decide +kernel
theorem dX10_would_71 : decode cX10_would 71 = .ok (.if_icmp .gt 7, 3) := by decide +kernel
theorem dX10_would_74 : decode cX10_would 74 = .ok (.iconst 1, 1) := by decide +kernel
theorem dX10_would_75 : decode cX10_would 75 = .ok (.goto 4, 3) := by decide +kernel
theorem dX10_would_78 : decode cX10_would 78 = .ok (.iconst 0, 1) := by decide +kernel
theorem dX10_would_79 : decode cX10_would 79 = .ok (.invokevirtual 102, 3) := by decide +kernel
theorem dX10_would_82 : decode cX10_would 82 = .ok (.aload_n 0, 1) := by decide +kernel
theorem dX10_would_83 : decode cX10_would 83 = .ok (.getfield 29, 3) := by decide +kernel
theorem dX10_would_86 : decode cX10_would 86 = .ok (.iload_n 1, 1) := by decide +kernel
theorem dX10_would_87 : decode cX10_would 87 = .ok (.iload_n 2, 1) := by decide +kernel
theorem dX10_would_88 : decode cX10_would 88 = .ok (.iload_n 3, 1) := by decide +kernel
theorem dX10_would_89 : decode cX10_would 89 = .ok (.iload 4, 2) := by decide +kernel
theorem dX10_would_91 : decode cX10_would 91 = .ok (.iload 5, 2) := by decide +kernel
theorem dX10_would_93 : decode cX10_would 93 = .ok (.iload 6, 2) := by decide +kernel
theorem dX10_would_95 : decode cX10_would 95 = .ok (.invokevirtual 235, 3) := by decide +kernel
theorem dX10_would_98 : decode cX10_would 98 = .ok (.ireturn, 1) := by decide +kernel
theorem dX10_distance_0 : decode cX10_distance 0 = .ok (.aload_n 0, 1) := by decide +kernel
theorem dX10_distance_1 : decode cX10_distance 1 = .ok (.iload_n 1, 1) := by decide +kernel
theorem dX10_distance_2 : decode cX10_distance 2 = .ok (.invokestatic 232, 3) := by decide +kernel
theorem dX10_distance_5 : decode cX10_distance 5 = .ok (.ifCond .eq 14, 3) := by decide +kernel
theorem dX10_distance_8 : decode cX10_distance 8 = .ok (.iload_n 2, 1) := by decide +kernel
theorem dX10_distance_9 : decode cX10_distance 9 = .ok (.invokestatic 232, 3) := by decide +kernel
theorem dX10_distance_12 : decode cX10_distance 12 = .ok (.ifCond .eq 7, 3) := by decide +kernel
theorem dX10_distance_15 : decode cX10_distance 15 = .ok (.iconst 1, 1) := by decide +kernel
theorem dX10_distance_16 : decode cX10_distance 16 = .ok (.goto 4, 3) := by decide +kernel
theorem dX10_distance_19 : decode cX10_distance 19 = .ok (.iconst 0, 1) := by decide +kernel
theorem dX10_distance_20 : decode cX10_distance 20 = .ok (.invokevirtual 102, 3) := by decide +kernel
theorem dX10_distance_23 : decode cX10_distance 23 = .ok (.iload_n 1, 1) := by decide +kernel
theorem dX10_distance_24 : decode cX10_distance 24 = .ok (.iload_n 2, 1) := by decide +kernel
theorem dX10_distance_25 : decode cX10_distance 25 = .ok (.invokestatic 239, 3) := by decide +kernel
theorem dX10_distance_28 : decode cX10_distance 28 = .ok (.ireturn, 1) := by decide +kernel
theorem dX10_seems_0 : decode cX10_seems 0 = .ok (.aload_n 0, 1) := by decide +kernel
theorem dX10_seems_1 : decode cX10_seems 1 = .ok (.iload_n 1, 1) := by decide +kernel
theorem dX10_seems_2 : decode cX10_seems 2 = .ok (.invokestatic 232, 3) := by decide +kernel
theorem dX10_seems_5 : decode cX10_seems 5 = .ok (.invokevirtual 102, 3) := by decide +kernel
theorem dX10_seems_8 : decode cX10_seems 8 = .ok (.aload_n 0, 1) := by decide +kernel
theorem dX10_seems_9 : decode cX10_seems 9 = .ok (.getfield 82, 3) := by decide +kernel
theorem dX10_seems_12 : decode cX10_seems 12 = .ok (.iload_n 1, 1) := by decide +kernel
theorem dX10_seems_13 : decode cX10_seems 13 = .ok (.invokevirtual 219, 3) := by decide +kernel
theorem dX10_seems_16 : decode cX10_seems 16 = .ok (.ireturn, 1) := by decide +kernel
theorem dX10_dipped_0 : decode cX10_dipped 0 = .ok (.aload_n 0, 1) := by decide +kernel
theorem dX10_dipped_1 : decode cX10_dipped 1 = .ok (.aload_n 0, 1) := by decide +kernel
theorem dX10_dipped_2 : decode cX10_dipped 2 = .ok (.getfield 82, 3) := by decide +kernel
theorem dX10_dipped_5 : decode cX10_dipped 5 = .ok (.iload_n 2, 1) := by decide +kernel
theorem dX10_dipped_6 : decode cX10_dipped 6 = .ok (.invokevirtual 191, 3) := by decide +kernel
theorem dX10_dipped_9 : decode cX10_dipped 9 = .ok (.invokevirtual 195, 3) := by decide +kernel
theorem dX10_dipped_12 : decode cX10_dipped 12 = .ok (.aload_n 0, 1) := by decide +kernel
theorem dX10_dipped_13 : decode cX10_dipped 13 = .ok (.iload_n 1, 1) := by decide +kernel
theorem dX10_dipped_14 : decode cX10_dipped 14 = .ok (.invokestatic 232, 3) := by decide +kernel
theorem dX10_dipped_17 : decode cX10_dipped 17 = .ok (.invokevirtual 102, 3) := by decide +kernel
theorem dX10_dipped_20 : decode cX10_dipped 20 = .ok (.iload_n 1, 1) := by decide +kernel
theorem dX10_dipped_21 : decode cX10_dipped 21 = .ok (.aload_n 0, 1) := by decide +kernel
theorem dX10_dipped_22 : decode cX10_dipped 22 = .ok (.getfield 82, 3) := by decide +kernel
theorem dX10_dipped_25 : decode cX10_dipped 25 = .ok (.iload_n 2, 1) := by decide +kernel
theorem dX10_dipped_26 : decode cX10_dipped 26 = .ok (.invokevirtual 198, 3) := by decide +kernel
theorem dX10_dipped_29 : decode cX10_dipped 29 = .ok (.invokestatic 242, 3) := by decide +kernel
theorem dX10_dipped_32 : decode cX10_dipped 32 = .ok (.ireturn, 1) := by decide +kernel
theorem dX10_cousins_0 : decode cX10_cousins 0 = .ok (.aload_n 0, 1) := by decide +kernel
theorem dX10_cousins_1 : decode cX10_cousins 1 = .ok (.getfield 19, 3) := by decide +kernel
theorem dX10_cousins_4 : decode cX10_cousins 4 = .ok (.aload_n 0, 1) := by decide +kernel
theorem dX10_cousins_5 : decode cX10_cousins 5 = .ok (.getfield 82, 3) := by decide +kernel
theorem dX10_cousins_8 : decode cX10_cousins 8 = .ok (.getfield 134, 3) := by decide +kernel
theorem dX10_cousins_11 : decode cX10_cousins 11 = .ok (.invokevirtual 245, 3) := by decide +kernel
theorem dX10_cousins_14 : decode cX10_cousins 14 = .ok (.ireturn, 1) := by decide +kernel
theorem dX10_when_0 : decode cX10_when 0 = .ok (.aload_n 0, 1) := by decide +kernel
theorem dX10_when_1 : decode cX10_when 1 = .ok (.aload_n 0, 1) := by decide +kernel
theorem dX10_when_2 : decode cX10_when 2 = .ok (.getfield 82, 3) := by decide +kernel
theorem dX10_when_5 : decode cX10_when 5 = .ok (.iload_n 1, 1) := by decide +kernel
theorem dX10_when_6 : decode cX10_when 6 = .ok (.invokevirtual 210, 3) := by decide +kernel
theorem dX10_when_9 : decode cX10_when 9 = .ok (.invokevirtual 195, 3) := by decide +kernel
theorem dX10_when_12 : decode cX10_when 12 = .ok (.aload_n 0, 1) := by decide +kernel
theorem dX10_when_13 : decode cX10_when 13 = .ok (.iload_n 2, 1) := by decide +kernel
theorem dX10_when_14 : decode cX10_when 14 = .ok (.ifCond .eq 8, 3) := by decide +kernel
theorem dX10_when_17 : decode cX10_when 17 = .ok (.iload_n 2, 1) := by decide +kernel
theorem dX10_when_18 : decode cX10_when 18 = .ok (.iconst 1, 1) := by decide +kernel
theorem dX10_when_19 : decode cX10_when 19 = .ok (.if_icmp .ne 7, 3) := by decide +kernel
theorem dX10_when_22 : decode cX10_when 22 = .ok (.iconst 1, 1) := by decide +kernel
theorem dX10_when_23 : decode cX10_when 23 = .ok (.goto 4, 3) := by decide +kernel
theorem dX10_when_26 : decode cX10_when 26 = .ok (.iconst 0, 1) := by decide +kernel
theorem dX10_when_27 : decode cX10_when 27 = .ok (.invokevirtual 102, 3) := by decide +kernel
theorem dX10_when_30 : decode cX10_when 30 = .ok (.aload_n 0, 1) := by decide +kernel
theorem dX10_when_31 : decode cX10_when 31 = .ok (.getfield 23, 3) := by decide +kernel
theorem dX10_when_34 : decode cX10_when 34 = .ok (.aload_n 0, 1) := by decide +kernel
theorem dX10_when_35 : decode cX10_when 35 = .ok (.getfield 19, 3) := by decide +kernel
theorem dX10_when_38 : decode cX10_when 38 = .ok (.invokevirtual 248, 3) := by decide +kernel
theorem dX10_when_41 : decode cX10_when 41 = .ok (.iconst 0, 1) := by decide +kernel
theorem dX10_when_42 : decode cX10_when 42 = .ok (.istore_n 3, 1) := by decide +kernel
theorem dX10_when_43 : decode cX10_when 43 = .ok (.iload_n 3, 1) := by decide +kernel
theorem dX10_when_44 : decode cX10_when 44 = .ok (.bipush 60, 2) := by decide +kernel
theorem dX10_when_46 : decode cX10_when 46 = .ok (.if_icmp .gt 54, 3) := by decide +kernel
theorem dX10_when_49 : decode cX10_when 49 = .ok (.aload_n 0, 1) := by decide +kernel
theorem dX10_when_50 : decode cX10_when 50 = .ok (.aload_n 0, 1) := by decide +kernel
theorem dX10_when_51 : decode cX10_when 51 = .ok (.getfield 23, 3) := by decide +kernel
theorem dX10_when_54 : decode cX10_when 54 = .ok (.iload_n 1, 1) := by decide +kernel
theorem dX10_when_55 : decode cX10_when 55 = .ok (.invokevirtual 222, 3) := by decide +kernel
theorem dX10_when_58 : decode cX10_when 58 = .ok (.iload_n 2, 1) := by decide +kernel
theorem dX10_when_59 : decode cX10_when 59 = .ok (.iconst 1, 1) := by decide +kernel
theorem dX10_when_60 : decode cX10_when 60 = .ok (.if_icmp .ne 7, 3) := by decide +kernel
theorem dX10_when_63 : decode cX10_when 63 = .ok (.iconst 1, 1) := by decide +kernel
theorem dX10_when_64 : decode cX10_when 64 = .ok (.goto 4, 3) := by decide +kernel
theorem dX10_when_67 : decode cX10_when 67 = .ok (.iconst 0, 1) := by decide +kernel
theorem dX10_when_68 : decode cX10_when 68 = .ok (.if_icmp .ne 5, 3) := by decide +kernel
theorem dX10_when_71 : decode cX10_when 71 = .ok (.iload_n 3, 1) := by decide +kernel
theorem dX10_when_72 : decode cX10_when 72 = .ok (.ireturn, 1) := by decide +kernel
theorem dX10_when_73 : decode cX10_when 73 = .ok (.aload_n 0, 1) := by decide +kernel
theorem dX10_when_74 : decode cX10_when 74 = .ok (.getfield 23, 3) := by decide +kernel
theorem dX10_when_77 : decode cX10_when 77 = .ok (.aload_n 0, 1) := by decide +kernel
theorem dX10_when_78 : decode cX10_when 78 = .ok (.getfield 82, 3) := by decide +kernel
theorem dX10_when_81 : decode cX10_when 81 = .ok (.getfield 134, 3) := by decide +kernel
theorem dX10_when_84 : decode cX10_when 84 = .ok (.aload_n 0, 1) := by decide +kernel
theorem dX10_when_85 : decode cX10_when 85 = .ok (.getfield 82, 3) := by decide +kernel
theorem dX10_when_88 : decode cX10_when 88 = .ok (.getfield 188, 3) := by decide +kernel
theorem dX10_when_91 : decode cX10_when 91 = .ok (.invokevirtual 251, 3) := by decide +kernel
theorem dX10_when_94 : decode cX10_when 94 = .ok (.iinc 3 1, 3) := by decide +kernel
theorem dX10_when_97 : decode cX10_when 97 = .ok (.goto (-54), 3) := by decide +kernel
theorem dX10_when_100 : decode cX10_when 100 = .ok (.iconst (-1), 1) := by decide +kernel
theorem dX10_when_101 : decode cX10_when 101 = .ok (.ireturn, 1) := by decide +kernel
theorem dX10_sits_0 : decode cX10_sits 0 = .ok (.aload_n 0, 1) := by decide +kernel
theorem dX10_sits_1 : decode cX10_sits 1 = .ok (.aload_n 0, 1) := by decide +kernel
theorem dX10_sits_2 : decode cX10_sits 2 = .ok (.getfield 82, 3) := by decide +kernel
theorem dX10_sits_5 : decode cX10_sits 5 = .ok (.iload_n 1, 1) := by decide +kernel
theorem dX10_sits_6 : decode cX10_sits 6 = .ok (.invokevirtual 210, 3) := by decide +kernel
theorem dX10_sits_9 : decode cX10_sits 9 = .ok (.invokevirtual 195, 3) := by decide +kernel
theorem dX10_sits_12 : decode cX10_sits 12 = .ok (.aload_n 0, 1) := by decide +kernel
theorem dX10_sits_13 : decode cX10_sits 13 = .ok (.iload_n 2, 1) := by decide +kernel
theorem dX10_sits_14 : decode cX10_sits 14 = .ok (.ifCond .lt 13, 3) := by decide +kernel
theorem dX10_sits_17 : decode cX10_sits 17 = .ok (.iload_n 2, 1) := by decide +kernel
theorem dX10_sits_18 : decode cX10_sits 18 = .ok (.bipush 30, 2) := by decide +kernel
theorem dX10_sits_20 : decode cX10_sits 20 = .ok (.if_icmp .gt 7, 3) := by decide +kernel
theorem dX10_sits_23 : decode cX10_sits 23 = .ok (.iconst 1, 1) := by decide +kernel
theorem dX10_sits_24 : decode cX10_sits 24 = .ok (.goto 4, 3) := by decide +kernel
theorem dX10_sits_27 : decode cX10_sits 27 = .ok (.iconst 0, 1) := by decide +kernel
theorem dX10_sits_28 : decode cX10_sits 28 = .ok (.invokevirtual 102, 3) := by decide +kernel
theorem dX10_sits_31 : decode cX10_sits 31 = .ok (.aload_n 0, 1) := by decide +kernel
theorem dX10_sits_32 : decode cX10_sits 32 = .ok (.getfield 23, 3) := by decide +kernel
theorem dX10_sits_35 : decode cX10_sits 35 = .ok (.aload_n 0, 1) := by decide +kernel
theorem dX10_sits_36 : decode cX10_sits 36 = .ok (.getfield 19, 3) := by decide +kernel
theorem dX10_sits_39 : decode cX10_sits 39 = .ok (.invokevirtual 248, 3) := by decide +kernel
theorem dX10_sits_42 : decode cX10_sits 42 = .ok (.iconst 0, 1) := by decide +kernel
theorem dX10_sits_43 : decode cX10_sits 43 = .ok (.istore_n 3, 1) := by decide +kernel
theorem dX10_sits_44 : decode cX10_sits 44 = .ok (.iconst 0, 1) := by decide +kernel
theorem dX10_sits_45 : decode cX10_sits 45 = .ok (.istore 4, 2) := by decide +kernel
theorem dX10_sits_47 : decode cX10_sits 47 = .ok (.iload 4, 2) := by decide +kernel
theorem dX10_sits_49 : decode cX10_sits 49 = .ok (.iload_n 2, 1) := by decide +kernel
theorem dX10_sits_50 : decode cX10_sits 50 = .ok (.if_icmp .ge 49, 3) := by decide +kernel
theorem dX10_sits_53 : decode cX10_sits 53 = .ok (.aload_n 0, 1) := by decide +kernel
theorem dX10_sits_54 : decode cX10_sits 54 = .ok (.aload_n 0, 1) := by decide +kernel
theorem dX10_sits_55 : decode cX10_sits 55 = .ok (.getfield 23, 3) := by decide +kernel
theorem dX10_sits_58 : decode cX10_sits 58 = .ok (.iload_n 1, 1) := by decide +kernel
theorem dX10_sits_59 : decode cX10_sits 59 = .ok (.invokevirtual 222, 3) := by decide +kernel
theorem dX10_sits_62 : decode cX10_sits 62 = .ok (.ifCond .eq 10, 3) := by decide +kernel
theorem dX10_sits_65 : decode cX10_sits 65 = .ok (.iload_n 3, 1) := by decide +kernel
theorem dX10_sits_66 : decode cX10_sits 66 = .ok (.iconst 1, 1) := by decide +kernel
theorem dX10_sits_67 : decode cX10_sits 67 = .ok (.iload 4, 2) := by decide +kernel
theorem dX10_sits_69 : decode cX10_sits 69 = .ok (.ishl, 1) := by decide +kernel
theorem dX10_sits_70 : decode cX10_sits 70 = .ok (.ior, 1) := by decide +kernel
theorem dX10_sits_71 : decode cX10_sits 71 = .ok (.istore_n 3, 1) := by decide +kernel
theorem dX10_sits_72 : decode cX10_sits 72 = .ok (.aload_n 0, 1) := by decide +kernel
theorem dX10_sits_73 : decode cX10_sits 73 = .ok (.getfield 23, 3) := by decide +kernel
theorem dX10_sits_76 : decode cX10_sits 76 = .ok (.aload_n 0, 1) := by decide +kernel
theorem dX10_sits_77 : decode cX10_sits 77 = .ok (.getfield 82, 3) := by decide +kernel
theorem dX10_sits_80 : decode cX10_sits 80 = .ok (.getfield 134, 3) := by decide +kernel
theorem dX10_sits_83 : decode cX10_sits 83 = .ok (.aload_n 0, 1) := by decide +kernel
theorem dX10_sits_84 : decode cX10_sits 84 = .ok (.getfield 82, 3) := by decide +kernel
theorem dX10_sits_87 : decode cX10_sits 87 = .ok (.getfield 188, 3) := by decide +kernel
theorem dX10_sits_90 : decode cX10_sits 90 = .ok (.invokevirtual 251, 3) := by decide +kernel
theorem dX10_sits_93 : decode cX10_sits 93 = .ok (.iinc 4 1, 3) := by decide +kernel
theorem dX10_sits_96 : decode cX10_sits 96 = .ok (.goto (-49), 3) := by decide +kernel
theorem dX10_sits_99 : decode cX10_sits 99 = .ok (.iload_n 3, 1) := by decide +kernel
theorem dX10_sits_100 : decode cX10_sits 100 = .ok (.ireturn, 1) := by decide +kernel
theorem dX10_way_0 : decode cX10_way 0 = .ok (.aload_n 0, 1) := by decide +kernel
theorem dX10_way_1 : decode cX10_way 1 = .ok (.iload_n 1, 1) := by decide +kernel
theorem dX10_way_2 : decode cX10_way 2 = .ok (.invokestatic 232, 3) := by decide +kernel
theorem dX10_way_5 : decode cX10_way 5 = .ok (.ifCond .eq 14, 3) := by decide +kernel
theorem dX10_way_8 : decode cX10_way 8 = .ok (.iload_n 2, 1) := by decide +kernel
theorem dX10_way_9 : decode cX10_way 9 = .ok (.invokestatic 232, 3) := by decide +kernel
theorem dX10_way_12 : decode cX10_way 12 = .ok (.ifCond .eq 7, 3) := by decide +kernel
theorem dX10_way_15 : decode cX10_way 15 = .ok (.iconst 1, 1) := by decide +kernel
theorem dX10_way_16 : decode cX10_way 16 = .ok (.goto 4, 3) := by decide +kernel
theorem dX10_way_19 : decode cX10_way 19 = .ok (.iconst 0, 1) := by decide +kernel
theorem dX10_way_20 : decode cX10_way 20 = .ok (.invokevirtual 102, 3) := by decide +kernel
theorem dX10_way_23 : decode cX10_way 23 = .ok (.aload_n 0, 1) := by decide +kernel
theorem dX10_way_24 : decode cX10_way 24 = .ok (.getfield 57, 3) := by decide +kernel
theorem dX10_way_27 : decode cX10_way 27 = .ok (.aload_n 0, 1) := by decide +kernel
theorem dX10_way_28 : decode cX10_way 28 = .ok (.getfield 82, 3) := by decide +kernel
theorem dX10_way_31 : decode cX10_way 31 = .ok (.iload_n 1, 1) := by decide +kernel
theorem dX10_way_32 : decode cX10_way 32 = .ok (.iload_n 2, 1) := by decide +kernel
theorem dX10_way_33 : decode cX10_way 33 = .ok (.invokevirtual 255, 3) := by decide +kernel
theorem dX10_way_36 : decode cX10_way 36 = .ok (.ireturn, 1) := by decide +kernel
theorem dX10_step_0 : decode cX10_step 0 = .ok (.aload_n 0, 1) := by decide +kernel
theorem dX10_step_1 : decode cX10_step 1 = .ok (.iload_n 1, 1) := by decide +kernel
theorem dX10_step_2 : decode cX10_step 2 = .ok (.invokestatic 232, 3) := by decide +kernel
theorem dX10_step_5 : decode cX10_step 5 = .ok (.ifCond .eq 18, 3) := by decide +kernel
theorem dX10_step_8 : decode cX10_step 8 = .ok (.iload_n 2, 1) := by decide +kernel
theorem dX10_step_9 : decode cX10_step 9 = .ok (.invokestatic 232, 3) := by decide +kernel
theorem dX10_step_12 : decode cX10_step 12 = .ok (.ifCond .eq 11, 3) := by decide +kernel
theorem dX10_step_15 : decode cX10_step 15 = .ok (.iload_n 3, 1) := by decide +kernel
theorem dX10_step_16 : decode cX10_step 16 = .ok (.ifCond .lt 7, 3) := by decide +kernel
theorem dX10_step_19 : decode cX10_step 19 = .ok (.iconst 1, 1) := by decide +kernel
theorem dX10_step_20 : decode cX10_step 20 = .ok (.goto 4, 3) := by decide +kernel
theorem dX10_step_23 : decode cX10_step 23 = .ok (.iconst 0, 1) := by decide +kernel
theorem dX10_step_24 : decode cX10_step 24 = .ok (.invokevirtual 102, 3) := by decide +kernel
theorem dX10_step_27 : decode cX10_step 27 = .ok (.aload_n 0, 1) := by decide +kernel
theorem dX10_step_28 : decode cX10_step 28 = .ok (.getfield 57, 3) := by decide +kernel
theorem dX10_step_31 : decode cX10_step 31 = .ok (.aload_n 0, 1) := by decide +kernel
theorem dX10_step_32 : decode cX10_step 32 = .ok (.getfield 82, 3) := by decide +kernel
theorem dX10_step_35 : decode cX10_step 35 = .ok (.iload_n 1, 1) := by decide +kernel
theorem dX10_step_36 : decode cX10_step 36 = .ok (.iload_n 2, 1) := by decide +kernel
theorem dX10_step_37 : decode cX10_step 37 = .ok (.iload_n 3, 1) := by decide +kernel
theorem dX10_step_38 : decode cX10_step 38 = .ok (.invokevirtual 259, 3) := by decide +kernel
theorem dX10_step_41 : decode cX10_step 41 = .ok (.ireturn, 1) := by decide +kernel
theorem dX10_sums_0 : decode cX10_sums 0 = .ok (.aload_n 0, 1) := by decide +kernel
theorem dX10_sums_1 : decode cX10_sums 1 = .ok (.iload_n 1, 1) := by decide +kernel
theorem dX10_sums_2 : decode cX10_sums 2 = .ok (.invokestatic 232, 3) := by decide +kernel
theorem dX10_sums_5 : decode cX10_sums 5 = .ok (.ifCond .eq 16, 3) := by decide +kernel
theorem dX10_sums_8 : decode cX10_sums 8 = .ok (.iload_n 2, 1) := by decide +kernel
theorem dX10_sums_9 : decode cX10_sums 9 = .ok (.ifCond .lt 12, 3) := by decide +kernel
theorem dX10_sums_12 : decode cX10_sums 12 = .ok (.iload_n 2, 1) := by decide +kernel
theorem dX10_sums_13 : decode cX10_sums 13 = .ok (.iconst 1, 1) := by decide +kernel
theorem dX10_sums_14 : decode cX10_sums 14 = .ok (.if_icmp .gt 7, 3) := by decide +kernel
theorem dX10_sums_17 : decode cX10_sums 17 = .ok (.iconst 1, 1) := by decide +kernel
theorem dX10_sums_18 : decode cX10_sums 18 = .ok (.goto 4, 3) := by decide +kernel
theorem dX10_sums_21 : decode cX10_sums 21 = .ok (.iconst 0, 1) := by decide +kernel
theorem dX10_sums_22 : decode cX10_sums 22 = .ok (.invokevirtual 102, 3) := by decide +kernel
theorem dX10_sums_25 : decode cX10_sums 25 = .ok (.aload_n 0, 1) := by decide +kernel
theorem dX10_sums_26 : decode cX10_sums 26 = .ok (.getfield 57, 3) := by decide +kernel
theorem dX10_sums_29 : decode cX10_sums 29 = .ok (.aload_n 0, 1) := by decide +kernel
theorem dX10_sums_30 : decode cX10_sums 30 = .ok (.getfield 82, 3) := by decide +kernel
theorem dX10_sums_33 : decode cX10_sums 33 = .ok (.invokevirtual 263, 3) := by decide +kernel
theorem dX10_sums_36 : decode cX10_sums 36 = .ok (.iload_n 2, 1) := by decide +kernel
theorem dX10_sums_37 : decode cX10_sums 37 = .ok (.ifCond .ne 14, 3) := by decide +kernel
theorem dX10_sums_40 : decode cX10_sums 40 = .ok (.aload_n 0, 1) := by decide +kernel
theorem dX10_sums_41 : decode cX10_sums 41 = .ok (.getfield 57, 3) := by decide +kernel
theorem dX10_sums_44 : decode cX10_sums 44 = .ok (.iload_n 1, 1) := by decide +kernel
theorem dX10_sums_45 : decode cX10_sums 45 = .ok (.invokevirtual 266, 3) := by decide +kernel
theorem dX10_sums_48 : decode cX10_sums 48 = .ok (.goto 11, 3) := by decide +kernel
theorem dX10_sums_51 : decode cX10_sums 51 = .ok (.aload_n 0, 1) := by decide +kernel
theorem dX10_sums_52 : decode cX10_sums 52 = .ok (.getfield 57, 3) := by decide +kernel
theorem dX10_sums_55 : decode cX10_sums 55 = .ok (.iload_n 1, 1) := by decide +kernel
theorem dX10_sums_56 : decode cX10_sums 56 = .ok (.invokevirtual 269, 3) := by decide +kernel
theorem dX10_sums_59 : decode cX10_sums 59 = .ok (.ireturn, 1) := by decide +kernel
theorem dX10_tones_0 : decode cX10_tones 0 = .ok (.aload_n 0, 1) := by decide +kernel
theorem dX10_tones_1 : decode cX10_tones 1 = .ok (.iload_n 1, 1) := by decide +kernel
theorem dX10_tones_2 : decode cX10_tones 2 = .ok (.invokestatic 232, 3) := by decide +kernel
theorem dX10_tones_5 : decode cX10_tones 5 = .ok (.invokevirtual 102, 3) := by decide +kernel
theorem dX10_tones_8 : decode cX10_tones 8 = .ok (.aload_n 0, 1) := by decide +kernel
theorem dX10_tones_9 : decode cX10_tones 9 = .ok (.getfield 57, 3) := by decide +kernel
theorem dX10_tones_12 : decode cX10_tones 12 = .ok (.aload_n 0, 1) := by decide +kernel
theorem dX10_tones_13 : decode cX10_tones 13 = .ok (.getfield 82, 3) := by decide +kernel
theorem dX10_tones_16 : decode cX10_tones 16 = .ok (.iload_n 1, 1) := by decide +kernel
theorem dX10_tones_17 : decode cX10_tones 17 = .ok (.invokevirtual 272, 3) := by decide +kernel
theorem dX10_tones_20 : decode cX10_tones 20 = .ok (.ireturn, 1) := by decide +kernel
theorem dX10_fits_0 : decode cX10_fits 0 = .ok (.aload_n 0, 1) := by decide +kernel
theorem dX10_fits_1 : decode cX10_fits 1 = .ok (.iload_n 1, 1) := by decide +kernel
theorem dX10_fits_2 : decode cX10_fits 2 = .ok (.ifCond .lt 12, 3) := by decide +kernel
theorem dX10_fits_5 : decode cX10_fits 5 = .ok (.iload_n 1, 1) := by decide +kernel
theorem dX10_fits_6 : decode cX10_fits 6 = .ok (.iconst 1, 1) := by decide +kernel
theorem dX10_fits_7 : decode cX10_fits 7 = .ok (.if_icmp .gt 7, 3) := by decide +kernel
theorem dX10_fits_10 : decode cX10_fits 10 = .ok (.iconst 1, 1) := by decide +kernel
theorem dX10_fits_11 : decode cX10_fits 11 = .ok (.goto 4, 3) := by decide +kernel
theorem dX10_fits_14 : decode cX10_fits 14 = .ok (.iconst 0, 1) := by decide +kernel
theorem dX10_fits_15 : decode cX10_fits 15 = .ok (.invokevirtual 102, 3) := by decide +kernel
theorem dX10_fits_18 : decode cX10_fits 18 = .ok (.iload_n 1, 1) := by decide +kernel
theorem dX10_fits_19 : decode cX10_fits 19 = .ok (.ifCond .ne 24, 3) := by decide +kernel
theorem dX10_fits_22 : decode cX10_fits 22 = .ok (.aload_n 0, 1) := by decide +kernel
theorem dX10_fits_23 : decode cX10_fits 23 = .ok (.getfield 36, 3) := by decide +kernel
theorem dX10_fits_26 : decode cX10_fits 26 = .ok (.aload_n 0, 1) := by decide +kernel
theorem dX10_fits_27 : decode cX10_fits 27 = .ok (.getfield 19, 3) := by decide +kernel
theorem dX10_fits_30 : decode cX10_fits 30 = .ok (.aload_n 0, 1) := by decide +kernel
theorem dX10_fits_31 : decode cX10_fits 31 = .ok (.getfield 82, 3) := by decide +kernel
theorem dX10_fits_34 : decode cX10_fits 34 = .ok (.getfield 134, 3) := by decide +kernel
theorem dX10_fits_37 : decode cX10_fits 37 = .ok (.invokevirtual 276, 3) := by decide +kernel
theorem dX10_fits_40 : decode cX10_fits 40 = .ok (.goto 21, 3) := by decide +kernel
theorem dX10_fits_43 : decode cX10_fits 43 = .ok (.aload_n 0, 1) := by decide +kernel
theorem dX10_fits_44 : decode cX10_fits 44 = .ok (.getfield 36, 3) := by decide +kernel
theorem dX10_fits_47 : decode cX10_fits 47 = .ok (.aload_n 0, 1) := by decide +kernel
theorem dX10_fits_48 : decode cX10_fits 48 = .ok (.getfield 19, 3) := by decide +kernel
theorem dX10_fits_51 : decode cX10_fits 51 = .ok (.aload_n 0, 1) := by decide +kernel
theorem dX10_fits_52 : decode cX10_fits 52 = .ok (.getfield 82, 3) := by decide +kernel
theorem dX10_fits_55 : decode cX10_fits 55 = .ok (.getfield 134, 3) := by decide +kernel
theorem dX10_fits_58 : decode cX10_fits 58 = .ok (.invokevirtual 280, 3) := by decide +kernel
theorem dX10_fits_61 : decode cX10_fits 61 = .ok (.ireturn, 1) := by decide +kernel
theorem dX10_look_0 : decode cX10_look 0 = .ok (.aload_n 0, 1) := by decide +kernel
theorem dX10_look_1 : decode cX10_look 1 = .ok (.iload_n 1, 1) := by decide +kernel
theorem dX10_look_2 : decode cX10_look 2 = .ok (.ifCond .lt 12, 3) := by decide +kernel
theorem dX10_look_5 : decode cX10_look 5 = .ok (.iload_n 1, 1) := by decide +kernel
theorem dX10_look_6 : decode cX10_look 6 = .ok (.iconst 1, 1) := by decide +kernel
theorem dX10_look_7 : decode cX10_look 7 = .ok (.if_icmp .gt 7, 3) := by decide +kernel
theorem dX10_look_10 : decode cX10_look 10 = .ok (.iconst 1, 1) := by decide +kernel
theorem dX10_look_11 : decode cX10_look 11 = .ok (.goto 4, 3) := by decide +kernel
theorem dX10_look_14 : decode cX10_look 14 = .ok (.iconst 0, 1) := by decide +kernel
theorem dX10_look_15 : decode cX10_look 15 = .ok (.invokevirtual 102, 3) := by decide +kernel
theorem dX10_look_18 : decode cX10_look 18 = .ok (.iconst (-1), 1) := by decide +kernel
theorem dX10_look_19 : decode cX10_look 19 = .ok (.istore_n 2, 1) := by decide +kernel
theorem dX10_look_20 : decode cX10_look 20 = .ok (.iconst (-1), 1) := by decide +kernel
theorem dX10_look_21 : decode cX10_look 21 = .ok (.istore_n 3, 1) := by decide +kernel
theorem dX10_look_22 : decode cX10_look 22 = .ok (.iconst 0, 1) := by decide +kernel
theorem dX10_look_23 : decode cX10_look 23 = .ok (.istore 4, 2) := by decide +kernel
theorem dX10_look_25 : decode cX10_look 25 = .ok (.iload 4, 2) := by decide +kernel
theorem dX10_look_27 : decode cX10_look 27 = .ok (.iconst 3, 1) := by decide +kernel
theorem dX10_look_28 : decode cX10_look 28 = .ok (.if_icmp .ge 60, 3) := by decide +kernel
theorem dX10_look_31 : decode cX10_look 31 = .ok (.aload_n 0, 1) := by decide +kernel
theorem dX10_look_32 : decode cX10_look 32 = .ok (.getfield 36, 3) := by decide +kernel
theorem dX10_look_35 : decode cX10_look 35 = .ok (.iload 4, 2) := by decide +kernel
theorem dX10_look_37 : decode cX10_look 37 = .ok (.invokevirtual 283, 3) := by decide +kernel
theorem dX10_look_40 : decode cX10_look 40 = .ok (.ifCond .ne 42, 3) := by decide +kernel
theorem dX10_look_43 : decode cX10_look 43 = .ok (.aload_n 0, 1) := by decide +kernel
theorem dX10_look_44 : decode cX10_look 44 = .ok (.getfield 36, 3) := by decide +kernel
theorem dX10_look_47 : decode cX10_look 47 = .ok (.aload_n 0, 1) := by decide +kernel
theorem dX10_look_48 : decode cX10_look 48 = .ok (.getfield 19, 3) := by decide +kernel
theorem dX10_look_51 : decode cX10_look 51 = .ok (.aload_n 0, 1) := by decide +kernel
theorem dX10_look_52 : decode cX10_look 52 = .ok (.getfield 82, 3) := by decide +kernel
theorem dX10_look_55 : decode cX10_look 55 = .ok (.getfield 134, 3) := by decide +kernel
theorem dX10_look_58 : decode cX10_look 58 = .ok (.iload 4, 2) := by decide +kernel
theorem dX10_look_60 : decode cX10_look 60 = .ok (.invokevirtual 286, 3) := by decide +kernel
theorem dX10_look_63 : decode cX10_look 63 = .ok (.istore 5, 2) := by decide +kernel
theorem dX10_look_65 : decode cX10_look 65 = .ok (.iload_n 2, 1) := by decide +kernel
theorem dX10_look_66 : decode cX10_look 66 = .ok (.iconst (-1), 1) := by decide +kernel
theorem dX10_look_67 : decode cX10_look 67 = .ok (.if_icmp .eq 9, 3) := by decide +kernel
theorem dX10_look_70 : decode cX10_look 70 = .ok (.iload 5, 2) := by decide +kernel
theorem dX10_look_72 : decode cX10_look 72 = .ok (.iload_n 3, 1) := by decide +kernel
theorem dX10_look_73 : decode cX10_look 73 = .ok (.if_icmp .ge 9, 3) := by decide +kernel
theorem dX10_look_76 : decode cX10_look 76 = .ok (.iload 4, 2) := by decide +kernel
theorem dX10_look_78 : decode cX10_look 78 = .ok (.istore_n 2, 1) := by decide +kernel
theorem dX10_look_79 : decode cX10_look 79 = .ok (.iload 5, 2) := by decide +kernel
theorem dX10_look_81 : decode cX10_look 81 = .ok (.istore_n 3, 1) := by decide +kernel
theorem dX10_look_82 : decode cX10_look 82 = .ok (.iinc 4 1, 3) := by decide +kernel
theorem dX10_look_85 : decode cX10_look 85 = .ok (.goto (-60), 3) := by decide +kernel
theorem dX10_look_88 : decode cX10_look 88 = .ok (.iload_n 1, 1) := by decide +kernel
theorem dX10_look_89 : decode cX10_look 89 = .ok (.ifCond .ne 7, 3) := by decide +kernel
theorem dX10_look_92 : decode cX10_look 92 = .ok (.iload_n 2, 1) := by decide +kernel
theorem dX10_look_93 : decode cX10_look 93 = .ok (.goto 4, 3) := by decide +kernel
theorem dX10_look_96 : decode cX10_look 96 = .ok (.iload_n 3, 1) := by decide +kernel
theorem dX10_look_97 : decode cX10_look 97 = .ok (.ireturn, 1) := by decide +kernel
theorem dX10_match_0 : decode cX10_match 0 = .ok (.aload_n 0, 1) := by decide +kernel
theorem dX10_match_1 : decode cX10_match 1 = .ok (.iload_n 1, 1) := by decide +kernel
theorem dX10_match_2 : decode cX10_match 2 = .ok (.ifCond .lt 12, 3) := by decide +kernel
theorem dX10_match_5 : decode cX10_match 5 = .ok (.iload_n 1, 1) := by decide +kernel
theorem dX10_match_6 : decode cX10_match 6 = .ok (.iconst 1, 1) := by decide +kernel
theorem dX10_match_7 : decode cX10_match 7 = .ok (.if_icmp .gt 7, 3) := by decide +kernel
theorem dX10_match_10 : decode cX10_match 10 = .ok (.iconst 1, 1) := by decide +kernel
theorem dX10_match_11 : decode cX10_match 11 = .ok (.goto 4, 3) := by decide +kernel
theorem dX10_match_14 : decode cX10_match 14 = .ok (.iconst 0, 1) := by decide +kernel
theorem dX10_match_15 : decode cX10_match 15 = .ok (.invokevirtual 102, 3) := by decide +kernel
theorem dX10_match_18 : decode cX10_match 18 = .ok (.aload_n 0, 1) := by decide +kernel
theorem dX10_match_19 : decode cX10_match 19 = .ok (.getfield 64, 3) := by decide +kernel
theorem dX10_match_22 : decode cX10_match 22 = .ok (.aload_n 0, 1) := by decide +kernel
theorem dX10_match_23 : decode cX10_match 23 = .ok (.getfield 82, 3) := by decide +kernel
theorem dX10_match_26 : decode cX10_match 26 = .ok (.aload_n 0, 1) := by decide +kernel
theorem dX10_match_27 : decode cX10_match 27 = .ok (.getfield 19, 3) := by decide +kernel
theorem dX10_match_30 : decode cX10_match 30 = .ok (.invokevirtual 290, 3) := by decide +kernel
theorem dX10_match_33 : decode cX10_match 33 = .ok (.iload_n 1, 1) := by decide +kernel
theorem dX10_match_34 : decode cX10_match 34 = .ok (.ifCond .ne 13, 3) := by decide +kernel
theorem dX10_match_37 : decode cX10_match 37 = .ok (.aload_n 0, 1) := by decide +kernel
theorem dX10_match_38 : decode cX10_match 38 = .ok (.getfield 64, 3) := by decide +kernel
theorem dX10_match_41 : decode cX10_match 41 = .ok (.getfield 293, 3) := by decide +kernel
theorem dX10_match_44 : decode cX10_match 44 = .ok (.goto 10, 3) := by decide +kernel
theorem dX10_match_47 : decode cX10_match 47 = .ok (.aload_n 0, 1) := by decide +kernel
theorem dX10_match_48 : decode cX10_match 48 = .ok (.getfield 64, 3) := by decide +kernel
theorem dX10_match_51 : decode cX10_match 51 = .ok (.getfield 296, 3) := by decide +kernel
theorem dX10_match_54 : decode cX10_match 54 = .ok (.ireturn, 1) := by decide +kernel
theorem dX10_bride_0 : decode cX10_bride 0 = .ok (.aload_n 0, 1) := by decide +kernel
theorem dX10_bride_1 : decode cX10_bride 1 = .ok (.aload_n 0, 1) := by decide +kernel
theorem dX10_bride_2 : decode cX10_bride 2 = .ok (.getfield 82, 3) := by decide +kernel
theorem dX10_bride_5 : decode cX10_bride 5 = .ok (.iload_n 1, 1) := by decide +kernel
theorem dX10_bride_6 : decode cX10_bride 6 = .ok (.invokevirtual 210, 3) := by decide +kernel
theorem dX10_bride_9 : decode cX10_bride 9 = .ok (.invokevirtual 195, 3) := by decide +kernel
theorem dX10_bride_12 : decode cX10_bride 12 = .ok (.aload_n 0, 1) := by decide +kernel
theorem dX10_bride_13 : decode cX10_bride 13 = .ok (.getfield 64, 3) := by decide +kernel
theorem dX10_bride_16 : decode cX10_bride 16 = .ok (.aload_n 0, 1) := by decide +kernel
theorem dX10_bride_17 : decode cX10_bride 17 = .ok (.getfield 82, 3) := by decide +kernel
theorem dX10_bride_20 : decode cX10_bride 20 = .ok (.aload_n 0, 1) := by decide +kernel
theorem dX10_bride_21 : decode cX10_bride 21 = .ok (.getfield 19, 3) := by decide +kernel
theorem dX10_bride_24 : decode cX10_bride 24 = .ok (.invokevirtual 290, 3) := by decide +kernel
theorem dX10_bride_27 : decode cX10_bride 27 = .ok (.aload_n 0, 1) := by decide +kernel
theorem dX10_bride_28 : decode cX10_bride 28 = .ok (.getfield 64, 3) := by decide +kernel
theorem dX10_bride_31 : decode cX10_bride 31 = .ok (.iload_n 1, 1) := by decide +kernel
theorem dX10_bride_32 : decode cX10_bride 32 = .ok (.invokevirtual 299, 3) := by decide +kernel
theorem dX10_bride_35 : decode cX10_bride 35 = .ok (.ireturn, 1) := by decide +kernel
theorem dX10_enough_0 : decode cX10_enough 0 = .ok (.aload_n 0, 1) := by decide +kernel
theorem dX10_enough_1 : decode cX10_enough 1 = .ok (.iload_n 1, 1) := by decide +kernel
theorem dX10_enough_2 : decode cX10_enough 2 = .ok (.ifCond .lt 20, 3) := by decide +kernel
theorem dX10_enough_5 : decode cX10_enough 5 = .ok (.iload_n 1, 1) := by decide +kernel
theorem dX10_enough_6 : decode cX10_enough 6 = .ok (.iconst 1, 1) := by decide +kernel
theorem dX10_enough_7 : decode cX10_enough 7 = .ok (.aload_n 0, 1) := by decide +kernel
theorem dX10_enough_8 : decode cX10_enough 8 = .ok (.getfield 82, 3) := by decide +kernel
theorem dX10_enough_11 : decode cX10_enough 11 = .ok (.getfield 168, 3) := by decide +kernel
theorem dX10_enough_14 : decode cX10_enough 14 = .ok (.ishl, 1) := by decide +kernel
theorem dX10_enough_15 : decode cX10_enough 15 = .ok (.if_icmp .ge 7, 3) := by decide +kernel
theorem dX10_enough_18 : decode cX10_enough 18 = .ok (.iconst 1, 1) := by decide +kernel
theorem dX10_enough_19 : decode cX10_enough 19 = .ok (.goto 4, 3) := by decide +kernel
theorem dX10_enough_22 : decode cX10_enough 22 = .ok (.iconst 0, 1) := by decide +kernel
theorem dX10_enough_23 : decode cX10_enough 23 = .ok (.invokevirtual 102, 3) := by decide +kernel
theorem dX10_enough_26 : decode cX10_enough 26 = .ok (.iconst 0, 1) := by decide +kernel
theorem dX10_enough_27 : decode cX10_enough 27 = .ok (.istore_n 2, 1) := by decide +kernel
theorem dX10_enough_28 : decode cX10_enough 28 = .ok (.iload_n 2, 1) := by decide +kernel
theorem dX10_enough_29 : decode cX10_enough 29 = .ok (.bipush 100, 2) := by decide +kernel
theorem dX10_enough_31 : decode cX10_enough 31 = .ok (.if_icmp .gt 20, 3) := by decide +kernel
theorem dX10_enough_34 : decode cX10_enough 34 = .ok (.aload_n 0, 1) := by decide +kernel
theorem dX10_enough_35 : decode cX10_enough 35 = .ok (.iload_n 1, 1) := by decide +kernel
theorem dX10_enough_36 : decode cX10_enough 36 = .ok (.iload_n 2, 1) := by decide +kernel
theorem dX10_enough_37 : decode cX10_enough 37 = .ok (.invokevirtual 302, 3) := by decide +kernel
theorem dX10_enough_40 : decode cX10_enough 40 = .ok (.ifCond .eq 5, 3) := by decide +kernel
theorem dX10_enough_43 : decode cX10_enough 43 = .ok (.iload_n 2, 1) := by decide +kernel
theorem dX10_enough_44 : decode cX10_enough 44 = .ok (.ireturn, 1) := by decide +kernel
theorem dX10_enough_45 : decode cX10_enough 45 = .ok (.iinc 2 1, 3) := by decide +kernel
theorem dX10_enough_48 : decode cX10_enough 48 = .ok (.goto (-20), 3) := by decide +kernel
theorem dX10_enough_51 : decode cX10_enough 51 = .ok (.iconst (-1), 1) := by decide +kernel
theorem dX10_enough_52 : decode cX10_enough 52 = .ok (.ireturn, 1) := by decide +kernel
theorem dX10_level_0 : decode cX10_level 0 = .ok (.aload_n 0, 1) := by decide +kernel
theorem dX10_level_1 : decode cX10_level 1 = .ok (.iload_n 1, 1) := by decide +kernel
theorem dX10_level_2 : decode cX10_level 2 = .ok (.invokestatic 226, 3) := by decide +kernel
theorem dX10_level_5 : decode cX10_level 5 = .ok (.invokevirtual 195, 3) := by decide +kernel
theorem dX10_level_8 : decode cX10_level 8 = .ok (.aload_n 0, 1) := by decide +kernel
theorem dX10_level_9 : decode cX10_level 9 = .ok (.iload_n 2, 1) := by decide +kernel
theorem dX10_level_10 : decode cX10_level 10 = .ok (.iconst 1, 1) := by decide +kernel
theorem dX10_level_11 : decode cX10_level 11 = .ok (.if_icmp .lt 13, 3) := by decide +kernel
theorem dX10_level_14 : decode cX10_level 14 = .ok (.iload_n 2, 1) := by decide +kernel
theorem dX10_level_15 : decode cX10_level 15 = .ok (.bipush 99, 2) := by decide +kernel
theorem dX10_level_17 : decode cX10_level 17 = .ok (.if_icmp .gt 7, 3) := by decide +kernel
theorem dX10_level_20 : decode cX10_level 20 = .ok (.iconst 1, 1) := by decide +kernel
theorem dX10_level_21 : decode cX10_level 21 = .ok (.goto 4, 3) := by decide +kernel
theorem dX10_level_24 : decode cX10_level 24 = .ok (.iconst 0, 1) := by decide +kernel
theorem dX10_level_25 : decode cX10_level 25 = .ok (.invokevirtual 102, 3) := by decide +kernel
theorem dX10_level_28 : decode cX10_level 28 = .ok (.bipush 9, 2) := by decide +kernel
theorem dX10_level_30 : decode cX10_level 30 = .ok (.istore_n 3, 1) := by decide +kernel
theorem dX10_level_31 : decode cX10_level 31 = .ok (.iload_n 3, 1) := by decide +kernel
theorem dX10_level_32 : decode cX10_level 32 = .ok (.ifCond .le 25, 3) := by decide +kernel
theorem dX10_level_35 : decode cX10_level 35 = .ok (.iload_n 3, 1) := by decide +kernel
theorem dX10_level_36 : decode cX10_level 36 = .ok (.iload_n 2, 1) := by decide +kernel
theorem dX10_level_37 : decode cX10_level 37 = .ok (.imul, 1) := by decide +kernel
theorem dX10_level_38 : decode cX10_level 38 = .ok (.aload_n 0, 1) := by decide +kernel
theorem dX10_level_39 : decode cX10_level 39 = .ok (.getfield 19, 3) := by decide +kernel
theorem dX10_level_42 : decode cX10_level 42 = .ok (.iload_n 1, 1) := by decide +kernel
theorem dX10_level_43 : decode cX10_level 43 = .ok (.invokevirtual 229, 3) := by decide +kernel
theorem dX10_level_46 : decode cX10_level 46 = .ok (.if_icmp .gt 5, 3) := by decide +kernel
theorem dX10_level_49 : decode cX10_level 49 = .ok (.iload_n 3, 1) := by decide +kernel
theorem dX10_level_50 : decode cX10_level 50 = .ok (.ireturn, 1) := by decide +kernel
theorem dX10_level_51 : decode cX10_level 51 = .ok (.iinc 3 (-1), 3) := by decide +kernel
theorem dX10_level_54 : decode cX10_level 54 = .ok (.goto (-23), 3) := by decide +kernel
theorem dX10_level_57 : decode cX10_level 57 = .ok (.iconst 0, 1) := by decide +kernel
theorem dX10_level_58 : decode cX10_level 58 = .ok (.ireturn, 1) := by decide +kernel
theorem dX10_night_0 : decode cX10_night 0 = .ok (.aload_n 0, 1) := by decide +kernel
theorem dX10_night_1 : decode cX10_night 1 = .ok (.iload_n 1, 1) := by decide +kernel
theorem dX10_night_2 : decode cX10_night 2 = .ok (.iconst 1, 1) := by decide +kernel
theorem dX10_night_3 : decode cX10_night 3 = .ok (.if_icmp .lt 20, 3) := by decide +kernel
theorem dX10_night_6 : decode cX10_night 6 = .ok (.iload_n 1, 1) := by decide +kernel
theorem dX10_night_7 : decode cX10_night 7 = .ok (.bipush 9, 2) := by decide +kernel
theorem dX10_night_9 : decode cX10_night 9 = .ok (.if_icmp .gt 14, 3) := by decide +kernel
theorem dX10_night_12 : decode cX10_night 12 = .ok (.iload_n 1, 1) := by decide +kernel
theorem dX10_night_13 : decode cX10_night 13 = .ok (.iconst 2, 1) := by decide +kernel
theorem dX10_night_14 : decode cX10_night 14 = .ok (.irem, 1) := by decide +kernel
theorem dX10_night_15 : decode cX10_night 15 = .ok (.iconst 1, 1) := by decide +kernel
theorem dX10_night_16 : decode cX10_night 16 = .ok (.if_icmp .ne 7, 3) := by decide +kernel
theorem dX10_night_19 : decode cX10_night 19 = .ok (.iconst 1, 1) := by decide +kernel
theorem dX10_night_20 : decode cX10_night 20 = .ok (.goto 4, 3) := by decide +kernel
theorem dX10_night_23 : decode cX10_night 23 = .ok (.iconst 0, 1) := by decide +kernel
theorem dX10_night_24 : decode cX10_night 24 = .ok (.invokevirtual 102, 3) := by decide +kernel
theorem dX10_night_27 : decode cX10_night 27 = .ok (.aload_n 0, 1) := by decide +kernel
theorem dX10_night_28 : decode cX10_night 28 = .ok (.iload_n 2, 1) := by decide +kernel
theorem dX10_night_29 : decode cX10_night 29 = .ok (.ifCond .lt 22, 3) := by decide +kernel
theorem dX10_night_32 : decode cX10_night 32 = .ok (.iload_n 2, 1) := by decide +kernel
theorem dX10_night_33 : decode cX10_night 33 = .ok (.bipush 16, 2) := by decide +kernel
theorem dX10_night_35 : decode cX10_night 35 = .ok (.if_icmp .gt 16, 3) := by decide +kernel
theorem dX10_night_38 : decode cX10_night 38 = .ok (.iload_n 3, 1) := by decide +kernel
theorem dX10_night_39 : decode cX10_night 39 = .ok (.ifCond .lt 12, 3) := by decide +kernel
theorem dX10_night_42 : decode cX10_night 42 = .ok (.iload_n 3, 1) := by decide +kernel
theorem dX10_night_43 : decode cX10_night 43 = .ok (.iconst 1, 1) := by decide +kernel
theorem dX10_night_44 : decode cX10_night 44 = .ok (.if_icmp .gt 7, 3) := by decide +kernel
theorem dX10_night_47 : decode cX10_night 47 = .ok (.iconst 1, 1) := by decide +kernel
theorem dX10_night_48 : decode cX10_night 48 = .ok (.goto 4, 3) := by decide +kernel
theorem dX10_night_51 : decode cX10_night 51 = .ok (.iconst 0, 1) := by decide +kernel
theorem dX10_night_52 : decode cX10_night 52 = .ok (.invokevirtual 102, 3) := by decide +kernel
theorem dX10_night_55 : decode cX10_night 55 = .ok (.iload_n 1, 1) := by decide +kernel
theorem dX10_night_56 : decode cX10_night 56 = .ok (.iload_n 2, 1) := by decide +kernel
theorem dX10_night_57 : decode cX10_night 57 = .ok (.invokestatic 305, 3) := by decide +kernel
theorem dX10_night_60 : decode cX10_night 60 = .ok (.lstore 4, 2) := by decide +kernel
theorem dX10_night_62 : decode cX10_night 62 = .ok (.bipush 16, 2) := by decide +kernel
theorem dX10_night_64 : decode cX10_night 64 = .ok (.iload_n 1, 1) := by decide +kernel
theorem dX10_night_65 : decode cX10_night 65 = .ok (.invokestatic 309, 3) := by decide +kernel
theorem dX10_night_68 : decode cX10_night 68 = .ok (.lstore 6, 2) := by decide +kernel
theorem dX10_night_70 : decode cX10_night 70 = .ok (.iconst 0, 1) := by decide +kernel
theorem dX10_night_71 : decode cX10_night 71 = .ok (.istore 8, 2) := by decide +kernel
theorem dX10_night_73 : decode cX10_night 73 = .ok (.iload 8, 2) := by decide +kernel
theorem dX10_night_75 : decode cX10_night 75 = .ok (.iconst 4, 1) := by decide +kernel
theorem dX10_night_76 : decode cX10_night 76 = .ok (.iload_n 1, 1) := by decide +kernel
theorem dX10_night_77 : decode cX10_night 77 = .ok (.imul, 1) := by decide +kernel
theorem dX10_night_78 : decode cX10_night 78 = .ok (.if_icmp .ge 36, 3) := by decide +kernel
theorem dX10_night_81 : decode cX10_night 81 = .ok (.lload 4, 2) := by decide +kernel
theorem dX10_night_83 : decode cX10_night 83 = .ok (.ldc2_w 312, 3) := by decide +kernel
theorem dX10_night_86 : decode cX10_night 86 = .ok (.lrem, 1) := by decide +kernel
theorem dX10_night_87 : decode cX10_night 87 = .ok (.lconst 0, 1) := by decide +kernel
theorem dX10_night_88 : decode cX10_night 88 = .ok (.lcmp, 1) := by decide +kernel
theorem dX10_night_89 : decode cX10_night 89 = .ok (.ifCond .ne 25, 3) := by decide +kernel
theorem dX10_night_92 : decode cX10_night 92 = .ok (.lload 4, 2) := by decide +kernel
theorem dX10_night_94 : decode cX10_night 94 = .ok (.ldc2_w 312, 3) := by decide +kernel
theorem dX10_night_97 : decode cX10_night 97 = .ok (.ldiv, 1) := by decide +kernel
theorem dX10_night_98 : decode cX10_night 98 = .ok (.lstore 4, 2) := by decide +kernel
theorem dX10_night_100 : decode cX10_night 100 = .ok (.lload 6, 2) := by decide +kernel
theorem dX10_night_102 : decode cX10_night 102 = .ok (.ldc2_w 312, 3) := by decide +kernel
theorem dX10_night_105 : decode cX10_night 105 = .ok (.ldiv, 1) := by decide +kernel
theorem dX10_night_106 : decode cX10_night 106 = .ok (.lstore 6, 2) := by decide +kernel
theorem dX10_night_108 : decode cX10_night 108 = .ok (.iinc 8 1, 3) := by decide +kernel
theorem dX10_night_111 : decode cX10_night 111 = .ok (.goto (-38), 3) := by decide +kernel
theorem dX10_night_114 : decode cX10_night 114 = .ok (.iload_n 3, 1) := by decide +kernel
theorem dX10_night_115 : decode cX10_night 115 = .ok (.ifCond .ne 8, 3) := by decide +kernel
theorem dX10_night_118 : decode cX10_night 118 = .ok (.lload 4, 2) := by decide +kernel
theorem dX10_night_120 : decode cX10_night 120 = .ok (.goto 5, 3) := by decide +kernel
theorem dX10_night_123 : decode cX10_night 123 = .ok (.lload 6, 2) := by decide +kernel
theorem dX10_night_125 : decode cX10_night 125 = .ok (.lreturn, 1) := by decide +kernel
theorem dX10_guilds_0 : decode cX10_guilds 0 = .ok (.aload_n 0, 1) := by decide +kernel
theorem dX10_guilds_1 : decode cX10_guilds 1 = .ok (.iload_n 1, 1) := by decide +kernel
theorem dX10_guilds_2 : decode cX10_guilds 2 = .ok (.ifCond .lt 12, 3) := by decide +kernel
theorem dX10_guilds_5 : decode cX10_guilds 5 = .ok (.iload_n 1, 1) := by decide +kernel
theorem dX10_guilds_6 : decode cX10_guilds 6 = .ok (.iconst 2, 1) := by decide +kernel
theorem dX10_guilds_7 : decode cX10_guilds 7 = .ok (.if_icmp .gt 7, 3) := by decide +kernel
theorem dX10_guilds_10 : decode cX10_guilds 10 = .ok (.iconst 1, 1) := by decide +kernel
theorem dX10_guilds_11 : decode cX10_guilds 11 = .ok (.goto 4, 3) := by decide +kernel
theorem dX10_guilds_14 : decode cX10_guilds 14 = .ok (.iconst 0, 1) := by decide +kernel
theorem dX10_guilds_15 : decode cX10_guilds 15 = .ok (.invokevirtual 102, 3) := by decide +kernel
theorem dX10_guilds_18 : decode cX10_guilds 18 = .ok (.aload_n 0, 1) := by decide +kernel
theorem dX10_guilds_19 : decode cX10_guilds 19 = .ok (.invokevirtual 314, 3) := by decide +kernel
theorem dX10_guilds_22 : decode cX10_guilds 22 = .ok (.iconst 0, 1) := by decide +kernel
theorem dX10_guilds_23 : decode cX10_guilds 23 = .ok (.istore_n 2, 1) := by decide +kernel
theorem dX10_guilds_24 : decode cX10_guilds 24 = .ok (.iconst (-1), 1) := by decide +kernel
theorem dX10_guilds_25 : decode cX10_guilds 25 = .ok (.istore_n 3, 1) := by decide +kernel
theorem dX10_guilds_26 : decode cX10_guilds 26 = .ok (.iconst 0, 1) := by decide +kernel
theorem dX10_guilds_27 : decode cX10_guilds 27 = .ok (.istore 4, 2) := by decide +kernel
theorem dX10_guilds_29 : decode cX10_guilds 29 = .ok (.iconst 0, 1) := by decide +kernel
theorem dX10_guilds_30 : decode cX10_guilds 30 = .ok (.istore 5, 2) := by decide +kernel
theorem dX10_guilds_32 : decode cX10_guilds 32 = .ok (.iload 5, 2) := by decide +kernel
theorem dX10_guilds_34 : decode cX10_guilds 34 = .ok (.aload_n 0, 1) := by decide +kernel
theorem dX10_guilds_35 : decode cX10_guilds 35 = .ok (.getfield 82, 3) := by decide +kernel
theorem dX10_guilds_38 : decode cX10_guilds 38 = .ok (.getfield 168, 3) := by decide +kernel
theorem dX10_guilds_41 : decode cX10_guilds 41 = .ok (.if_icmp .ge 76, 3) := by decide +kernel
theorem dX10_guilds_44 : decode cX10_guilds 44 = .ok (.iconst 0, 1) := by decide +kernel
theorem dX10_guilds_45 : decode cX10_guilds 45 = .ok (.istore 6, 2) := by decide +kernel
theorem dX10_guilds_47 : decode cX10_guilds 47 = .ok (.iload 6, 2) := by decide +kernel
theorem dX10_guilds_49 : decode cX10_guilds 49 = .ok (.aload_n 0, 1) := by decide +kernel
theorem dX10_guilds_50 : decode cX10_guilds 50 = .ok (.getfield 82, 3) := by decide +kernel
theorem dX10_guilds_53 : decode cX10_guilds 53 = .ok (.getfield 168, 3) := by decide +kernel
theorem dX10_guilds_56 : decode cX10_guilds 56 = .ok (.if_icmp .ge 55, 3) := by decide +kernel
theorem dX10_guilds_59 : decode cX10_guilds 59 = .ok (.aload_n 0, 1) := by decide +kernel
theorem dX10_guilds_60 : decode cX10_guilds 60 = .ok (.iload 5, 2) := by decide +kernel
theorem dX10_guilds_62 : decode cX10_guilds 62 = .ok (.iload 6, 2) := by decide +kernel
theorem dX10_guilds_64 : decode cX10_guilds 64 = .ok (.invokevirtual 317, 3) := by decide +kernel
theorem dX10_guilds_67 : decode cX10_guilds 67 = .ok (.ifCond .eq 38, 3) := by decide +kernel
theorem dX10_guilds_70 : decode cX10_guilds 70 = .ok (.iload_n 2, 1) := by decide +kernel
theorem dX10_guilds_71 : decode cX10_guilds 71 = .ok (.ifCond .ne 31, 3) := by decide +kernel
theorem dX10_guilds_74 : decode cX10_guilds 74 = .ok (.bipush 10, 2) := by decide +kernel
theorem dX10_guilds_76 : decode cX10_guilds 76 = .ok (.iload 5, 2) := by decide +kernel
theorem dX10_guilds_78 : decode cX10_guilds 78 = .ok (.imul, 1) := by decide +kernel
theorem dX10_guilds_79 : decode cX10_guilds 79 = .ok (.iload 6, 2) := by decide +kernel
theorem dX10_guilds_81 : decode cX10_guilds 81 = .ok (.iadd, 1) := by decide +kernel
theorem dX10_guilds_82 : decode cX10_guilds 82 = .ok (.istore_n 3, 1) := by decide +kernel
theorem dX10_guilds_83 : decode cX10_guilds 83 = .ok (.aload_n 0, 1) := by decide +kernel
theorem dX10_guilds_84 : decode cX10_guilds 84 = .ok (.iload 5, 2) := by decide +kernel
theorem dX10_guilds_86 : decode cX10_guilds 86 = .ok (.iload 6, 2) := by decide +kernel
theorem dX10_guilds_88 : decode cX10_guilds 88 = .ok (.invokevirtual 320, 3) := by decide +kernel
theorem dX10_guilds_91 : decode cX10_guilds 91 = .ok (.aload_n 0, 1) := by decide +kernel
theorem dX10_guilds_92 : decode cX10_guilds 92 = .ok (.iload 6, 2) := by decide +kernel
theorem dX10_guilds_94 : decode cX10_guilds 94 = .ok (.iload 5, 2) := by decide +kernel
theorem dX10_guilds_96 : decode cX10_guilds 96 = .ok (.invokevirtual 320, 3) := by decide +kernel
theorem dX10_guilds_99 : decode cX10_guilds 99 = .ok (.iadd, 1) := by decide +kernel
theorem dX10_guilds_100 : decode cX10_guilds 100 = .ok (.istore 4, 2) := by decide +kernel
theorem dX10_guilds_102 : decode cX10_guilds 102 = .ok (.iinc 2 1, 3) := by decide +kernel
theorem dX10_guilds_105 : decode cX10_guilds 105 = .ok (.iinc 6 1, 3) := by decide +kernel
theorem dX10_guilds_108 : decode cX10_guilds 108 = .ok (.goto (-61), 3) := by decide +kernel
theorem dX10_guilds_111 : decode cX10_guilds 111 = .ok (.iinc 5 1, 3) := by decide +kernel
theorem dX10_guilds_114 : decode cX10_guilds 114 = .ok (.goto (-82), 3) := by decide +kernel
theorem dX10_guilds_117 : decode cX10_guilds 117 = .ok (.iload_n 1, 1) := by decide +kernel
theorem dX10_guilds_118 : decode cX10_guilds 118 = .ok (.ifCond .ne 7, 3) := by decide +kernel
theorem dX10_guilds_121 : decode cX10_guilds 121 = .ok (.iload_n 2, 1) := by decide +kernel
theorem dX10_guilds_122 : decode cX10_guilds 122 = .ok (.goto 14, 3) := by decide +kernel
theorem dX10_guilds_125 : decode cX10_guilds 125 = .ok (.iload_n 1, 1) := by decide +kernel
theorem dX10_guilds_126 : decode cX10_guilds 126 = .ok (.iconst 1, 1) := by decide +kernel
theorem dX10_guilds_127 : decode cX10_guilds 127 = .ok (.if_icmp .ne 7, 3) := by decide +kernel
theorem dX10_guilds_130 : decode cX10_guilds 130 = .ok (.iload_n 3, 1) := by decide +kernel
theorem dX10_guilds_131 : decode cX10_guilds 131 = .ok (.goto 5, 3) := by decide +kernel
theorem dX10_guilds_134 : decode cX10_guilds 134 = .ok (.iload 4, 2) := by decide +kernel
theorem dX10_guilds_136 : decode cX10_guilds 136 = .ok (.ireturn, 1) := by decide +kernel
theorem dX10_follows_0 : decode cX10_follows 0 = .ok (.aload_n 0, 1) := by decide +kernel
theorem dX10_follows_1 : decode cX10_follows 1 = .ok (.aload_n 0, 1) := by decide +kernel
theorem dX10_follows_2 : decode cX10_follows 2 = .ok (.getfield 82, 3) := by decide +kernel
theorem dX10_follows_5 : decode cX10_follows 5 = .ok (.iload_n 1, 1) := by decide +kernel
theorem dX10_follows_6 : decode cX10_follows 6 = .ok (.invokevirtual 191, 3) := by decide +kernel
theorem dX10_follows_9 : decode cX10_follows 9 = .ok (.ifCond .eq 18, 3) := by decide +kernel
theorem dX10_follows_12 : decode cX10_follows 12 = .ok (.aload_n 0, 1) := by decide +kernel
theorem dX10_follows_13 : decode cX10_follows 13 = .ok (.getfield 82, 3) := by decide +kernel
theorem dX10_follows_16 : decode cX10_follows 16 = .ok (.iload_n 2, 1) := by decide +kernel
theorem dX10_follows_17 : decode cX10_follows 17 = .ok (.invokevirtual 191, 3) := by decide +kernel
theorem dX10_follows_20 : decode cX10_follows 20 = .ok (.ifCond .eq 7, 3) := by decide +kernel
theorem dX10_follows_23 : decode cX10_follows 23 = .ok (.iconst 1, 1) := by decide +kernel
theorem dX10_follows_24 : decode cX10_follows 24 = .ok (.goto 4, 3) := by decide +kernel
theorem dX10_follows_27 : decode cX10_follows 27 = .ok (.iconst 0, 1) := by decide +kernel
theorem dX10_follows_28 : decode cX10_follows 28 = .ok (.invokevirtual 195, 3) := by decide +kernel
theorem dX10_follows_31 : decode cX10_follows 31 = .ok (.aload_n 0, 1) := by decide +kernel
theorem dX10_follows_32 : decode cX10_follows 32 = .ok (.aload_n 0, 1) := by decide +kernel
theorem dX10_follows_33 : decode cX10_follows 33 = .ok (.getfield 82, 3) := by decide +kernel
theorem dX10_follows_36 : decode cX10_follows 36 = .ok (.iload_n 1, 1) := by decide +kernel
theorem dX10_follows_37 : decode cX10_follows 37 = .ok (.invokevirtual 198, 3) := by decide +kernel
theorem dX10_follows_40 : decode cX10_follows 40 = .ok (.aload_n 0, 1) := by decide +kernel
theorem dX10_follows_41 : decode cX10_follows 41 = .ok (.getfield 82, 3) := by decide +kernel
theorem dX10_follows_44 : decode cX10_follows 44 = .ok (.iload_n 2, 1) := by decide +kernel
theorem dX10_follows_45 : decode cX10_follows 45 = .ok (.invokevirtual 198, 3) := by decide +kernel
theorem dX10_follows_48 : decode cX10_follows 48 = .ok (.invokevirtual 323, 3) := by decide +kernel
theorem dX10_follows_51 : decode cX10_follows 51 = .ok (.ireturn, 1) := by decide +kernel
theorem dX10_ahead_0 : decode cX10_ahead 0 = .ok (.aload_n 0, 1) := by decide +kernel
theorem dX10_ahead_1 : decode cX10_ahead 1 = .ok (.iload_n 1, 1) := by decide +kernel
theorem dX10_ahead_2 : decode cX10_ahead 2 = .ok (.ifCond .lt 22, 3) := by decide +kernel
theorem dX10_ahead_5 : decode cX10_ahead 5 = .ok (.iload_n 1, 1) := by decide +kernel
theorem dX10_ahead_6 : decode cX10_ahead 6 = .ok (.bipush 100, 2) := by decide +kernel
theorem dX10_ahead_8 : decode cX10_ahead 8 = .ok (.if_icmp .gt 16, 3) := by decide +kernel
theorem dX10_ahead_11 : decode cX10_ahead 11 = .ok (.iload_n 2, 1) := by decide +kernel
theorem dX10_ahead_12 : decode cX10_ahead 12 = .ok (.ifCond .lt 12, 3) := by decide +kernel
theorem dX10_ahead_15 : decode cX10_ahead 15 = .ok (.iload_n 2, 1) := by decide +kernel
theorem dX10_ahead_16 : decode cX10_ahead 16 = .ok (.iconst 2, 1) := by decide +kernel
theorem dX10_ahead_17 : decode cX10_ahead 17 = .ok (.if_icmp .gt 7, 3) := by decide +kernel
theorem dX10_ahead_20 : decode cX10_ahead 20 = .ok (.iconst 1, 1) := by decide +kernel
theorem dX10_ahead_21 : decode cX10_ahead 21 = .ok (.goto 4, 3) := by decide +kernel
theorem dX10_ahead_24 : decode cX10_ahead 24 = .ok (.iconst 0, 1) := by decide +kernel
theorem dX10_ahead_25 : decode cX10_ahead 25 = .ok (.invokevirtual 102, 3) := by decide +kernel
theorem dX10_ahead_28 : decode cX10_ahead 28 = .ok (.aload_n 0, 1) := by decide +kernel
theorem dX10_ahead_29 : decode cX10_ahead 29 = .ok (.getfield 23, 3) := by decide +kernel
theorem dX10_ahead_32 : decode cX10_ahead 32 = .ok (.aload_n 0, 1) := by decide +kernel
theorem dX10_ahead_33 : decode cX10_ahead 33 = .ok (.getfield 19, 3) := by decide +kernel
theorem dX10_ahead_36 : decode cX10_ahead 36 = .ok (.invokevirtual 248, 3) := by decide +kernel
theorem dX10_ahead_39 : decode cX10_ahead 39 = .ok (.iconst 0, 1) := by decide +kernel
theorem dX10_ahead_40 : decode cX10_ahead 40 = .ok (.istore_n 3, 1) := by decide +kernel
theorem dX10_ahead_41 : decode cX10_ahead 41 = .ok (.iload_n 3, 1) := by decide +kernel
theorem dX10_ahead_42 : decode cX10_ahead 42 = .ok (.iload_n 1, 1) := by decide +kernel
theorem dX10_ahead_43 : decode cX10_ahead 43 = .ok (.if_icmp .ge 30, 3) := by decide +kernel
theorem dX10_ahead_46 : decode cX10_ahead 46 = .ok (.aload_n 0, 1) := by decide +kernel
theorem dX10_ahead_47 : decode cX10_ahead 47 = .ok (.getfield 23, 3) := by decide +kernel
theorem dX10_ahead_50 : decode cX10_ahead 50 = .ok (.aload_n 0, 1) := by decide +kernel
theorem dX10_ahead_51 : decode cX10_ahead 51 = .ok (.getfield 82, 3) := by decide +kernel
theorem dX10_ahead_54 : decode cX10_ahead 54 = .ok (.getfield 134, 3) := by decide +kernel
theorem dX10_ahead_57 : decode cX10_ahead 57 = .ok (.aload_n 0, 1) := by decide +kernel
theorem dX10_ahead_58 : decode cX10_ahead 58 = .ok (.getfield 82, 3) := by decide +kernel
theorem dX10_ahead_61 : decode cX10_ahead 61 = .ok (.getfield 188, 3) := by decide +kernel
theorem dX10_ahead_64 : decode cX10_ahead 64 = .ok (.invokevirtual 251, 3) := by decide +kernel
theorem dX10_ahead_67 : decode cX10_ahead 67 = .ok (.iinc 3 1, 3) := by decide +kernel
theorem dX10_ahead_70 : decode cX10_ahead 70 = .ok (.goto (-29), 3) := by decide +kernel
theorem dX10_ahead_73 : decode cX10_ahead 73 = .ok (.iload_n 2, 1) := by decide +kernel
theorem dX10_ahead_74 : decode cX10_ahead 74 = .ok (.lookupswitch 50 #[(0, 26), (1, 35)], 26) := by decide +kernel
theorem dX10_ahead_100 : decode cX10_ahead 100 = .ok (.aload_n 0, 1) := by decide +kernel
theorem dX10_ahead_101 : decode cX10_ahead 101 = .ok (.aload_n 0, 1) := by decide +kernel
theorem dX10_ahead_102 : decode cX10_ahead 102 = .ok (.getfield 23, 3) := by decide +kernel
theorem dX10_ahead_105 : decode cX10_ahead 105 = .ok (.invokevirtual 174, 3) := by decide +kernel
theorem dX10_ahead_108 : decode cX10_ahead 108 = .ok (.ireturn, 1) := by decide +kernel
theorem dX10_ahead_109 : decode cX10_ahead 109 = .ok (.aload_n 0, 1) := by decide +kernel
theorem dX10_ahead_110 : decode cX10_ahead 110 = .ok (.getfield 23, 3) := by decide +kernel
theorem dX10_ahead_113 : decode cX10_ahead 113 = .ok (.aload_n 0, 1) := by decide +kernel
theorem dX10_ahead_114 : decode cX10_ahead 114 = .ok (.getfield 82, 3) := by decide +kernel
theorem dX10_ahead_117 : decode cX10_ahead 117 = .ok (.getfield 134, 3) := by decide +kernel
theorem dX10_ahead_120 : decode cX10_ahead 120 = .ok (.invokevirtual 326, 3) := by decide +kernel
theorem dX10_ahead_123 : decode cX10_ahead 123 = .ok (.ireturn, 1) := by decide +kernel
theorem dX10_ahead_124 : decode cX10_ahead 124 = .ok (.aload_n 0, 1) := by decide +kernel
theorem dX10_ahead_125 : decode cX10_ahead 125 = .ok (.getfield 23, 3) := by decide +kernel
theorem dX10_ahead_128 : decode cX10_ahead 128 = .ok (.aload_n 0, 1) := by decide +kernel
theorem dX10_ahead_129 : decode cX10_ahead 129 = .ok (.getfield 82, 3) := by decide +kernel
theorem dX10_ahead_132 : decode cX10_ahead 132 = .ok (.getfield 134, 3) := by decide +kernel
theorem dX10_ahead_135 : decode cX10_ahead 135 = .ok (.invokevirtual 185, 3) := by decide +kernel
theorem dX10_ahead_138 : decode cX10_ahead 138 = .ok (.ireturn, 1) := by decide +kernel
theorem dX10_ages_0 : decode cX10_ages 0 = .ok (.aload_n 0, 1) := by decide +kernel
theorem dX10_ages_1 : decode cX10_ages 1 = .ok (.iload_n 2, 1) := by decide +kernel
theorem dX10_ages_2 : decode cX10_ages 2 = .ok (.ifCond .lt 35, 3) := by decide +kernel
theorem dX10_ages_5 : decode cX10_ages 5 = .ok (.iload_n 2, 1) := by decide +kernel
theorem dX10_ages_6 : decode cX10_ages 6 = .ok (.bipush 16, 2) := by decide +kernel
theorem dX10_ages_8 : decode cX10_ages 8 = .ok (.if_icmp .gt 29, 3) := by decide +kernel
theorem dX10_ages_11 : decode cX10_ages 11 = .ok (.iload_n 3, 1) := by decide +kernel
theorem dX10_ages_12 : decode cX10_ages 12 = .ok (.iconst 1, 1) := by decide +kernel
theorem dX10_ages_13 : decode cX10_ages 13 = .ok (.if_icmp .lt 24, 3) := by decide +kernel
theorem dX10_ages_16 : decode cX10_ages 16 = .ok (.iload_n 3, 1) := by decide +kernel
theorem dX10_ages_17 : decode cX10_ages 17 = .ok (.bipush 96, 2) := by decide +kernel
theorem dX10_ages_19 : decode cX10_ages 19 = .ok (.if_icmp .gt 18, 3) := by decide +kernel
theorem dX10_ages_22 : decode cX10_ages 22 = .ok (.iload 4, 2) := by decide +kernel
theorem dX10_ages_24 : decode cX10_ages 24 = .ok (.ifCond .lt 13, 3) := by decide +kernel
theorem dX10_ages_27 : decode cX10_ages 27 = .ok (.iload 4, 2) := by decide +kernel
theorem dX10_ages_29 : decode cX10_ages 29 = .ok (.iconst 3, 1) := by decide +kernel
theorem dX10_ages_30 : decode cX10_ages 30 = .ok (.if_icmp .gt 7, 3) := by decide +kernel
theorem dX10_ages_33 : decode cX10_ages 33 = .ok (.iconst 1, 1) := by decide +kernel
theorem dX10_ages_34 : decode cX10_ages 34 = .ok (.goto 4, 3) := by decide +kernel
theorem dX10_ages_37 : decode cX10_ages 37 = .ok (.iconst 0, 1) := by decide +kernel
theorem dX10_ages_38 : decode cX10_ages 38 = .ok (.invokevirtual 102, 3) := by decide +kernel
theorem dX10_ages_41 : decode cX10_ages 41 = .ok (.aload_n 0, 1) := by decide +kernel
theorem dX10_ages_42 : decode cX10_ages 42 = .ok (.getfield 23, 3) := by decide +kernel
theorem dX10_ages_45 : decode cX10_ages 45 = .ok (.aload_n 0, 1) := by decide +kernel
theorem dX10_ages_46 : decode cX10_ages 46 = .ok (.getfield 19, 3) := by decide +kernel
theorem dX10_ages_49 : decode cX10_ages 49 = .ok (.invokevirtual 248, 3) := by decide +kernel
theorem dX10_ages_52 : decode cX10_ages 52 = .ok (.aload_n 0, 1) := by decide +kernel
theorem dX10_ages_53 : decode cX10_ages 53 = .ok (.getfield 71, 3) := by decide +kernel
theorem dX10_ages_56 : decode cX10_ages 56 = .ok (.aload_n 0, 1) := by decide +kernel
theorem dX10_ages_57 : decode cX10_ages 57 = .ok (.getfield 82, 3) := by decide +kernel
theorem dX10_ages_60 : decode cX10_ages 60 = .ok (.aload_n 0, 1) := by decide +kernel
theorem dX10_ages_61 : decode cX10_ages 61 = .ok (.getfield 23, 3) := by decide +kernel
theorem dX10_ages_64 : decode cX10_ages 64 = .ok (.iload_n 1, 1) := by decide +kernel
theorem dX10_ages_65 : decode cX10_ages 65 = .ok (.iload_n 2, 1) := by decide +kernel
theorem dX10_ages_66 : decode cX10_ages 66 = .ok (.iload_n 3, 1) := by decide +kernel
theorem dX10_ages_67 : decode cX10_ages 67 = .ok (.invokevirtual 329, 3) := by decide +kernel
theorem dX10_ages_70 : decode cX10_ages 70 = .ok (.iload 4, 2) := by decide +kernel
theorem dX10_ages_72 : decode cX10_ages 72 = .ok (.tableswitch 53 0 2 #[28, 37, 45], 28) := by decide +kernel
theorem dX10_ages_100 : decode cX10_ages 100 = .ok (.aload_n 0, 1) := by decide +kernel
theorem dX10_ages_101 : decode cX10_ages 101 = .ok (.aload_n 0, 1) := by decide +kernel
theorem dX10_ages_102 : decode cX10_ages 102 = .ok (.getfield 23, 3) := by decide +kernel
theorem dX10_ages_105 : decode cX10_ages 105 = .ok (.invokevirtual 174, 3) := by decide +kernel
theorem dX10_ages_108 : decode cX10_ages 108 = .ok (.ireturn, 1) := by decide +kernel
theorem dX10_ages_109 : decode cX10_ages 109 = .ok (.aload_n 0, 1) := by decide +kernel
theorem dX10_ages_110 : decode cX10_ages 110 = .ok (.getfield 71, 3) := by decide +kernel
theorem dX10_ages_113 : decode cX10_ages 113 = .ok (.getfield 333, 3) := by decide +kernel
theorem dX10_ages_116 : decode cX10_ages 116 = .ok (.ireturn, 1) := by decide +kernel
theorem dX10_ages_117 : decode cX10_ages 117 = .ok (.aload_n 0, 1) := by decide +kernel
theorem dX10_ages_118 : decode cX10_ages 118 = .ok (.getfield 71, 3) := by decide +kernel
theorem dX10_ages_121 : decode cX10_ages 121 = .ok (.getfield 336, 3) := by decide +kernel
theorem dX10_ages_124 : decode cX10_ages 124 = .ok (.ireturn, 1) := by decide +kernel
theorem dX10_ages_125 : decode cX10_ages 125 = .ok (.aload_n 0, 1) := by decide +kernel
theorem dX10_ages_126 : decode cX10_ages 126 = .ok (.getfield 23, 3) := by decide +kernel
theorem dX10_ages_129 : decode cX10_ages 129 = .ok (.aload_n 0, 1) := by decide +kernel
theorem dX10_ages_130 : decode cX10_ages 130 = .ok (.getfield 82, 3) := by decide +kernel
theorem dX10_ages_133 : decode cX10_ages 133 = .ok (.getfield 134, 3) := by decide +kernel
theorem dX10_ages_136 : decode cX10_ages 136 = .ok (.invokevirtual 185, 3) := by decide +kernel
theorem dX10_ages_139 : decode cX10_ages 139 = .ok (.ireturn, 1) := by decide +kernel
theorem dX10_span_0 : decode cX10_span 0 = .ok (.aload_n 0, 1) := by decide +kernel
theorem dX10_span_1 : decode cX10_span 1 = .ok (.iload_n 2, 1) := by decide +kernel
theorem dX10_span_2 : decode cX10_span 2 = .ok (.iconst 1, 1) := by decide +kernel
theorem dX10_span_3 : decode cX10_span 3 = .ok (.if_icmp .lt 23, 3) := by decide +kernel
theorem dX10_span_6 : decode cX10_span 6 = .ok (.iload_n 2, 1) := by decide +kernel
theorem dX10_span_7 : decode cX10_span 7 = .ok (.bipush 20, 2) := by decide +kernel
theorem dX10_span_9 : decode cX10_span 9 = .ok (.if_icmp .gt 17, 3) := by decide +kernel
theorem dX10_span_12 : decode cX10_span 12 = .ok (.iload_n 3, 1) := by decide +kernel
theorem dX10_span_13 : decode cX10_span 13 = .ok (.ifCond .lt 13, 3) := by decide +kernel
theorem dX10_span_16 : decode cX10_span 16 = .ok (.iload_n 3, 1) := by decide +kernel
theorem dX10_span_17 : decode cX10_span 17 = .ok (.bipush 16, 2) := by decide +kernel
theorem dX10_span_19 : decode cX10_span 19 = .ok (.if_icmp .gt 7, 3) := by decide +kernel
theorem dX10_span_22 : decode cX10_span 22 = .ok (.iconst 1, 1) := by decide +kernel
theorem dX10_span_23 : decode cX10_span 23 = .ok (.goto 4, 3) := by decide +kernel
theorem dX10_span_26 : decode cX10_span 26 = .ok (.iconst 0, 1) := by decide +kernel
theorem dX10_span_27 : decode cX10_span 27 = .ok (.invokevirtual 102, 3) := by decide +kernel
theorem dX10_span_30 : decode cX10_span 30 = .ok (.aload_n 0, 1) := by decide +kernel
theorem dX10_span_31 : decode cX10_span 31 = .ok (.iload 4, 2) := by decide +kernel
theorem dX10_span_33 : decode cX10_span 33 = .ok (.iconst 1, 1) := by decide +kernel
theorem dX10_span_34 : decode cX10_span 34 = .ok (.if_icmp .lt 25, 3) := by decide +kernel
theorem dX10_span_37 : decode cX10_span 37 = .ok (.iload 4, 2) := by decide +kernel
theorem dX10_span_39 : decode cX10_span 39 = .ok (.bipush 96, 2) := by decide +kernel
theorem dX10_span_41 : decode cX10_span 41 = .ok (.if_icmp .gt 18, 3) := by decide +kernel
theorem dX10_span_44 : decode cX10_span 44 = .ok (.iload 5, 2) := by decide +kernel
theorem dX10_span_46 : decode cX10_span 46 = .ok (.ifCond .lt 13, 3) := by decide +kernel
theorem dX10_span_49 : decode cX10_span 49 = .ok (.iload 5, 2) := by decide +kernel
theorem dX10_span_51 : decode cX10_span 51 = .ok (.iconst 2, 1) := by decide +kernel
theorem dX10_span_52 : decode cX10_span 52 = .ok (.if_icmp .gt 7, 3) := by decide +kernel
theorem dX10_span_55 : decode cX10_span 55 = .ok (.iconst 1, 1) := by decide +kernel
theorem dX10_span_56 : decode cX10_span 56 = .ok (.goto 4, 3) := by decide +kernel
theorem dX10_span_59 : decode cX10_span 59 = .ok (.iconst 0, 1) := by decide +kernel
theorem dX10_span_60 : decode cX10_span 60 = .ok (.invokevirtual 102, 3) := by decide +kernel
theorem dX10_span_63 : decode cX10_span 63 = .ok (.bipush 8, 2) := by decide +kernel
theorem dX10_span_65 : decode cX10_span 65 = .ok (.istore 6, 2) := by decide +kernel
theorem dX10_span_67 : decode cX10_span 67 = .ok (.iconst 0, 1) := by decide +kernel
theorem dX10_span_68 : decode cX10_span 68 = .ok (.istore 7, 2) := by decide +kernel
theorem dX10_span_70 : decode cX10_span 70 = .ok (.iconst 0, 1) := by decide +kernel
theorem dX10_span_71 : decode cX10_span 71 = .ok (.istore 8, 2) := by decide +kernel
theorem dX10_span_73 : decode cX10_span 73 = .ok (.iconst 0, 1) := by decide +kernel
theorem dX10_span_74 : decode cX10_span 74 = .ok (.istore 9, 2) := by decide +kernel
theorem dX10_span_76 : decode cX10_span 76 = .ok (.iload 9, 2) := by decide +kernel
theorem dX10_span_78 : decode cX10_span 78 = .ok (.iload_n 2, 1) := by decide +kernel
theorem dX10_span_79 : decode cX10_span 79 = .ok (.if_icmp .ge 90, 3) := by decide +kernel
theorem dX10_span_82 : decode cX10_span 82 = .ok (.aload_n 0, 1) := by decide +kernel
theorem dX10_span_83 : decode cX10_span 83 = .ok (.getfield 23, 3) := by decide +kernel
theorem dX10_span_86 : decode cX10_span 86 = .ok (.aload_n 0, 1) := by decide +kernel
theorem dX10_span_87 : decode cX10_span 87 = .ok (.getfield 19, 3) := by decide +kernel
theorem dX10_span_90 : decode cX10_span 90 = .ok (.invokevirtual 248, 3) := by decide +kernel
theorem dX10_span_93 : decode cX10_span 93 = .ok (.aload_n 0, 1) := by decide +kernel
theorem dX10_span_94 : decode cX10_span 94 = .ok (.getfield 71, 3) := by decide +kernel
theorem dX10_span_97 : decode cX10_span 97 = .ok (.aload_n 0, 1) := by decide +kernel
theorem dX10_span_98 : decode cX10_span 98 = .ok (.getfield 82, 3) := by decide +kernel
theorem dX10_span_101 : decode cX10_span 101 = .ok (.aload_n 0, 1) := by decide +kernel
theorem dX10_span_102 : decode cX10_span 102 = .ok (.getfield 23, 3) := by decide +kernel
theorem dX10_span_105 : decode cX10_span 105 = .ok (.iload_n 1, 1) := by decide +kernel
theorem dX10_span_106 : decode cX10_span 106 = .ok (.iload 9, 2) := by decide +kernel
theorem dX10_span_108 : decode cX10_span 108 = .ok (.iadd, 1) := by decide +kernel
theorem dX10_span_109 : decode cX10_span 109 = .ok (.iload_n 3, 1) := by decide +kernel
theorem dX10_span_110 : decode cX10_span 110 = .ok (.iload 4, 2) := by decide +kernel
theorem dX10_span_112 : decode cX10_span 112 = .ok (.invokevirtual 329, 3) := by decide +kernel
theorem dX10_span_115 : decode cX10_span 115 = .ok (.aload_n 0, 1) := by decide +kernel
theorem dX10_span_116 : decode cX10_span 116 = .ok (.getfield 23, 3) := by decide +kernel
theorem dX10_span_119 : decode cX10_span 119 = .ok (.aload_n 0, 1) := by decide +kernel
theorem dX10_span_120 : decode cX10_span 120 = .ok (.getfield 82, 3) := by decide +kernel
theorem dX10_span_123 : decode cX10_span 123 = .ok (.getfield 134, 3) := by decide +kernel
theorem dX10_span_126 : decode cX10_span 126 = .ok (.invokevirtual 185, 3) := by decide +kernel
theorem dX10_span_129 : decode cX10_span 129 = .ok (.istore 10, 2) := by decide +kernel
theorem dX10_span_131 : decode cX10_span 131 = .ok (.iload 6, 2) := by decide +kernel
theorem dX10_span_133 : decode cX10_span 133 = .ok (.iload 10, 2) := by decide +kernel
theorem dX10_span_135 : decode cX10_span 135 = .ok (.invokestatic 339, 3) := by decide +kernel
theorem dX10_span_138 : decode cX10_span 138 = .ok (.istore 6, 2) := by decide +kernel
theorem dX10_span_140 : decode cX10_span 140 = .ok (.iload 7, 2) := by decide +kernel
theorem dX10_span_142 : decode cX10_span 142 = .ok (.iload 10, 2) := by decide +kernel
theorem dX10_span_144 : decode cX10_span 144 = .ok (.invokestatic 344, 3) := by decide +kernel
theorem dX10_span_147 : decode cX10_span 147 = .ok (.istore 7, 2) := by decide +kernel
theorem dX10_span_149 : decode cX10_span 149 = .ok (.aload_n 0, 1) := by decide +kernel
theorem dX10_span_150 : decode cX10_span 150 = .ok (.aload_n 0, 1) := by decide +kernel
theorem dX10_span_151 : decode cX10_span 151 = .ok (.getfield 23, 3) := by decide +kernel
theorem dX10_span_154 : decode cX10_span 154 = .ok (.invokevirtual 174, 3) := by decide +kernel
theorem dX10_span_157 : decode cX10_span 157 = .ok (.ifCond .ne 6, 3) := by decide +kernel
theorem dX10_span_160 : decode cX10_span 160 = .ok (.iinc 8 1, 3) := by decide +kernel
theorem dX10_span_163 : decode cX10_span 163 = .ok (.iinc 9 1, 3) := by decide +kernel
theorem dX10_span_166 : decode cX10_span 166 = .ok (.goto (-90), 3) := by decide +kernel
theorem dX10_span_169 : decode cX10_span 169 = .ok (.iload 5, 2) := by decide +kernel
theorem dX10_span_171 : decode cX10_span 171 = .ok (.ifCond .ne 8, 3) := by decide +kernel
theorem dX10_span_174 : decode cX10_span 174 = .ok (.iload 6, 2) := by decide +kernel
theorem dX10_span_176 : decode cX10_span 176 = .ok (.goto 16, 3) := by decide +kernel
theorem dX10_span_179 : decode cX10_span 179 = .ok (.iload 5, 2) := by decide +kernel
theorem dX10_span_181 : decode cX10_span 181 = .ok (.iconst 1, 1) := by decide +kernel
theorem dX10_span_182 : decode cX10_span 182 = .ok (.if_icmp .ne 8, 3) := by decide +kernel
theorem dX10_span_185 : decode cX10_span 185 = .ok (.iload 7, 2) := by decide +kernel
theorem dX10_span_187 : decode cX10_span 187 = .ok (.goto 5, 3) := by decide +kernel
theorem dX10_span_190 : decode cX10_span 190 = .ok (.iload 8, 2) := by decide +kernel
theorem dX10_span_192 : decode cX10_span 192 = .ok (.ireturn, 1) := by decide +kernel
theorem dX10_image_0 : decode cX10_image 0 = .ok (.aload_n 0, 1) := by decide +kernel
theorem dX10_image_1 : decode cX10_image 1 = .ok (.getfield 50, 3) := by decide +kernel
theorem dX10_image_4 : decode cX10_image 4 = .ok (.getfield 347, 3) := by decide +kernel
theorem dX10_image_7 : decode cX10_image 7 = .ok (.iconst 3, 1) := by decide +kernel
theorem dX10_image_8 : decode cX10_image 8 = .ok (.if_icmp .lt 5, 3) := by decide +kernel
theorem dX10_image_11 : decode cX10_image 11 = .ok (.iconst (-1), 1) := by decide +kernel
theorem dX10_image_12 : decode cX10_image 12 = .ok (.ireturn, 1) := by decide +kernel
theorem dX10_image_13 : decode cX10_image 13 = .ok (.aload_n 0, 1) := by decide +kernel
theorem dX10_image_14 : decode cX10_image 14 = .ok (.getfield 50, 3) := by decide +kernel
theorem dX10_image_17 : decode cX10_image 17 = .ok (.aload_n 0, 1) := by decide +kernel
theorem dX10_image_18 : decode cX10_image 18 = .ok (.getfield 19, 3) := by decide +kernel
theorem dX10_image_21 : decode cX10_image 21 = .ok (.invokevirtual 350, 3) := by decide +kernel
theorem dX10_image_24 : decode cX10_image 24 = .ok (.aload_n 0, 1) := by decide +kernel
theorem dX10_image_25 : decode cX10_image 25 = .ok (.getfield 50, 3) := by decide +kernel
theorem dX10_image_28 : decode cX10_image 28 = .ok (.getfield 347, 3) := by decide +kernel
theorem dX10_image_31 : decode cX10_image 31 = .ok (.ireturn, 1) := by decide +kernel
theorem dX10_restore_0 : decode cX10_restore 0 = .ok (.aload_n 0, 1) := by decide +kernel
theorem dX10_restore_1 : decode cX10_restore 1 = .ok (.getfield 50, 3) := by decide +kernel
theorem dX10_restore_4 : decode cX10_restore 4 = .ok (.getfield 347, 3) := by decide +kernel
theorem dX10_restore_7 : decode cX10_restore 7 = .ok (.ifCond .gt 5, 3) := by decide +kernel
theorem dX10_restore_10 : decode cX10_restore 10 = .ok (.iconst (-1), 1) := by decide +kernel
theorem dX10_restore_11 : decode cX10_restore 11 = .ok (.ireturn, 1) := by decide +kernel
theorem dX10_restore_12 : decode cX10_restore 12 = .ok (.aload_n 0, 1) := by decide +kernel
theorem dX10_restore_13 : decode cX10_restore 13 = .ok (.getfield 50, 3) := by decide +kernel
theorem dX10_restore_16 : decode cX10_restore 16 = .ok (.aload_n 0, 1) := by decide +kernel
theorem dX10_restore_17 : decode cX10_restore 17 = .ok (.getfield 19, 3) := by decide +kernel
theorem dX10_restore_20 : decode cX10_restore 20 = .ok (.invokevirtual 353, 3) := by decide +kernel
theorem dX10_restore_23 : decode cX10_restore 23 = .ok (.aload_n 0, 1) := by decide +kernel
theorem dX10_restore_24 : decode cX10_restore 24 = .ok (.iconst 0, 1) := by decide +kernel
theorem dX10_restore_25 : decode cX10_restore 25 = .ok (.putfield 131, 3) := by decide +kernel
theorem dX10_restore_28 : decode cX10_restore 28 = .ok (.aload_n 0, 1) := by decide +kernel
theorem dX10_restore_29 : decode cX10_restore 29 = .ok (.getfield 50, 3) := by decide +kernel
theorem dX10_restore_32 : decode cX10_restore 32 = .ok (.getfield 347, 3) := by decide +kernel
theorem dX10_restore_35 : decode cX10_restore 35 = .ok (.ireturn, 1) := by decide +kernel
theorem dX10_status_0 : decode cX10_status 0 = .ok (.iload_n 1, 1) := by decide +kernel
theorem dX10_status_1 : decode cX10_status 1 = .ok (.lookupswitch 37 #[(0, 27), (1, 32)], 27) := by decide +kernel
theorem dX10_status_28 : decode cX10_status 28 = .ok (.aload_n 0, 1) := by decide +kernel
theorem dX10_status_29 : decode cX10_status 29 = .ok (.getfield 356, 3) := by decide +kernel
theorem dX10_status_32 : decode cX10_status 32 = .ok (.ireturn, 1) := by decide +kernel
theorem dX10_status_33 : decode cX10_status 33 = .ok (.aload_n 0, 1) := by decide +kernel
theorem dX10_status_34 : decode cX10_status 34 = .ok (.getfield 359, 3) := by decide +kernel
theorem dX10_status_37 : decode cX10_status 37 = .ok (.ireturn, 1) := by decide +kernel
theorem dX10_status_38 : decode cX10_status 38 = .ok (.iconst (-1), 1) := by decide +kernel
theorem dX10_status_39 : decode cX10_status 39 = .ok (.ireturn, 1) := by decide +kernel
theorem dX10_count_0 : decode cX10_count 0 = .ok (.iload_n 1, 1) := by decide +kernel
theorem dX10_count_1 : decode cX10_count 1 = .ok (.tableswitch 51 0 2 #[27, 35, 43], 27) := by decide +kernel
theorem dX10_count_28 : decode cX10_count 28 = .ok (.aload_n 0, 1) := by decide +kernel
theorem dX10_count_29 : decode cX10_count 29 = .ok (.getfield 50, 3) := by decide +kernel
theorem dX10_count_32 : decode cX10_count 32 = .ok (.getfield 347, 3) := by decide +kernel
theorem dX10_count_35 : decode cX10_count 35 = .ok (.ireturn, 1) := by decide +kernel
theorem dX10_count_36 : decode cX10_count 36 = .ok (.aload_n 0, 1) := by decide +kernel
theorem dX10_count_37 : decode cX10_count 37 = .ok (.getfield 12, 3) := by decide +kernel
theorem dX10_count_40 : decode cX10_count 40 = .ok (.getfield 94, 3) := by decide +kernel
theorem dX10_count_43 : decode cX10_count 43 = .ok (.ireturn, 1) := by decide +kernel
theorem dX10_count_44 : decode cX10_count 44 = .ok (.aload_n 0, 1) := by decide +kernel
theorem dX10_count_45 : decode cX10_count 45 = .ok (.getfield 50, 3) := by decide +kernel
theorem dX10_count_48 : decode cX10_count 48 = .ok (.getfield 138, 3) := by decide +kernel
theorem dX10_count_51 : decode cX10_count 51 = .ok (.ireturn, 1) := by decide +kernel
theorem dX10_count_52 : decode cX10_count 52 = .ok (.iconst (-1), 1) := by decide +kernel
theorem dX10_count_53 : decode cX10_count 53 = .ok (.ireturn, 1) := by decide +kernel
theorem dX10_demand_0 : decode cX10_demand 0 = .ok (.iload_n 1, 1) := by decide +kernel
theorem dX10_demand_1 : decode cX10_demand 1 = .ok (.ifCond .ne 21, 3) := by decide +kernel
theorem dX10_demand_4 : decode cX10_demand 4 = .ok (.aload_n 0, 1) := by decide +kernel
theorem dX10_demand_5 : decode cX10_demand 5 = .ok (.dup, 1) := by decide +kernel
theorem dX10_demand_6 : decode cX10_demand 6 = .ok (.getfield 359, 3) := by decide +kernel
theorem dX10_demand_9 : decode cX10_demand 9 = .ok (.iconst 1, 1) := by decide +kernel
theorem dX10_demand_10 : decode cX10_demand 10 = .ok (.iadd, 1) := by decide +kernel
theorem dX10_demand_11 : decode cX10_demand 11 = .ok (.putfield 359, 3) := by decide +kernel
theorem dX10_demand_14 : decode cX10_demand 14 = .ok (.new 362, 3) := by decide +kernel
theorem dX10_demand_17 : decode cX10_demand 17 = .ok (.dup, 1) := by decide +kernel
theorem dX10_demand_18 : decode cX10_demand 18 = .ok (.invokespecial 364, 3) := by decide +kernel
theorem dX10_demand_21 : decode cX10_demand 21 = .ok (.athrow, 1) := by decide +kernel
theorem dX10_demand_22 : decode cX10_demand 22 = .ok (.return_, 1) := by decide +kernel
theorem dX10_demandThere_0 : decode cX10_demandThere 0 = .ok (.iload_n 1, 1) := by decide +kernel
theorem dX10_demandThere_1 : decode cX10_demandThere 1 = .ok (.ifCond .ne 21, 3) := by decide +kernel
theorem dX10_demandThere_4 : decode cX10_demandThere 4 = .ok (.aload_n 0, 1) := by decide +kernel
theorem dX10_demandThere_5 : decode cX10_demandThere 5 = .ok (.dup, 1) := by decide +kernel
theorem dX10_demandThere_6 : decode cX10_demandThere 6 = .ok (.getfield 356, 3) := by decide +kernel
theorem dX10_demandThere_9 : decode cX10_demandThere 9 = .ok (.iconst 1, 1) := by decide +kernel
theorem dX10_demandThere_10 : decode cX10_demandThere 10 = .ok (.iadd, 1) := by decide +kernel
theorem dX10_demandThere_11 : decode cX10_demandThere 11 = .ok (.putfield 356, 3) := by decide +kernel
theorem dX10_demandThere_14 : decode cX10_demandThere 14 = .ok (.new 365, 3) := by decide +kernel
theorem dX10_demandThere_17 : decode cX10_demandThere 17 = .ok (.dup, 1) := by decide +kernel
theorem dX10_demandThere_18 : decode cX10_demandThere 18 = .ok (.invokespecial 367, 3) := by decide +kernel
theorem dX10_demandThere_21 : decode cX10_demandThere 21 = .ok (.athrow, 1) := by decide +kernel
theorem dX10_demandThere_22 : decode cX10_demandThere 22 = .ok (.return_, 1) := by decide +kernel
theorem dX10_isSeated_0 : decode cX10_isSeated 0 = .ok (.aload_n 1, 1) := by decide +kernel
theorem dX10_isSeated_1 : decode cX10_isSeated 1 = .ok (.iload_n 2, 1) := by decide +kernel
theorem dX10_isSeated_2 : decode cX10_isSeated 2 = .ok (.iconst 0, 1) := by decide +kernel
theorem dX10_isSeated_3 : decode cX10_isSeated 3 = .ok (.invokevirtual 216, 3) := by decide +kernel
theorem dX10_isSeated_6 : decode cX10_isSeated 6 = .ok (.istore_n 3, 1) := by decide +kernel
theorem dX10_isSeated_7 : decode cX10_isSeated 7 = .ok (.aload_n 0, 1) := by decide +kernel
theorem dX10_isSeated_8 : decode cX10_isSeated 8 = .ok (.getfield 82, 3) := by decide +kernel
theorem dX10_isSeated_11 : decode cX10_isSeated 11 = .ok (.iload_n 3, 1) := by decide +kernel
theorem dX10_isSeated_12 : decode cX10_isSeated 12 = .ok (.invokevirtual 219, 3) := by decide +kernel
theorem dX10_isSeated_15 : decode cX10_isSeated 15 = .ok (.istore 4, 2) := by decide +kernel
theorem dX10_isSeated_17 : decode cX10_isSeated 17 = .ok (.iload 4, 2) := by decide +kernel
theorem dX10_isSeated_19 : decode cX10_isSeated 19 = .ok (.aload_n 0, 1) := by decide +kernel
theorem dX10_isSeated_20 : decode cX10_isSeated 20 = .ok (.getfield 82, 3) := by decide +kernel
theorem dX10_isSeated_23 : decode cX10_isSeated 23 = .ok (.iload_n 2, 1) := by decide +kernel
theorem dX10_isSeated_24 : decode cX10_isSeated 24 = .ok (.invokevirtual 213, 3) := by decide +kernel
theorem dX10_isSeated_27 : decode cX10_isSeated 27 = .ok (.if_icmp .ne 7, 3) := by decide +kernel
theorem dX10_isSeated_30 : decode cX10_isSeated 30 = .ok (.iconst 1, 1) := by decide +kernel
theorem dX10_isSeated_31 : decode cX10_isSeated 31 = .ok (.goto 4, 3) := by decide +kernel
theorem dX10_isSeated_34 : decode cX10_isSeated 34 = .ok (.iconst 0, 1) := by decide +kernel
theorem dX10_isSeated_35 : decode cX10_isSeated 35 = .ok (.istore 5, 2) := by decide +kernel
theorem dX10_isSeated_37 : decode cX10_isSeated 37 = .ok (.aload_n 0, 1) := by decide +kernel
theorem dX10_isSeated_38 : decode cX10_isSeated 38 = .ok (.getfield 29, 3) := by decide +kernel
theorem dX10_isSeated_41 : decode cX10_isSeated 41 = .ok (.iload_n 3, 1) := by decide +kernel
theorem dX10_isSeated_42 : decode cX10_isSeated 42 = .ok (.aload_n 1, 1) := by decide +kernel
theorem dX10_isSeated_43 : decode cX10_isSeated 43 = .ok (.iload_n 2, 1) := by decide +kernel
theorem dX10_isSeated_44 : decode cX10_isSeated 44 = .ok (.iconst 1, 1) := by decide +kernel
theorem dX10_isSeated_45 : decode cX10_isSeated 45 = .ok (.invokevirtual 216, 3) := by decide +kernel
theorem dX10_isSeated_48 : decode cX10_isSeated 48 = .ok (.aload_n 0, 1) := by decide +kernel
theorem dX10_isSeated_49 : decode cX10_isSeated 49 = .ok (.getfield 82, 3) := by decide +kernel
theorem dX10_isSeated_52 : decode cX10_isSeated 52 = .ok (.iload 4, 2) := by decide +kernel
theorem dX10_isSeated_54 : decode cX10_isSeated 54 = .ok (.invokevirtual 201, 3) := by decide +kernel
theorem dX10_isSeated_57 : decode cX10_isSeated 57 = .ok (.aload_n 1, 1) := by decide +kernel
theorem dX10_isSeated_58 : decode cX10_isSeated 58 = .ok (.iload_n 2, 1) := by decide +kernel
theorem dX10_isSeated_59 : decode cX10_isSeated 59 = .ok (.iconst 4, 1) := by decide +kernel
theorem dX10_isSeated_60 : decode cX10_isSeated 60 = .ok (.invokevirtual 216, 3) := by decide +kernel
theorem dX10_isSeated_63 : decode cX10_isSeated 63 = .ok (.aload_n 1, 1) := by decide +kernel
theorem dX10_isSeated_64 : decode cX10_isSeated 64 = .ok (.invokevirtual 171, 3) := by decide +kernel
theorem dX10_isSeated_67 : decode cX10_isSeated 67 = .ok (.iload 5, 2) := by decide +kernel
theorem dX10_isSeated_69 : decode cX10_isSeated 69 = .ok (.invokevirtual 235, 3) := by decide +kernel
theorem dX10_isSeated_72 : decode cX10_isSeated 72 = .ok (.ireturn, 1) := by decide +kernel
theorem dX10_seated_0 : decode cX10_seated 0 = .ok (.iconst 0, 1) := by decide +kernel
theorem dX10_seated_1 : decode cX10_seated 1 = .ok (.istore_n 2, 1) := by decide +kernel
theorem dX10_seated_2 : decode cX10_seated 2 = .ok (.iconst 0, 1) := by decide +kernel
theorem dX10_seated_3 : decode cX10_seated 3 = .ok (.istore_n 3, 1) := by decide +kernel
theorem dX10_seated_4 : decode cX10_seated 4 = .ok (.iload_n 3, 1) := by decide +kernel
theorem dX10_seated_5 : decode cX10_seated 5 = .ok (.aload_n 0, 1) := by decide +kernel
theorem dX10_seated_6 : decode cX10_seated 6 = .ok (.getfield 82, 3) := by decide +kernel
theorem dX10_seated_9 : decode cX10_seated 9 = .ok (.getfield 134, 3) := by decide +kernel
theorem dX10_seated_12 : decode cX10_seated 12 = .ok (.if_icmp .ge 21, 3) := by decide +kernel
theorem dX10_seated_15 : decode cX10_seated 15 = .ok (.aload_n 0, 1) := by decide +kernel
theorem dX10_seated_16 : decode cX10_seated 16 = .ok (.aload_n 1, 1) := by decide +kernel
theorem dX10_seated_17 : decode cX10_seated 17 = .ok (.iload_n 3, 1) := by decide +kernel
theorem dX10_seated_18 : decode cX10_seated 18 = .ok (.invokevirtual 222, 3) := by decide +kernel
theorem dX10_seated_21 : decode cX10_seated 21 = .ok (.ifCond .eq 6, 3) := by decide +kernel
theorem dX10_seated_24 : decode cX10_seated 24 = .ok (.iinc 2 1, 3) := by decide +kernel
theorem dX10_seated_27 : decode cX10_seated 27 = .ok (.iinc 3 1, 3) := by decide +kernel
theorem dX10_seated_30 : decode cX10_seated 30 = .ok (.goto (-26), 3) := by decide +kernel
theorem dX10_seated_33 : decode cX10_seated 33 = .ok (.iload_n 2, 1) := by decide +kernel
theorem dX10_seated_34 : decode cX10_seated 34 = .ok (.ireturn, 1) := by decide +kernel
theorem dX10_seeming_0 : decode cX10_seeming 0 = .ok (.iconst 0, 1) := by decide +kernel
theorem dX10_seeming_1 : decode cX10_seeming 1 = .ok (.istore_n 2, 1) := by decide +kernel
theorem dX10_seeming_2 : decode cX10_seeming 2 = .ok (.iconst 0, 1) := by decide +kernel
theorem dX10_seeming_3 : decode cX10_seeming 3 = .ok (.istore_n 3, 1) := by decide +kernel
theorem dX10_seeming_4 : decode cX10_seeming 4 = .ok (.iload_n 3, 1) := by decide +kernel
theorem dX10_seeming_5 : decode cX10_seeming 5 = .ok (.aload_n 0, 1) := by decide +kernel
theorem dX10_seeming_6 : decode cX10_seeming 6 = .ok (.getfield 82, 3) := by decide +kernel
theorem dX10_seeming_9 : decode cX10_seeming 9 = .ok (.getfield 134, 3) := by decide +kernel
theorem dX10_seeming_12 : decode cX10_seeming 12 = .ok (.if_icmp .ge 32, 3) := by decide +kernel
theorem dX10_seeming_15 : decode cX10_seeming 15 = .ok (.aload_n 0, 1) := by decide +kernel
theorem dX10_seeming_16 : decode cX10_seeming 16 = .ok (.getfield 82, 3) := by decide +kernel
theorem dX10_seeming_19 : decode cX10_seeming 19 = .ok (.aload_n 0, 1) := by decide +kernel
theorem dX10_seeming_20 : decode cX10_seeming 20 = .ok (.getfield 19, 3) := by decide +kernel
theorem dX10_seeming_23 : decode cX10_seeming 23 = .ok (.iload_n 3, 1) := by decide +kernel
theorem dX10_seeming_24 : decode cX10_seeming 24 = .ok (.iconst 0, 1) := by decide +kernel
theorem dX10_seeming_25 : decode cX10_seeming 25 = .ok (.invokevirtual 216, 3) := by decide +kernel
theorem dX10_seeming_28 : decode cX10_seeming 28 = .ok (.invokevirtual 219, 3) := by decide +kernel
theorem dX10_seeming_31 : decode cX10_seeming 31 = .ok (.iload_n 1, 1) := by decide +kernel
theorem dX10_seeming_32 : decode cX10_seeming 32 = .ok (.if_icmp .ne 6, 3) := by decide +kernel
theorem dX10_seeming_35 : decode cX10_seeming 35 = .ok (.iinc 2 1, 3) := by decide +kernel
theorem dX10_seeming_38 : decode cX10_seeming 38 = .ok (.iinc 3 1, 3) := by decide +kernel
theorem dX10_seeming_41 : decode cX10_seeming 41 = .ok (.goto (-37), 3) := by decide +kernel
theorem dX10_seeming_44 : decode cX10_seeming 44 = .ok (.iload_n 2, 1) := by decide +kernel
theorem dX10_seeming_45 : decode cX10_seeming 45 = .ok (.ireturn, 1) := by decide +kernel
theorem dX10_suffices_0 : decode cX10_suffices 0 = .ok (.iconst 0, 1) := by decide +kernel
theorem dX10_suffices_1 : decode cX10_suffices 1 = .ok (.istore_n 3, 1) := by decide +kernel
theorem dX10_suffices_2 : decode cX10_suffices 2 = .ok (.iload_n 3, 1) := by decide +kernel
theorem dX10_suffices_3 : decode cX10_suffices 3 = .ok (.iconst 3, 1) := by decide +kernel
theorem dX10_suffices_4 : decode cX10_suffices 4 = .ok (.if_icmp .ge 92, 3) := by decide +kernel
theorem dX10_suffices_7 : decode cX10_suffices 7 = .ok (.iconst 0, 1) := by decide +kernel
theorem dX10_suffices_8 : decode cX10_suffices 8 = .ok (.istore 4, 2) := by decide +kernel
theorem dX10_suffices_10 : decode cX10_suffices 10 = .ok (.iconst 0, 1) := by decide +kernel
theorem dX10_suffices_11 : decode cX10_suffices 11 = .ok (.istore 5, 2) := by decide +kernel
theorem dX10_suffices_13 : decode cX10_suffices 13 = .ok (.iload 5, 2) := by decide +kernel
theorem dX10_suffices_15 : decode cX10_suffices 15 = .ok (.aload_n 0, 1) := by decide +kernel
theorem dX10_suffices_16 : decode cX10_suffices 16 = .ok (.getfield 82, 3) := by decide +kernel
theorem dX10_suffices_19 : decode cX10_suffices 19 = .ok (.getfield 168, 3) := by decide +kernel
theorem dX10_suffices_22 : decode cX10_suffices 22 = .ok (.if_icmp .ge 37, 3) := by decide +kernel
theorem dX10_suffices_25 : decode cX10_suffices 25 = .ok (.iload_n 1, 1) := by decide +kernel
theorem dX10_suffices_26 : decode cX10_suffices 26 = .ok (.iload 5, 2) := by decide +kernel
theorem dX10_suffices_28 : decode cX10_suffices 28 = .ok (.ishr, 1) := by decide +kernel
theorem dX10_suffices_29 : decode cX10_suffices 29 = .ok (.iconst 1, 1) := by decide +kernel
theorem dX10_suffices_30 : decode cX10_suffices 30 = .ok (.iand, 1) := by decide +kernel
theorem dX10_suffices_31 : decode cX10_suffices 31 = .ok (.iconst 1, 1) := by decide +kernel
theorem dX10_suffices_32 : decode cX10_suffices 32 = .ok (.if_icmp .ne 21, 3) := by decide +kernel
theorem dX10_suffices_35 : decode cX10_suffices 35 = .ok (.iload 4, 2) := by decide +kernel
theorem dX10_suffices_37 : decode cX10_suffices 37 = .ok (.aload_n 0, 1) := by decide +kernel
theorem dX10_suffices_38 : decode cX10_suffices 38 = .ok (.getfield 82, 3) := by decide +kernel
theorem dX10_suffices_41 : decode cX10_suffices 41 = .ok (.iload 5, 2) := by decide +kernel
theorem dX10_suffices_43 : decode cX10_suffices 43 = .ok (.invokevirtual 198, 3) := by decide +kernel
theorem dX10_suffices_46 : decode cX10_suffices 46 = .ok (.iload_n 3, 1) := by decide +kernel
theorem dX10_suffices_47 : decode cX10_suffices 47 = .ok (.invokestatic 368, 3) := by decide +kernel
theorem dX10_suffices_50 : decode cX10_suffices 50 = .ok (.iadd, 1) := by decide +kernel
theorem dX10_suffices_51 : decode cX10_suffices 51 = .ok (.istore 4, 2) := by decide +kernel
theorem dX10_suffices_53 : decode cX10_suffices 53 = .ok (.iinc 5 1, 3) := by decide +kernel
theorem dX10_suffices_56 : decode cX10_suffices 56 = .ok (.goto (-43), 3) := by decide +kernel
theorem dX10_suffices_59 : decode cX10_suffices 59 = .ok (.sipush 200, 3) := by decide +kernel
theorem dX10_suffices_62 : decode cX10_suffices 62 = .ok (.aload_n 0, 1) := by decide +kernel
theorem dX10_suffices_63 : decode cX10_suffices 63 = .ok (.getfield 19, 3) := by decide +kernel
theorem dX10_suffices_66 : decode cX10_suffices 66 = .ok (.iload_n 3, 1) := by decide +kernel
theorem dX10_suffices_67 : decode cX10_suffices 67 = .ok (.invokevirtual 229, 3) := by decide +kernel
theorem dX10_suffices_70 : decode cX10_suffices 70 = .ok (.iload_n 2, 1) := by decide +kernel
theorem dX10_suffices_71 : decode cX10_suffices 71 = .ok (.aload_n 0, 1) := by decide +kernel
theorem dX10_suffices_72 : decode cX10_suffices 72 = .ok (.getfield 82, 3) := by decide +kernel
theorem dX10_suffices_75 : decode cX10_suffices 75 = .ok (.getfield 188, 3) := by decide +kernel
theorem dX10_suffices_78 : decode cX10_suffices 78 = .ok (.imul, 1) := by decide +kernel
theorem dX10_suffices_79 : decode cX10_suffices 79 = .ok (.iadd, 1) := by decide +kernel
theorem dX10_suffices_80 : decode cX10_suffices 80 = .ok (.invokestatic 339, 3) := by decide +kernel
theorem dX10_suffices_83 : decode cX10_suffices 83 = .ok (.iload 4, 2) := by decide +kernel
theorem dX10_suffices_85 : decode cX10_suffices 85 = .ok (.if_icmp .ge 5, 3) := by decide +kernel
theorem dX10_suffices_88 : decode cX10_suffices 88 = .ok (.iconst 0, 1) := by decide +kernel
theorem dX10_suffices_89 : decode cX10_suffices 89 = .ok (.ireturn, 1) := by decide +kernel
theorem dX10_suffices_90 : decode cX10_suffices 90 = .ok (.iinc 3 1, 3) := by decide +kernel
theorem dX10_suffices_93 : decode cX10_suffices 93 = .ok (.goto (-91), 3) := by decide +kernel
theorem dX10_suffices_96 : decode cX10_suffices 96 = .ok (.iconst 1, 1) := by decide +kernel
theorem dX10_suffices_97 : decode cX10_suffices 97 = .ok (.ireturn, 1) := by decide +kernel
theorem dX10_preferring_0 : decode cX10_preferring 0 = .ok (.iconst 0, 1) := by decide +kernel
theorem dX10_preferring_1 : decode cX10_preferring 1 = .ok (.istore_n 3, 1) := by decide +kernel
theorem dX10_preferring_2 : decode cX10_preferring 2 = .ok (.iconst 0, 1) := by decide +kernel
theorem dX10_preferring_3 : decode cX10_preferring 3 = .ok (.istore 4, 2) := by decide +kernel
theorem dX10_preferring_5 : decode cX10_preferring 5 = .ok (.iload 4, 2) := by decide +kernel
theorem dX10_preferring_7 : decode cX10_preferring 7 = .ok (.aload_n 0, 1) := by decide +kernel
theorem dX10_preferring_8 : decode cX10_preferring 8 = .ok (.getfield 82, 3) := by decide +kernel
theorem dX10_preferring_11 : decode cX10_preferring 11 = .ok (.getfield 134, 3) := by decide +kernel
theorem dX10_preferring_14 : decode cX10_preferring 14 = .ok (.if_icmp .ge 39, 3) := by decide +kernel
theorem dX10_preferring_17 : decode cX10_preferring 17 = .ok (.aload_n 0, 1) := by decide +kernel
theorem dX10_preferring_18 : decode cX10_preferring 18 = .ok (.getfield 19, 3) := by decide +kernel
theorem dX10_preferring_21 : decode cX10_preferring 21 = .ok (.iload 4, 2) := by decide +kernel
theorem dX10_preferring_23 : decode cX10_preferring 23 = .ok (.iconst 0, 1) := by decide +kernel
theorem dX10_preferring_24 : decode cX10_preferring 24 = .ok (.invokevirtual 216, 3) := by decide +kernel
theorem dX10_preferring_27 : decode cX10_preferring 27 = .ok (.istore 5, 2) := by decide +kernel
theorem dX10_preferring_29 : decode cX10_preferring 29 = .ok (.iload 5, 2) := by decide +kernel
theorem dX10_preferring_31 : decode cX10_preferring 31 = .ok (.iload_n 1, 1) := by decide +kernel
theorem dX10_preferring_32 : decode cX10_preferring 32 = .ok (.invokestatic 239, 3) := by decide +kernel
theorem dX10_preferring_35 : decode cX10_preferring 35 = .ok (.iload 5, 2) := by decide +kernel
theorem dX10_preferring_37 : decode cX10_preferring 37 = .ok (.iload_n 2, 1) := by decide +kernel
theorem dX10_preferring_38 : decode cX10_preferring 38 = .ok (.invokestatic 239, 3) := by decide +kernel
theorem dX10_preferring_41 : decode cX10_preferring 41 = .ok (.if_icmp .ge 6, 3) := by decide +kernel
theorem dX10_preferring_44 : decode cX10_preferring 44 = .ok (.iinc 3 1, 3) := by decide +kernel
theorem dX10_preferring_47 : decode cX10_preferring 47 = .ok (.iinc 4 1, 3) := by decide +kernel
theorem dX10_preferring_50 : decode cX10_preferring 50 = .ok (.goto (-45), 3) := by decide +kernel
theorem dX10_preferring_53 : decode cX10_preferring 53 = .ok (.iload_n 3, 1) := by decide +kernel
theorem dX10_preferring_54 : decode cX10_preferring 54 = .ok (.ireturn, 1) := by decide +kernel
theorem dX10_countGoers_0 : decode cX10_countGoers 0 = .ok (.iconst 0, 1) := by decide +kernel
theorem dX10_countGoers_1 : decode cX10_countGoers 1 = .ok (.istore_n 1, 1) := by decide +kernel
theorem dX10_countGoers_2 : decode cX10_countGoers 2 = .ok (.iload_n 1, 1) := by decide +kernel
theorem dX10_countGoers_3 : decode cX10_countGoers 3 = .ok (.aload_n 0, 1) := by decide +kernel
theorem dX10_countGoers_4 : decode cX10_countGoers 4 = .ok (.getfield 82, 3) := by decide +kernel
theorem dX10_countGoers_7 : decode cX10_countGoers 7 = .ok (.getfield 168, 3) := by decide +kernel
theorem dX10_countGoers_10 : decode cX10_countGoers 10 = .ok (.if_icmp .ge 63, 3) := by decide +kernel
theorem dX10_countGoers_13 : decode cX10_countGoers 13 = .ok (.iconst 0, 1) := by decide +kernel
theorem dX10_countGoers_14 : decode cX10_countGoers 14 = .ok (.istore_n 2, 1) := by decide +kernel
theorem dX10_countGoers_15 : decode cX10_countGoers 15 = .ok (.iload_n 2, 1) := by decide +kernel
theorem dX10_countGoers_16 : decode cX10_countGoers 16 = .ok (.aload_n 0, 1) := by decide +kernel
theorem dX10_countGoers_17 : decode cX10_countGoers 17 = .ok (.getfield 82, 3) := by decide +kernel
theorem dX10_countGoers_20 : decode cX10_countGoers 20 = .ok (.getfield 168, 3) := by decide +kernel
theorem dX10_countGoers_23 : decode cX10_countGoers 23 = .ok (.if_icmp .ge 44, 3) := by decide +kernel
theorem dX10_countGoers_26 : decode cX10_countGoers 26 = .ok (.aload_n 0, 1) := by decide +kernel
theorem dX10_countGoers_27 : decode cX10_countGoers 27 = .ok (.aload_n 0, 1) := by decide +kernel
theorem dX10_countGoers_28 : decode cX10_countGoers 28 = .ok (.getfield 82, 3) := by decide +kernel
theorem dX10_countGoers_31 : decode cX10_countGoers 31 = .ok (.iload_n 1, 1) := by decide +kernel
theorem dX10_countGoers_32 : decode cX10_countGoers 32 = .ok (.invokevirtual 198, 3) := by decide +kernel
theorem dX10_countGoers_35 : decode cX10_countGoers 35 = .ok (.aload_n 0, 1) := by decide +kernel
theorem dX10_countGoers_36 : decode cX10_countGoers 36 = .ok (.getfield 82, 3) := by decide +kernel
theorem dX10_countGoers_39 : decode cX10_countGoers 39 = .ok (.iload_n 2, 1) := by decide +kernel
theorem dX10_countGoers_40 : decode cX10_countGoers 40 = .ok (.invokevirtual 198, 3) := by decide +kernel
theorem dX10_countGoers_43 : decode cX10_countGoers 43 = .ok (.invokevirtual 323, 3) := by decide +kernel
theorem dX10_countGoers_46 : decode cX10_countGoers 46 = .ok (.istore_n 3, 1) := by decide +kernel
theorem dX10_countGoers_47 : decode cX10_countGoers 47 = .ok (.aload_n 0, 1) := by decide +kernel
theorem dX10_countGoers_48 : decode cX10_countGoers 48 = .ok (.getfield 75, 3) := by decide +kernel
theorem dX10_countGoers_51 : decode cX10_countGoers 51 = .ok (.iload_n 1, 1) := by decide +kernel
theorem dX10_countGoers_52 : decode cX10_countGoers 52 = .ok (.bipush 6, 2) := by decide +kernel
theorem dX10_countGoers_54 : decode cX10_countGoers 54 = .ok (.imul, 1) := by decide +kernel
theorem dX10_countGoers_55 : decode cX10_countGoers 55 = .ok (.iload_n 2, 1) := by decide +kernel
theorem dX10_countGoers_56 : decode cX10_countGoers 56 = .ok (.iadd, 1) := by decide +kernel
theorem dX10_countGoers_57 : decode cX10_countGoers 57 = .ok (.iload_n 3, 1) := by decide +kernel
theorem dX10_countGoers_58 : decode cX10_countGoers 58 = .ok (.invokestatic 371, 3) := by decide +kernel
theorem dX10_countGoers_61 : decode cX10_countGoers 61 = .ok (.iinc 2 1, 3) := by decide +kernel
theorem dX10_countGoers_64 : decode cX10_countGoers 64 = .ok (.goto (-49), 3) := by decide +kernel
theorem dX10_countGoers_67 : decode cX10_countGoers 67 = .ok (.iinc 1 1, 3) := by decide +kernel
theorem dX10_countGoers_70 : decode cX10_countGoers 70 = .ok (.goto (-68), 3) := by decide +kernel
theorem dX10_countGoers_73 : decode cX10_countGoers 73 = .ok (.return_, 1) := by decide +kernel
theorem dX10_goersTo_0 : decode cX10_goersTo 0 = .ok (.aload_n 0, 1) := by decide +kernel
theorem dX10_goersTo_1 : decode cX10_goersTo 1 = .ok (.getfield 75, 3) := by decide +kernel
theorem dX10_goersTo_4 : decode cX10_goersTo 4 = .ok (.iload_n 1, 1) := by decide +kernel
theorem dX10_goersTo_5 : decode cX10_goersTo 5 = .ok (.bipush 6, 2) := by decide +kernel
theorem dX10_goersTo_7 : decode cX10_goersTo 7 = .ok (.imul, 1) := by decide +kernel
theorem dX10_goersTo_8 : decode cX10_goersTo 8 = .ok (.iload_n 2, 1) := by decide +kernel
theorem dX10_goersTo_9 : decode cX10_goersTo 9 = .ok (.iadd, 1) := by decide +kernel
theorem dX10_goersTo_10 : decode cX10_goersTo 10 = .ok (.invokestatic 375, 3) := by decide +kernel
theorem dX10_goersTo_13 : decode cX10_goersTo 13 = .ok (.ireturn, 1) := by decide +kernel
theorem dX10_restsAt_0 : decode cX10_restsAt 0 = .ok (.iconst 0, 1) := by decide +kernel
theorem dX10_restsAt_1 : decode cX10_restsAt 1 = .ok (.istore_n 3, 1) := by decide +kernel
theorem dX10_restsAt_2 : decode cX10_restsAt 2 = .ok (.iload_n 3, 1) := by decide +kernel
theorem dX10_restsAt_3 : decode cX10_restsAt 3 = .ok (.aload_n 0, 1) := by decide +kernel
theorem dX10_restsAt_4 : decode cX10_restsAt 4 = .ok (.getfield 82, 3) := by decide +kernel
theorem dX10_restsAt_7 : decode cX10_restsAt 7 = .ok (.getfield 168, 3) := by decide +kernel
theorem dX10_restsAt_10 : decode cX10_restsAt 10 = .ok (.if_icmp .ge 41, 3) := by decide +kernel
theorem dX10_restsAt_13 : decode cX10_restsAt 13 = .ok (.aload_n 0, 1) := by decide +kernel
theorem dX10_restsAt_14 : decode cX10_restsAt 14 = .ok (.iload_n 3, 1) := by decide +kernel
theorem dX10_restsAt_15 : decode cX10_restsAt 15 = .ok (.iload_n 2, 1) := by decide +kernel
theorem dX10_restsAt_16 : decode cX10_restsAt 16 = .ok (.invokevirtual 320, 3) := by decide +kernel
theorem dX10_restsAt_19 : decode cX10_restsAt 19 = .ok (.aload_n 0, 1) := by decide +kernel
theorem dX10_restsAt_20 : decode cX10_restsAt 20 = .ok (.iload_n 1, 1) := by decide +kernel
theorem dX10_restsAt_21 : decode cX10_restsAt 21 = .ok (.iload_n 2, 1) := by decide +kernel
theorem dX10_restsAt_22 : decode cX10_restsAt 22 = .ok (.invokevirtual 320, 3) := by decide +kernel
theorem dX10_restsAt_25 : decode cX10_restsAt 25 = .ok (.if_icmp .gt 18, 3) := by decide +kernel
theorem dX10_restsAt_28 : decode cX10_restsAt 28 = .ok (.aload_n 0, 1) := by decide +kernel
theorem dX10_restsAt_29 : decode cX10_restsAt 29 = .ok (.iload_n 3, 1) := by decide +kernel
theorem dX10_restsAt_30 : decode cX10_restsAt 30 = .ok (.iload_n 1, 1) := by decide +kernel
theorem dX10_restsAt_31 : decode cX10_restsAt 31 = .ok (.invokevirtual 320, 3) := by decide +kernel
theorem dX10_restsAt_34 : decode cX10_restsAt 34 = .ok (.aload_n 0, 1) := by decide +kernel
theorem dX10_restsAt_35 : decode cX10_restsAt 35 = .ok (.iload_n 2, 1) := by decide +kernel
theorem dX10_restsAt_36 : decode cX10_restsAt 36 = .ok (.iload_n 1, 1) := by decide +kernel
theorem dX10_restsAt_37 : decode cX10_restsAt 37 = .ok (.invokevirtual 320, 3) := by decide +kernel
theorem dX10_restsAt_40 : decode cX10_restsAt 40 = .ok (.if_icmp .le 5, 3) := by decide +kernel
theorem dX10_restsAt_43 : decode cX10_restsAt 43 = .ok (.iconst 0, 1) := by decide +kernel
theorem dX10_restsAt_44 : decode cX10_restsAt 44 = .ok (.ireturn, 1) := by decide +kernel
theorem dX10_restsAt_45 : decode cX10_restsAt 45 = .ok (.iinc 3 1, 3) := by decide +kernel
theorem dX10_restsAt_48 : decode cX10_restsAt 48 = .ok (.goto (-46), 3) := by decide +kernel
theorem dX10_restsAt_51 : decode cX10_restsAt 51 = .ok (.iconst 1, 1) := by decide +kernel
theorem dX10_restsAt_52 : decode cX10_restsAt 52 = .ok (.ireturn, 1) := by decide +kernel
theorem dX10_mostRight_0 : decode cX10_mostRight 0 = .ok (.lconst 0, 1) := by decide +kernel
theorem dX10_mostRight_1 : decode cX10_mostRight 1 = .ok (.lstore_n 2, 1) := by decide +kernel
theorem dX10_mostRight_2 : decode cX10_mostRight 2 = .ok (.iconst 0, 1) := by decide +kernel
theorem dX10_mostRight_3 : decode cX10_mostRight 3 = .ok (.istore 4, 2) := by decide +kernel
theorem dX10_mostRight_5 : decode cX10_mostRight 5 = .ok (.iload 4, 2) := by decide +kernel
theorem dX10_mostRight_7 : decode cX10_mostRight 7 = .ok (.iconst 1, 1) := by decide +kernel
theorem dX10_mostRight_8 : decode cX10_mostRight 8 = .ok (.iload_n 0, 1) := by decide +kernel
theorem dX10_mostRight_9 : decode cX10_mostRight 9 = .ok (.ishl, 1) := by decide +kernel
theorem dX10_mostRight_10 : decode cX10_mostRight 10 = .ok (.if_icmp .ge 45, 3) := by decide +kernel
theorem dX10_mostRight_13 : decode cX10_mostRight 13 = .ok (.iload 4, 2) := by decide +kernel
theorem dX10_mostRight_15 : decode cX10_mostRight 15 = .ok (.invokestatic 379, 3) := by decide +kernel
theorem dX10_mostRight_18 : decode cX10_mostRight 18 = .ok (.istore 5, 2) := by decide +kernel
theorem dX10_mostRight_20 : decode cX10_mostRight 20 = .ok (.iconst 2, 1) := by decide +kernel
theorem dX10_mostRight_21 : decode cX10_mostRight 21 = .ok (.iload 5, 2) := by decide +kernel
theorem dX10_mostRight_23 : decode cX10_mostRight 23 = .ok (.imul, 1) := by decide +kernel
theorem dX10_mostRight_24 : decode cX10_mostRight 24 = .ok (.iload_n 0, 1) := by decide +kernel
theorem dX10_mostRight_25 : decode cX10_mostRight 25 = .ok (.if_icmp .le 24, 3) := by decide +kernel
theorem dX10_mostRight_28 : decode cX10_mostRight 28 = .ok (.lload_n 2, 1) := by decide +kernel
theorem dX10_mostRight_29 : decode cX10_mostRight 29 = .ok (.iload_n 1, 1) := by decide +kernel
theorem dX10_mostRight_30 : decode cX10_mostRight 30 = .ok (.iload 5, 2) := by decide +kernel
theorem dX10_mostRight_32 : decode cX10_mostRight 32 = .ok (.invokestatic 309, 3) := by decide +kernel
theorem dX10_mostRight_35 : decode cX10_mostRight 35 = .ok (.bipush 16, 2) := by decide +kernel
theorem dX10_mostRight_37 : decode cX10_mostRight 37 = .ok (.iload_n 1, 1) := by decide +kernel
theorem dX10_mostRight_38 : decode cX10_mostRight 38 = .ok (.isub, 1) := by decide +kernel
theorem dX10_mostRight_39 : decode cX10_mostRight 39 = .ok (.iload_n 0, 1) := by decide +kernel
theorem dX10_mostRight_40 : decode cX10_mostRight 40 = .ok (.iload 5, 2) := by decide +kernel
theorem dX10_mostRight_42 : decode cX10_mostRight 42 = .ok (.isub, 1) := by decide +kernel
theorem dX10_mostRight_43 : decode cX10_mostRight 43 = .ok (.invokestatic 309, 3) := by decide +kernel
theorem dX10_mostRight_46 : decode cX10_mostRight 46 = .ok (.lmul, 1) := by decide +kernel
theorem dX10_mostRight_47 : decode cX10_mostRight 47 = .ok (.ladd, 1) := by decide +kernel
theorem dX10_mostRight_48 : decode cX10_mostRight 48 = .ok (.lstore_n 2, 1) := by decide +kernel
theorem dX10_mostRight_49 : decode cX10_mostRight 49 = .ok (.iinc 4 1, 3) := by decide +kernel
theorem dX10_mostRight_52 : decode cX10_mostRight 52 = .ok (.goto (-47), 3) := by decide +kernel
theorem dX10_mostRight_55 : decode cX10_mostRight 55 = .ok (.lload_n 2, 1) := by decide +kernel
theorem dX10_mostRight_56 : decode cX10_mostRight 56 = .ok (.lreturn, 1) := by decide +kernel
theorem dX10_power_0 : decode cX10_power 0 = .ok (.lconst 1, 1) := by decide +kernel
theorem dX10_power_1 : decode cX10_power 1 = .ok (.lstore_n 2, 1) := by decide +kernel
theorem dX10_power_2 : decode cX10_power 2 = .ok (.iconst 0, 1) := by decide +kernel
theorem dX10_power_3 : decode cX10_power 3 = .ok (.istore 4, 2) := by decide +kernel
theorem dX10_power_5 : decode cX10_power 5 = .ok (.iload 4, 2) := by decide +kernel
theorem dX10_power_7 : decode cX10_power 7 = .ok (.iload_n 1, 1) := by decide +kernel
theorem dX10_power_8 : decode cX10_power 8 = .ok (.if_icmp .ge 14, 3) := by decide +kernel
theorem dX10_power_11 : decode cX10_power 11 = .ok (.lload_n 2, 1) := by decide +kernel
theorem dX10_power_12 : decode cX10_power 12 = .ok (.iload_n 0, 1) := by decide +kernel
theorem dX10_power_13 : decode cX10_power 13 = .ok (.i2l, 1) := by decide +kernel
theorem dX10_power_14 : decode cX10_power 14 = .ok (.lmul, 1) := by decide +kernel
theorem dX10_power_15 : decode cX10_power 15 = .ok (.lstore_n 2, 1) := by decide +kernel
theorem dX10_power_16 : decode cX10_power 16 = .ok (.iinc 4 1, 3) := by decide +kernel
theorem dX10_power_19 : decode cX10_power 19 = .ok (.goto (-14), 3) := by decide +kernel
theorem dX10_power_22 : decode cX10_power 22 = .ok (.lload_n 2, 1) := by decide +kernel
theorem dX10_power_23 : decode cX10_power 23 = .ok (.lreturn, 1) := by decide +kernel
theorem dX10_at_0 : decode cX10_at 0 = .ok (.iload_n 1, 1) := by decide +kernel
theorem dX10_at_1 : decode cX10_at 1 = .ok (.ifCond .lt 15, 3) := by decide +kernel
theorem dX10_at_4 : decode cX10_at 4 = .ok (.iload_n 1, 1) := by decide +kernel
theorem dX10_at_5 : decode cX10_at 5 = .ok (.aload_n 0, 1) := by decide +kernel
theorem dX10_at_6 : decode cX10_at 6 = .ok (.arraylength, 1) := by decide +kernel
theorem dX10_at_7 : decode cX10_at 7 = .ok (.if_icmp .ge 9, 3) := by decide +kernel
theorem dX10_at_10 : decode cX10_at 10 = .ok (.aload_n 0, 1) := by decide +kernel
theorem dX10_at_11 : decode cX10_at 11 = .ok (.iload_n 1, 1) := by decide +kernel
theorem dX10_at_12 : decode cX10_at 12 = .ok (.iaload, 1) := by decide +kernel
theorem dX10_at_13 : decode cX10_at 13 = .ok (.goto 4, 3) := by decide +kernel
theorem dX10_at_16 : decode cX10_at 16 = .ok (.iconst 0, 1) := by decide +kernel
theorem dX10_at_17 : decode cX10_at 17 = .ok (.ireturn, 1) := by decide +kernel
theorem dX10_put_0 : decode cX10_put 0 = .ok (.iload_n 1, 1) := by decide +kernel
theorem dX10_put_1 : decode cX10_put 1 = .ok (.ifCond .lt 13, 3) := by decide +kernel
theorem dX10_put_4 : decode cX10_put 4 = .ok (.iload_n 1, 1) := by decide +kernel
theorem dX10_put_5 : decode cX10_put 5 = .ok (.aload_n 0, 1) := by decide +kernel
theorem dX10_put_6 : decode cX10_put 6 = .ok (.arraylength, 1) := by decide +kernel
theorem dX10_put_7 : decode cX10_put 7 = .ok (.if_icmp .ge 7, 3) := by decide +kernel
theorem dX10_put_10 : decode cX10_put 10 = .ok (.aload_n 0, 1) := by decide +kernel
theorem dX10_put_11 : decode cX10_put 11 = .ok (.iload_n 1, 1) := by decide +kernel
theorem dX10_put_12 : decode cX10_put 12 = .ok (.iload_n 2, 1) := by decide +kernel
theorem dX10_put_13 : decode cX10_put 13 = .ok (.iastore, 1) := by decide +kernel
theorem dX10_put_14 : decode cX10_put 14 = .ok (.return_, 1) := by decide +kernel
theorem dX10_copy_0 : decode cX10_copy 0 = .ok (.iconst 0, 1) := by decide +kernel
theorem dX10_copy_1 : decode cX10_copy 1 = .ok (.istore 5, 2) := by decide +kernel
theorem dX10_copy_3 : decode cX10_copy 3 = .ok (.iload 5, 2) := by decide +kernel
theorem dX10_copy_5 : decode cX10_copy 5 = .ok (.iload 4, 2) := by decide +kernel
theorem dX10_copy_7 : decode cX10_copy 7 = .ok (.if_icmp .ge 25, 3) := by decide +kernel
theorem dX10_copy_10 : decode cX10_copy 10 = .ok (.aload_n 2, 1) := by decide +kernel
theorem dX10_copy_11 : decode cX10_copy 11 = .ok (.iload_n 3, 1) := by decide +kernel
theorem dX10_copy_12 : decode cX10_copy 12 = .ok (.iload 5, 2) := by decide +kernel
theorem dX10_copy_14 : decode cX10_copy 14 = .ok (.iadd, 1) := by decide +kernel
theorem dX10_copy_15 : decode cX10_copy 15 = .ok (.aload_n 0, 1) := by decide +kernel
theorem dX10_copy_16 : decode cX10_copy 16 = .ok (.iload_n 1, 1) := by decide +kernel
theorem dX10_copy_17 : decode cX10_copy 17 = .ok (.iload 5, 2) := by decide +kernel
theorem dX10_copy_19 : decode cX10_copy 19 = .ok (.iadd, 1) := by decide +kernel
theorem dX10_copy_20 : decode cX10_copy 20 = .ok (.invokestatic 375, 3) := by decide +kernel
theorem dX10_copy_23 : decode cX10_copy 23 = .ok (.invokestatic 371, 3) := by decide +kernel
theorem dX10_copy_26 : decode cX10_copy 26 = .ok (.iinc 5 1, 3) := by decide +kernel
theorem dX10_copy_29 : decode cX10_copy 29 = .ok (.goto (-26), 3) := by decide +kernel
theorem dX10_copy_32 : decode cX10_copy 32 = .ok (.return_, 1) := by decide +kernel
theorem dX10_fill_0 : decode cX10_fill 0 = .ok (.iconst 0, 1) := by decide +kernel
theorem dX10_fill_1 : decode cX10_fill 1 = .ok (.istore_n 2, 1) := by decide +kernel
theorem dX10_fill_2 : decode cX10_fill 2 = .ok (.iload_n 2, 1) := by decide +kernel
theorem dX10_fill_3 : decode cX10_fill 3 = .ok (.aload_n 0, 1) := by decide +kernel
theorem dX10_fill_4 : decode cX10_fill 4 = .ok (.arraylength, 1) := by decide +kernel
theorem dX10_fill_5 : decode cX10_fill 5 = .ok (.if_icmp .ge 13, 3) := by decide +kernel
theorem dX10_fill_8 : decode cX10_fill 8 = .ok (.aload_n 0, 1) := by decide +kernel
theorem dX10_fill_9 : decode cX10_fill 9 = .ok (.iload_n 2, 1) := by decide +kernel
theorem dX10_fill_10 : decode cX10_fill 10 = .ok (.iload_n 1, 1) := by decide +kernel
theorem dX10_fill_11 : decode cX10_fill 11 = .ok (.iastore, 1) := by decide +kernel
theorem dX10_fill_12 : decode cX10_fill 12 = .ok (.iinc 2 1, 3) := by decide +kernel
theorem dX10_fill_15 : decode cX10_fill 15 = .ok (.goto (-13), 3) := by decide +kernel
theorem dX10_fill_18 : decode cX10_fill 18 = .ok (.return_, 1) := by decide +kernel
theorem dX10_isDye_0 : decode cX10_isDye 0 = .ok (.iload_n 0, 1) := by decide +kernel
theorem dX10_isDye_1 : decode cX10_isDye 1 = .ok (.ifCond .lt 12, 3) := by decide +kernel
theorem dX10_isDye_4 : decode cX10_isDye 4 = .ok (.iload_n 0, 1) := by decide +kernel
theorem dX10_isDye_5 : decode cX10_isDye 5 = .ok (.iconst 3, 1) := by decide +kernel
theorem dX10_isDye_6 : decode cX10_isDye 6 = .ok (.if_icmp .ge 7, 3) := by decide +kernel
theorem dX10_isDye_9 : decode cX10_isDye 9 = .ok (.iconst 1, 1) := by decide +kernel
theorem dX10_isDye_10 : decode cX10_isDye 10 = .ok (.goto 4, 3) := by decide +kernel
theorem dX10_isDye_13 : decode cX10_isDye 13 = .ok (.iconst 0, 1) := by decide +kernel
theorem dX10_isDye_14 : decode cX10_isDye 14 = .ok (.ireturn, 1) := by decide +kernel
theorem dX10_isShade_0 : decode cX10_isShade 0 = .ok (.iload_n 0, 1) := by decide +kernel
theorem dX10_isShade_1 : decode cX10_isShade 1 = .ok (.ifCond .lt 14, 3) := by decide +kernel
theorem dX10_isShade_4 : decode cX10_isShade 4 = .ok (.iload_n 0, 1) := by decide +kernel
theorem dX10_isShade_5 : decode cX10_isShade 5 = .ok (.sipush 1000, 3) := by decide +kernel
theorem dX10_isShade_8 : decode cX10_isShade 8 = .ok (.if_icmp .ge 7, 3) := by decide +kernel
theorem dX10_isShade_11 : decode cX10_isShade 11 = .ok (.iconst 1, 1) := by decide +kernel
theorem dX10_isShade_12 : decode cX10_isShade 12 = .ok (.goto 4, 3) := by decide +kernel
theorem dX10_isShade_15 : decode cX10_isShade 15 = .ok (.iconst 0, 1) := by decide +kernel
theorem dX10_isShade_16 : decode cX10_isShade 16 = .ok (.ireturn, 1) := by decide +kernel
theorem dX10_unitOf_0 : decode cX10_unitOf 0 = .ok (.iload_n 0, 1) := by decide +kernel
theorem dX10_unitOf_1 : decode cX10_unitOf 1 = .ok (.ifCond .ne 8, 3) := by decide +kernel
theorem dX10_unitOf_4 : decode cX10_unitOf 4 = .ok (.bipush 100, 2) := by decide +kernel
theorem dX10_unitOf_6 : decode cX10_unitOf 6 = .ok (.goto 14, 3) := by decide +kernel
theorem dX10_unitOf_9 : decode cX10_unitOf 9 = .ok (.iload_n 0, 1) := by decide +kernel
theorem dX10_unitOf_10 : decode cX10_unitOf 10 = .ok (.iconst 1, 1) := by decide +kernel
theorem dX10_unitOf_11 : decode cX10_unitOf 11 = .ok (.if_icmp .ne 8, 3) := by decide +kernel
theorem dX10_unitOf_14 : decode cX10_unitOf 14 = .ok (.bipush 10, 2) := by decide +kernel
theorem dX10_unitOf_16 : decode cX10_unitOf 16 = .ok (.goto 4, 3) := by decide +kernel
theorem dX10_unitOf_19 : decode cX10_unitOf 19 = .ok (.iconst 1, 1) := by decide +kernel
theorem dX10_unitOf_20 : decode cX10_unitOf 20 = .ok (.ireturn, 1) := by decide +kernel
theorem dX10_partOf_0 : decode cX10_partOf 0 = .ok (.iload_n 1, 1) := by decide +kernel
theorem dX10_partOf_1 : decode cX10_partOf 1 = .ok (.lookupswitch 43 #[(0, 27), (1, 35)], 27) := by decide +kernel
theorem dX10_partOf_28 : decode cX10_partOf 28 = .ok (.iload_n 0, 1) := by decide +kernel
theorem dX10_partOf_29 : decode cX10_partOf 29 = .ok (.bipush 100, 2) := by decide +kernel
theorem dX10_partOf_31 : decode cX10_partOf 31 = .ok (.idiv, 1) := by decide +kernel
theorem dX10_partOf_32 : decode cX10_partOf 32 = .ok (.bipush 10, 2) := by decide +kernel
theorem dX10_partOf_34 : decode cX10_partOf 34 = .ok (.irem, 1) := by decide +kernel
theorem dX10_partOf_35 : decode cX10_partOf 35 = .ok (.ireturn, 1) := by decide +kernel
theorem dX10_partOf_36 : decode cX10_partOf 36 = .ok (.iload_n 0, 1) := by decide +kernel
theorem dX10_partOf_37 : decode cX10_partOf 37 = .ok (.bipush 10, 2) := by decide +kernel
theorem dX10_partOf_39 : decode cX10_partOf 39 = .ok (.idiv, 1) := by decide +kernel
theorem dX10_partOf_40 : decode cX10_partOf 40 = .ok (.bipush 10, 2) := by decide +kernel
theorem dX10_partOf_42 : decode cX10_partOf 42 = .ok (.irem, 1) := by decide +kernel
theorem dX10_partOf_43 : decode cX10_partOf 43 = .ok (.ireturn, 1) := by decide +kernel
theorem dX10_partOf_44 : decode cX10_partOf 44 = .ok (.iload_n 0, 1) := by decide +kernel
theorem dX10_partOf_45 : decode cX10_partOf 45 = .ok (.bipush 10, 2) := by decide +kernel
theorem dX10_partOf_47 : decode cX10_partOf 47 = .ok (.irem, 1) := by decide +kernel
theorem dX10_partOf_48 : decode cX10_partOf 48 = .ok (.ireturn, 1) := by decide +kernel
theorem dX10_darkness_0 : decode cX10_darkness 0 = .ok (.iload_n 0, 1) := by decide +kernel
theorem dX10_darkness_1 : decode cX10_darkness 1 = .ok (.iconst 0, 1) := by decide +kernel
theorem dX10_darkness_2 : decode cX10_darkness 2 = .ok (.invokestatic 368, 3) := by decide +kernel
theorem dX10_darkness_5 : decode cX10_darkness 5 = .ok (.iload_n 0, 1) := by decide +kernel
theorem dX10_darkness_6 : decode cX10_darkness 6 = .ok (.iconst 1, 1) := by decide +kernel
theorem dX10_darkness_7 : decode cX10_darkness 7 = .ok (.invokestatic 368, 3) := by decide +kernel
theorem dX10_darkness_10 : decode cX10_darkness 10 = .ok (.iadd, 1) := by decide +kernel
theorem dX10_darkness_11 : decode cX10_darkness 11 = .ok (.iload_n 0, 1) := by decide +kernel
theorem dX10_darkness_12 : decode cX10_darkness 12 = .ok (.iconst 2, 1) := by decide +kernel
theorem dX10_darkness_13 : decode cX10_darkness 13 = .ok (.invokestatic 368, 3) := by decide +kernel
theorem dX10_darkness_16 : decode cX10_darkness 16 = .ok (.iadd, 1) := by decide +kernel
theorem dX10_darkness_17 : decode cX10_darkness 17 = .ok (.ireturn, 1) := by decide +kernel
theorem dX10_apart_0 : decode cX10_apart 0 = .ok (.iconst 0, 1) := by decide +kernel
theorem dX10_apart_1 : decode cX10_apart 1 = .ok (.istore_n 2, 1) := by decide +kernel
theorem dX10_apart_2 : decode cX10_apart 2 = .ok (.iconst 0, 1) := by decide +kernel
theorem dX10_apart_3 : decode cX10_apart 3 = .ok (.istore_n 3, 1) := by decide +kernel
theorem dX10_apart_4 : decode cX10_apart 4 = .ok (.iload_n 3, 1) := by decide +kernel
theorem dX10_apart_5 : decode cX10_apart 5 = .ok (.iconst 3, 1) := by decide +kernel
theorem dX10_apart_6 : decode cX10_apart 6 = .ok (.if_icmp .ge 26, 3) := by decide +kernel
theorem dX10_apart_9 : decode cX10_apart 9 = .ok (.iload_n 2, 1) := by decide +kernel
theorem dX10_apart_10 : decode cX10_apart 10 = .ok (.iload_n 0, 1) := by decide +kernel
theorem dX10_apart_11 : decode cX10_apart 11 = .ok (.iload_n 3, 1) := by decide +kernel
theorem dX10_apart_12 : decode cX10_apart 12 = .ok (.invokestatic 368, 3) := by decide +kernel
theorem dX10_apart_15 : decode cX10_apart 15 = .ok (.iload_n 1, 1) := by decide +kernel
theorem dX10_apart_16 : decode cX10_apart 16 = .ok (.iload_n 3, 1) := by decide +kernel
theorem dX10_apart_17 : decode cX10_apart 17 = .ok (.invokestatic 368, 3) := by decide +kernel
theorem dX10_apart_20 : decode cX10_apart 20 = .ok (.isub, 1) := by decide +kernel
theorem dX10_apart_21 : decode cX10_apart 21 = .ok (.invokestatic 384, 3) := by decide +kernel
theorem dX10_apart_24 : decode cX10_apart 24 = .ok (.iadd, 1) := by decide +kernel
theorem dX10_apart_25 : decode cX10_apart 25 = .ok (.istore_n 2, 1) := by decide +kernel
theorem dX10_apart_26 : decode cX10_apart 26 = .ok (.iinc 3 1, 3) := by decide +kernel
theorem dX10_apart_29 : decode cX10_apart 29 = .ok (.goto (-25), 3) := by decide +kernel
theorem dX10_apart_32 : decode cX10_apart 32 = .ok (.iload_n 2, 1) := by decide +kernel
theorem dX10_apart_33 : decode cX10_apart 33 = .ok (.ireturn, 1) := by decide +kernel
theorem dX10_deeper_0 : decode cX10_deeper 0 = .ok (.iconst 0, 1) := by decide +kernel
theorem dX10_deeper_1 : decode cX10_deeper 1 = .ok (.istore_n 2, 1) := by decide +kernel
theorem dX10_deeper_2 : decode cX10_deeper 2 = .ok (.iconst 0, 1) := by decide +kernel
theorem dX10_deeper_3 : decode cX10_deeper 3 = .ok (.istore_n 3, 1) := by decide +kernel
theorem dX10_deeper_4 : decode cX10_deeper 4 = .ok (.iload_n 3, 1) := by decide +kernel
theorem dX10_deeper_5 : decode cX10_deeper 5 = .ok (.iconst 3, 1) := by decide +kernel
theorem dX10_deeper_6 : decode cX10_deeper 6 = .ok (.if_icmp .ge 37, 3) := by decide +kernel
theorem dX10_deeper_9 : decode cX10_deeper 9 = .ok (.bipush 9, 2) := by decide +kernel
theorem dX10_deeper_11 : decode cX10_deeper 11 = .ok (.iload_n 0, 1) := by decide +kernel
theorem dX10_deeper_12 : decode cX10_deeper 12 = .ok (.iload_n 3, 1) := by decide +kernel
theorem dX10_deeper_13 : decode cX10_deeper 13 = .ok (.invokestatic 368, 3) := by decide +kernel
theorem dX10_deeper_16 : decode cX10_deeper 16 = .ok (.iload_n 1, 1) := by decide +kernel
theorem dX10_deeper_17 : decode cX10_deeper 17 = .ok (.iload_n 3, 1) := by decide +kernel
theorem dX10_deeper_18 : decode cX10_deeper 18 = .ok (.invokestatic 368, 3) := by decide +kernel
theorem dX10_deeper_21 : decode cX10_deeper 21 = .ok (.iadd, 1) := by decide +kernel
theorem dX10_deeper_22 : decode cX10_deeper 22 = .ok (.invokestatic 339, 3) := by decide +kernel
theorem dX10_deeper_25 : decode cX10_deeper 25 = .ok (.istore 4, 2) := by decide +kernel
theorem dX10_deeper_27 : decode cX10_deeper 27 = .ok (.iload_n 2, 1) := by decide +kernel
theorem dX10_deeper_28 : decode cX10_deeper 28 = .ok (.iload 4, 2) := by decide +kernel
theorem dX10_deeper_30 : decode cX10_deeper 30 = .ok (.iload_n 3, 1) := by decide +kernel
theorem dX10_deeper_31 : decode cX10_deeper 31 = .ok (.invokestatic 387, 3) := by decide +kernel
theorem dX10_deeper_34 : decode cX10_deeper 34 = .ok (.imul, 1) := by decide +kernel
theorem dX10_deeper_35 : decode cX10_deeper 35 = .ok (.iadd, 1) := by decide +kernel
theorem dX10_deeper_36 : decode cX10_deeper 36 = .ok (.istore_n 2, 1) := by decide +kernel
theorem dX10_deeper_37 : decode cX10_deeper 37 = .ok (.iinc 3 1, 3) := by decide +kernel
theorem dX10_deeper_40 : decode cX10_deeper 40 = .ok (.goto (-36), 3) := by decide +kernel
theorem dX10_deeper_43 : decode cX10_deeper 43 = .ok (.iload_n 2, 1) := by decide +kernel
theorem dX10_deeper_44 : decode cX10_deeper 44 = .ok (.ireturn, 1) := by decide +kernel
theorem dX10_paler_0 : decode cX10_paler 0 = .ok (.iload_n 0, 1) := by decide +kernel
theorem dX10_paler_1 : decode cX10_paler 1 = .ok (.iload_n 1, 1) := by decide +kernel
theorem dX10_paler_2 : decode cX10_paler 2 = .ok (.invokestatic 368, 3) := by decide +kernel
theorem dX10_paler_5 : decode cX10_paler 5 = .ok (.ifCond .le 12, 3) := by decide +kernel
theorem dX10_paler_8 : decode cX10_paler 8 = .ok (.iload_n 0, 1) := by decide +kernel
theorem dX10_paler_9 : decode cX10_paler 9 = .ok (.iload_n 1, 1) := by decide +kernel
theorem dX10_paler_10 : decode cX10_paler 10 = .ok (.invokestatic 387, 3) := by decide +kernel
theorem dX10_paler_13 : decode cX10_paler 13 = .ok (.isub, 1) := by decide +kernel
theorem dX10_paler_14 : decode cX10_paler 14 = .ok (.goto 4, 3) := by decide +kernel
theorem dX10_paler_17 : decode cX10_paler 17 = .ok (.iload_n 0, 1) := by decide +kernel
theorem dX10_paler_18 : decode cX10_paler 18 = .ok (.ireturn, 1) := by decide +kernel
theorem dX10_holds_0 : decode cX10_holds 0 = .ok (.iload_n 0, 1) := by decide +kernel
theorem dX10_holds_1 : decode cX10_holds 1 = .ok (.iconst 0, 1) := by decide +kernel
theorem dX10_holds_2 : decode cX10_holds 2 = .ok (.invokestatic 368, 3) := by decide +kernel
theorem dX10_holds_5 : decode cX10_holds 5 = .ok (.iload_n 1, 1) := by decide +kernel
theorem dX10_holds_6 : decode cX10_holds 6 = .ok (.iconst 0, 1) := by decide +kernel
theorem dX10_holds_7 : decode cX10_holds 7 = .ok (.invokestatic 368, 3) := by decide +kernel
theorem dX10_holds_10 : decode cX10_holds 10 = .ok (.if_icmp .lt 33, 3) := by decide +kernel
theorem dX10_holds_13 : decode cX10_holds 13 = .ok (.iload_n 0, 1) := by decide +kernel
theorem dX10_holds_14 : decode cX10_holds 14 = .ok (.iconst 1, 1) := by decide +kernel
theorem dX10_holds_15 : decode cX10_holds 15 = .ok (.invokestatic 368, 3) := by decide +kernel
theorem dX10_holds_18 : decode cX10_holds 18 = .ok (.iload_n 1, 1) := by decide +kernel
theorem dX10_holds_19 : decode cX10_holds 19 = .ok (.iconst 1, 1) := by decide +kernel
theorem dX10_holds_20 : decode cX10_holds 20 = .ok (.invokestatic 368, 3) := by decide +kernel
theorem dX10_holds_23 : decode cX10_holds 23 = .ok (.if_icmp .lt 20, 3) := by decide +kernel
theorem dX10_holds_26 : decode cX10_holds 26 = .ok (.iload_n 0, 1) := by decide +kernel
theorem dX10_holds_27 : decode cX10_holds 27 = .ok (.iconst 2, 1) := by decide +kernel
theorem dX10_holds_28 : decode cX10_holds 28 = .ok (.invokestatic 368, 3) := by decide +kernel
theorem dX10_holds_31 : decode cX10_holds 31 = .ok (.iload_n 1, 1) := by decide +kernel
theorem dX10_holds_32 : decode cX10_holds 32 = .ok (.iconst 2, 1) := by decide +kernel
theorem dX10_holds_33 : decode cX10_holds 33 = .ok (.invokestatic 368, 3) := by decide +kernel
theorem dX10_holds_36 : decode cX10_holds 36 = .ok (.if_icmp .lt 7, 3) := by decide +kernel
theorem dX10_holds_39 : decode cX10_holds 39 = .ok (.iconst 1, 1) := by decide +kernel
theorem dX10_holds_40 : decode cX10_holds 40 = .ok (.goto 4, 3) := by decide +kernel
theorem dX10_holds_43 : decode cX10_holds 43 = .ok (.iconst 0, 1) := by decide +kernel
theorem dX10_holds_44 : decode cX10_holds 44 = .ok (.ireturn, 1) := by decide +kernel
theorem dX10_isDigit_0 : decode cX10_isDigit 0 = .ok (.iload_n 0, 1) := by decide +kernel
theorem dX10_isDigit_1 : decode cX10_isDigit 1 = .ok (.bipush 48, 2) := by decide +kernel
theorem dX10_isDigit_3 : decode cX10_isDigit 3 = .ok (.if_icmp .lt 13, 3) := by decide +kernel
theorem dX10_isDigit_6 : decode cX10_isDigit 6 = .ok (.iload_n 0, 1) := by decide +kernel
theorem dX10_isDigit_7 : decode cX10_isDigit 7 = .ok (.bipush 57, 2) := by decide +kernel
theorem dX10_isDigit_9 : decode cX10_isDigit 9 = .ok (.if_icmp .gt 7, 3) := by decide +kernel
theorem dX10_isDigit_12 : decode cX10_isDigit 12 = .ok (.iconst 1, 1) := by decide +kernel
theorem dX10_isDigit_13 : decode cX10_isDigit 13 = .ok (.goto 4, 3) := by decide +kernel
theorem dX10_isDigit_16 : decode cX10_isDigit 16 = .ok (.iconst 0, 1) := by decide +kernel
theorem dX10_isDigit_17 : decode cX10_isDigit 17 = .ok (.ireturn, 1) := by decide +kernel
theorem dX10_isLetter_0 : decode cX10_isLetter 0 = .ok (.iload_n 0, 1) := by decide +kernel
theorem dX10_isLetter_1 : decode cX10_isLetter 1 = .ok (.bipush 97, 2) := by decide +kernel
theorem dX10_isLetter_3 : decode cX10_isLetter 3 = .ok (.if_icmp .lt 13, 3) := by decide +kernel
theorem dX10_isLetter_6 : decode cX10_isLetter 6 = .ok (.iload_n 0, 1) := by decide +kernel
theorem dX10_isLetter_7 : decode cX10_isLetter 7 = .ok (.bipush 122, 2) := by decide +kernel
theorem dX10_isLetter_9 : decode cX10_isLetter 9 = .ok (.if_icmp .gt 7, 3) := by decide +kernel
theorem dX10_isLetter_12 : decode cX10_isLetter 12 = .ok (.iconst 1, 1) := by decide +kernel
theorem dX10_isLetter_13 : decode cX10_isLetter 13 = .ok (.goto 4, 3) := by decide +kernel
theorem dX10_isLetter_16 : decode cX10_isLetter 16 = .ok (.iconst 0, 1) := by decide +kernel
theorem dX10_isLetter_17 : decode cX10_isLetter 17 = .ok (.ireturn, 1) := by decide +kernel
theorem dJ6_bitCount_0f7a4_0 : decode cJ6_bitCount_0f7a4 0 = .ok (.iload_n 0, 1) := by decide +kernel
theorem dJ6_bitCount_0f7a4_1 : decode cJ6_bitCount_0f7a4 1 = .ok (.iload_n 0, 1) := by decide +kernel
theorem dJ6_bitCount_0f7a4_2 : decode cJ6_bitCount_0f7a4 2 = .ok (.iconst 1, 1) := by decide +kernel
theorem dJ6_bitCount_0f7a4_3 : decode cJ6_bitCount_0f7a4 3 = .ok (.iushr, 1) := by decide +kernel
theorem dJ6_bitCount_0f7a4_4 : decode cJ6_bitCount_0f7a4 4 = .ok (.ldc_w 265, 3) := by decide +kernel
theorem dJ6_bitCount_0f7a4_7 : decode cJ6_bitCount_0f7a4 7 = .ok (.iand, 1) := by decide +kernel
theorem dJ6_bitCount_0f7a4_8 : decode cJ6_bitCount_0f7a4 8 = .ok (.isub, 1) := by decide +kernel
theorem dJ6_bitCount_0f7a4_9 : decode cJ6_bitCount_0f7a4 9 = .ok (.istore_n 0, 1) := by decide +kernel
theorem dJ6_bitCount_0f7a4_10 : decode cJ6_bitCount_0f7a4 10 = .ok (.iload_n 0, 1) := by decide +kernel
theorem dJ6_bitCount_0f7a4_11 : decode cJ6_bitCount_0f7a4 11 = .ok (.ldc_w 266, 3) := by decide +kernel
theorem dJ6_bitCount_0f7a4_14 : decode cJ6_bitCount_0f7a4 14 = .ok (.iand, 1) := by decide +kernel
theorem dJ6_bitCount_0f7a4_15 : decode cJ6_bitCount_0f7a4 15 = .ok (.iload_n 0, 1) := by decide +kernel
theorem dJ6_bitCount_0f7a4_16 : decode cJ6_bitCount_0f7a4 16 = .ok (.iconst 2, 1) := by decide +kernel
theorem dJ6_bitCount_0f7a4_17 : decode cJ6_bitCount_0f7a4 17 = .ok (.iushr, 1) := by decide +kernel
theorem dJ6_bitCount_0f7a4_18 : decode cJ6_bitCount_0f7a4 18 = .ok (.ldc_w 266, 3) := by decide +kernel
theorem dJ6_bitCount_0f7a4_21 : decode cJ6_bitCount_0f7a4 21 = .ok (.iand, 1) := by decide +kernel
theorem dJ6_bitCount_0f7a4_22 : decode cJ6_bitCount_0f7a4 22 = .ok (.iadd, 1) := by decide +kernel
theorem dJ6_bitCount_0f7a4_23 : decode cJ6_bitCount_0f7a4 23 = .ok (.istore_n 0, 1) := by decide +kernel
theorem dJ6_bitCount_0f7a4_24 : decode cJ6_bitCount_0f7a4 24 = .ok (.iload_n 0, 1) := by decide +kernel
theorem dJ6_bitCount_0f7a4_25 : decode cJ6_bitCount_0f7a4 25 = .ok (.iload_n 0, 1) := by decide +kernel
theorem dJ6_bitCount_0f7a4_26 : decode cJ6_bitCount_0f7a4 26 = .ok (.iconst 4, 1) := by decide +kernel
theorem dJ6_bitCount_0f7a4_27 : decode cJ6_bitCount_0f7a4 27 = .ok (.iushr, 1) := by decide +kernel
theorem dJ6_bitCount_0f7a4_28 : decode cJ6_bitCount_0f7a4 28 = .ok (.iadd, 1) := by decide +kernel
theorem dJ6_bitCount_0f7a4_29 : decode cJ6_bitCount_0f7a4 29 = .ok (.ldc_w 267, 3) := by decide +kernel
theorem dJ6_bitCount_0f7a4_32 : decode cJ6_bitCount_0f7a4 32 = .ok (.iand, 1) := by decide +kernel
theorem dJ6_bitCount_0f7a4_33 : decode cJ6_bitCount_0f7a4 33 = .ok (.istore_n 0, 1) := by decide +kernel
theorem dJ6_bitCount_0f7a4_34 : decode cJ6_bitCount_0f7a4 34 = .ok (.iload_n 0, 1) := by decide +kernel
theorem dJ6_bitCount_0f7a4_35 : decode cJ6_bitCount_0f7a4 35 = .ok (.iload_n 0, 1) := by decide +kernel
theorem dJ6_bitCount_0f7a4_36 : decode cJ6_bitCount_0f7a4 36 = .ok (.bipush 8, 2) := by decide +kernel
theorem dJ6_bitCount_0f7a4_38 : decode cJ6_bitCount_0f7a4 38 = .ok (.iushr, 1) := by decide +kernel
theorem dJ6_bitCount_0f7a4_39 : decode cJ6_bitCount_0f7a4 39 = .ok (.iadd, 1) := by decide +kernel
theorem dJ6_bitCount_0f7a4_40 : decode cJ6_bitCount_0f7a4 40 = .ok (.istore_n 0, 1) := by decide +kernel
theorem dJ6_bitCount_0f7a4_41 : decode cJ6_bitCount_0f7a4 41 = .ok (.iload_n 0, 1) := by decide +kernel
theorem dJ6_bitCount_0f7a4_42 : decode cJ6_bitCount_0f7a4 42 = .ok (.iload_n 0, 1) := by decide +kernel
theorem dJ6_bitCount_0f7a4_43 : decode cJ6_bitCount_0f7a4 43 = .ok (.bipush 16, 2) := by decide +kernel
theorem dJ6_bitCount_0f7a4_45 : decode cJ6_bitCount_0f7a4 45 = .ok (.iushr, 1) := by decide +kernel
theorem dJ6_bitCount_0f7a4_46 : decode cJ6_bitCount_0f7a4 46 = .ok (.iadd, 1) := by decide +kernel
theorem dJ6_bitCount_0f7a4_47 : decode cJ6_bitCount_0f7a4 47 = .ok (.istore_n 0, 1) := by decide +kernel
theorem dJ6_bitCount_0f7a4_48 : decode cJ6_bitCount_0f7a4 48 = .ok (.iload_n 0, 1) := by decide +kernel
theorem dJ6_bitCount_0f7a4_49 : decode cJ6_bitCount_0f7a4 49 = .ok (.bipush 63, 2) := by decide +kernel
theorem dJ6_bitCount_0f7a4_51 : decode cJ6_bitCount_0f7a4 51 = .ok (.iand, 1) := by decide +kernel
theorem dJ6_bitCount_0f7a4_52 : decode cJ6_bitCount_0f7a4 52 = .ok (.ireturn, 1) := by decide +kernel
theorem dJ9_abs_0f7a4_0 : decode cJ9_abs_0f7a4 0 = .ok (.iload_n 0, 1) := by decide +kernel
theorem dJ9_abs_0f7a4_1 : decode cJ9_abs_0f7a4 1 = .ok (.ifCond .ge 8, 3) := by decide +kernel
theorem dJ9_abs_0f7a4_4 : decode cJ9_abs_0f7a4 4 = .ok (.iload_n 0, 1) := by decide +kernel
theorem dJ9_abs_0f7a4_5 : decode cJ9_abs_0f7a4 5 = .ok (.ineg, 1) := by decide +kernel
theorem dJ9_abs_0f7a4_6 : decode cJ9_abs_0f7a4 6 = .ok (.goto 4, 3) := by decide +kernel
theorem dJ9_abs_0f7a4_9 : decode cJ9_abs_0f7a4 9 = .ok (.iload_n 0, 1) := by decide +kernel
theorem dJ9_abs_0f7a4_10 : decode cJ9_abs_0f7a4 10 = .ok (.ireturn, 1) := by decide +kernel
theorem dJ9_max_7cf53_0 : decode cJ9_max_7cf53 0 = .ok (.iload_n 0, 1) := by decide +kernel
theorem dJ9_max_7cf53_1 : decode cJ9_max_7cf53 1 = .ok (.iload_n 1, 1) := by decide +kernel
theorem dJ9_max_7cf53_2 : decode cJ9_max_7cf53 2 = .ok (.if_icmp .lt 7, 3) := by decide +kernel
theorem dJ9_max_7cf53_5 : decode cJ9_max_7cf53 5 = .ok (.iload_n 0, 1) := by decide +kernel
theorem dJ9_max_7cf53_6 : decode cJ9_max_7cf53 6 = .ok (.goto 4, 3) := by decide +kernel
theorem dJ9_max_7cf53_9 : decode cJ9_max_7cf53 9 = .ok (.iload_n 1, 1) := by decide +kernel
theorem dJ9_max_7cf53_10 : decode cJ9_max_7cf53 10 = .ok (.ireturn, 1) := by decide +kernel
theorem dJ9_min_7cf53_0 : decode cJ9_min_7cf53 0 = .ok (.iload_n 0, 1) := by decide +kernel
theorem dJ9_min_7cf53_1 : decode cJ9_min_7cf53 1 = .ok (.iload_n 1, 1) := by decide +kernel
theorem dJ9_min_7cf53_2 : decode cJ9_min_7cf53 2 = .ok (.if_icmp .gt 7, 3) := by decide +kernel
theorem dJ9_min_7cf53_5 : decode cJ9_min_7cf53 5 = .ok (.iload_n 0, 1) := by decide +kernel
theorem dJ9_min_7cf53_6 : decode cJ9_min_7cf53 6 = .ok (.goto 4, 3) := by decide +kernel
theorem dJ9_min_7cf53_9 : decode cJ9_min_7cf53 9 = .ok (.iload_n 1, 1) := by decide +kernel
theorem dJ9_min_7cf53_10 : decode cJ9_min_7cf53 10 = .ok (.ireturn, 1) := by decide +kernel
theorem dJ0_length_8abf5_0 : decode cJ0_length_8abf5 0 = .ok (.aload_n 0, 1) := by decide +kernel
theorem dJ0_length_8abf5_1 : decode cJ0_length_8abf5 1 = .ok (.getfield 9, 3) := by decide +kernel
theorem dJ0_length_8abf5_4 : decode cJ0_length_8abf5 4 = .ok (.arraylength, 1) := by decide +kernel
theorem dJ0_length_8abf5_5 : decode cJ0_length_8abf5 5 = .ok (.aload_n 0, 1) := by decide +kernel
theorem dJ0_length_8abf5_6 : decode cJ0_length_8abf5 6 = .ok (.invokevirtual 335, 3) := by decide +kernel
theorem dJ0_length_8abf5_9 : decode cJ0_length_8abf5 9 = .ok (.ishr, 1) := by decide +kernel
theorem dJ0_length_8abf5_10 : decode cJ0_length_8abf5 10 = .ok (.ireturn, 1) := by decide +kernel
theorem dJ0_charAt_5068e_0 : decode cJ0_charAt_5068e 0 = .ok (.aload_n 0, 1) := by decide +kernel
theorem dJ0_charAt_5068e_1 : decode cJ0_charAt_5068e 1 = .ok (.invokevirtual 492, 3) := by decide +kernel
theorem dJ0_charAt_5068e_4 : decode cJ0_charAt_5068e 4 = .ok (.ifCond .eq 12, 3) := by decide +kernel
theorem dJ0_charAt_5068e_7 : decode cJ0_charAt_5068e 7 = .ok (.aload_n 0, 1) := by decide +kernel
theorem dJ0_charAt_5068e_8 : decode cJ0_charAt_5068e 8 = .ok (.getfield 9, 3) := by decide +kernel
theorem dJ0_charAt_5068e_11 : decode cJ0_charAt_5068e 11 = .ok (.iload_n 1, 1) := by decide +kernel
theorem dJ0_charAt_5068e_12 : decode cJ0_charAt_5068e 12 = .ok (.invokestatic 495, 3) := by decide +kernel
theorem dJ0_charAt_5068e_15 : decode cJ0_charAt_5068e 15 = .ok (.ireturn, 1) := by decide +kernel
theorem dJ0_charAt_5068e_16 : decode cJ0_charAt_5068e 16 = .ok (.aload_n 0, 1) := by decide +kernel
theorem dJ0_charAt_5068e_17 : decode cJ0_charAt_5068e 17 = .ok (.getfield 9, 3) := by decide +kernel
theorem dJ0_charAt_5068e_20 : decode cJ0_charAt_5068e 20 = .ok (.iload_n 1, 1) := by decide +kernel
theorem dJ0_charAt_5068e_21 : decode cJ0_charAt_5068e 21 = .ok (.invokestatic 498, 3) := by decide +kernel
theorem dJ0_charAt_5068e_24 : decode cJ0_charAt_5068e 24 = .ok (.ireturn, 1) := by decide +kernel
theorem dJ0_coder_7d493_0 : decode cJ0_coder_7d493 0 = .ok (.getstatic 38, 3) := by decide +kernel
theorem dJ0_coder_7d493_3 : decode cJ0_coder_7d493 3 = .ok (.ifCond .eq 10, 3) := by decide +kernel
theorem dJ0_coder_7d493_6 : decode cJ0_coder_7d493 6 = .ok (.aload_n 0, 1) := by decide +kernel
theorem dJ0_coder_7d493_7 : decode cJ0_coder_7d493 7 = .ok (.getfield 15, 3) := by decide +kernel
theorem dJ0_coder_7d493_10 : decode cJ0_coder_7d493 10 = .ok (.goto 4, 3) := by decide +kernel
theorem dJ0_coder_7d493_13 : decode cJ0_coder_7d493 13 = .ok (.iconst 1, 1) := by decide +kernel
theorem dJ0_coder_7d493_14 : decode cJ0_coder_7d493 14 = .ok (.ireturn, 1) := by decide +kernel
theorem dJ0_isLatin1_aae02_0 : decode cJ0_isLatin1_aae02 0 = .ok (.getstatic 38, 3) := by decide +kernel
theorem dJ0_isLatin1_aae02_3 : decode cJ0_isLatin1_aae02 3 = .ok (.ifCond .eq 14, 3) := by decide +kernel
theorem dJ0_isLatin1_aae02_6 : decode cJ0_isLatin1_aae02 6 = .ok (.aload_n 0, 1) := by decide +kernel
theorem dJ0_isLatin1_aae02_7 : decode cJ0_isLatin1_aae02 7 = .ok (.getfield 15, 3) := by decide +kernel
theorem dJ0_isLatin1_aae02_10 : decode cJ0_isLatin1_aae02 10 = .ok (.ifCond .ne 7, 3) := by decide +kernel
theorem dJ0_isLatin1_aae02_13 : decode cJ0_isLatin1_aae02 13 = .ok (.iconst 1, 1) := by decide +kernel
theorem dJ0_isLatin1_aae02_14 : decode cJ0_isLatin1_aae02 14 = .ok (.goto 4, 3) := by decide +kernel
theorem dJ0_isLatin1_aae02_17 : decode cJ0_isLatin1_aae02 17 = .ok (.iconst 0, 1) := by decide +kernel
theorem dJ0_isLatin1_aae02_18 : decode cJ0_isLatin1_aae02 18 = .ok (.ireturn, 1) := by decide +kernel
theorem dJ0_checkIndex_df160_0 : decode cJ0_checkIndex_df160 0 = .ok (.iload_n 0, 1) := by decide +kernel
theorem dJ0_checkIndex_df160_1 : decode cJ0_checkIndex_df160 1 = .ok (.iload_n 1, 1) := by decide +kernel
theorem dJ0_checkIndex_df160_2 : decode cJ0_checkIndex_df160 2 = .ok (.getstatic 1053, 3) := by decide +kernel
theorem dJ0_checkIndex_df160_5 : decode cJ0_checkIndex_df160 5 = .ok (.invokestatic 1059, 3) := by decide +kernel
theorem dJ0_checkIndex_df160_8 : decode cJ0_checkIndex_df160 8 = .ok (.pop, 1) := by decide +kernel
theorem dJ0_checkIndex_df160_9 : decode cJ0_checkIndex_df160 9 = .ok (.return_, 1) := by decide +kernel
theorem dJ1_charAt_3b067_0 : decode cJ1_charAt_3b067 0 = .ok (.iload_n 1, 1) := by decide +kernel
theorem dJ1_charAt_3b067_1 : decode cJ1_charAt_3b067 1 = .ok (.aload_n 0, 1) := by decide +kernel
theorem dJ1_charAt_3b067_2 : decode cJ1_charAt_3b067 2 = .ok (.arraylength, 1) := by decide +kernel
theorem dJ1_charAt_3b067_3 : decode cJ1_charAt_3b067 3 = .ok (.invokestatic 9, 3) := by decide +kernel
theorem dJ1_charAt_3b067_6 : decode cJ1_charAt_3b067 6 = .ok (.aload_n 0, 1) := by decide +kernel
theorem dJ1_charAt_3b067_7 : decode cJ1_charAt_3b067 7 = .ok (.iload_n 1, 1) := by decide +kernel
theorem dJ1_charAt_3b067_8 : decode cJ1_charAt_3b067 8 = .ok (.baload, 1) := by decide +kernel
theorem dJ1_charAt_3b067_9 : decode cJ1_charAt_3b067 9 = .ok (.sipush 255, 3) := by decide +kernel
theorem dJ1_charAt_3b067_12 : decode cJ1_charAt_3b067 12 = .ok (.iand, 1) := by decide +kernel
theorem dJ1_charAt_3b067_13 : decode cJ1_charAt_3b067 13 = .ok (.i2c, 1) := by decide +kernel
theorem dJ1_charAt_3b067_14 : decode cJ1_charAt_3b067 14 = .ok (.ireturn, 1) := by decide +kernel
theorem dJ2_getChar_3b067_0 : decode cJ2_getChar_3b067 0 = .ok (.getstatic 44, 3) := by decide +kernel
theorem dJ2_getChar_3b067_3 : decode cJ2_getChar_3b067 3 = .ok (.ifCond .ne 25, 3) := by decide +kernel
theorem dJ2_getChar_3b067_6 : decode cJ2_getChar_3b067 6 = .ok (.iload_n 1, 1) := by decide +kernel
theorem dJ2_getChar_3b067_7 : decode cJ2_getChar_3b067 7 = .ok (.ifCond .lt 11, 3) := by decide +kernel
theorem dJ2_getChar_3b067_10 : decode cJ2_getChar_3b067 10 = .ok (.iload_n 1, 1) := by decide +kernel
theorem dJ2_getChar_3b067_11 : decode cJ2_getChar_3b067 11 = .ok (.aload_n 0, 1) := by decide +kernel
theorem dJ2_getChar_3b067_12 : decode cJ2_getChar_3b067 12 = .ok (.invokestatic 48, 3) := by decide +kernel
theorem dJ2_getChar_3b067_15 : decode cJ2_getChar_3b067 15 = .ok (.if_icmp .lt 13, 3) := by decide +kernel
theorem dJ2_getChar_3b067_18 : decode cJ2_getChar_3b067 18 = .ok (.new 52, 3) := by decide +kernel
theorem dJ2_getChar_3b067_21 : decode cJ2_getChar_3b067 21 = .ok (.dup, 1) := by decide +kernel
theorem dJ2_getChar_3b067_22 : decode cJ2_getChar_3b067 22 = .ok (.ldc 54, 2) := by decide +kernel
theorem dJ2_getChar_3b067_24 : decode cJ2_getChar_3b067 24 = .ok (.invokespecial 56, 3) := by decide +kernel
theorem dJ2_getChar_3b067_27 : decode cJ2_getChar_3b067 27 = .ok (.athrow, 1) := by decide +kernel
theorem dJ2_getChar_3b067_28 : decode cJ2_getChar_3b067 28 = .ok (.iload_n 1, 1) := by decide +kernel
theorem dJ2_getChar_3b067_29 : decode cJ2_getChar_3b067 29 = .ok (.iconst 1, 1) := by decide +kernel
theorem dJ2_getChar_3b067_30 : decode cJ2_getChar_3b067 30 = .ok (.ishl, 1) := by decide +kernel
theorem dJ2_getChar_3b067_31 : decode cJ2_getChar_3b067 31 = .ok (.istore_n 1, 1) := by decide +kernel
theorem dJ2_getChar_3b067_32 : decode cJ2_getChar_3b067 32 = .ok (.aload_n 0, 1) := by decide +kernel
theorem dJ2_getChar_3b067_33 : decode cJ2_getChar_3b067 33 = .ok (.iload_n 1, 1) := by decide +kernel
theorem dJ2_getChar_3b067_34 : decode cJ2_getChar_3b067 34 = .ok (.iinc 1 1, 3) := by decide +kernel
theorem dJ2_getChar_3b067_37 : decode cJ2_getChar_3b067 37 = .ok (.baload, 1) := by decide +kernel
theorem dJ2_getChar_3b067_38 : decode cJ2_getChar_3b067 38 = .ok (.sipush 255, 3) := by decide +kernel
theorem dJ2_getChar_3b067_41 : decode cJ2_getChar_3b067 41 = .ok (.iand, 1) := by decide +kernel
theorem dJ2_getChar_3b067_42 : decode cJ2_getChar_3b067 42 = .ok (.getstatic 59, 3) := by decide +kernel
theorem dJ2_getChar_3b067_45 : decode cJ2_getChar_3b067 45 = .ok (.ishl, 1) := by decide +kernel
theorem dJ2_getChar_3b067_46 : decode cJ2_getChar_3b067 46 = .ok (.aload_n 0, 1) := by decide +kernel
theorem dJ2_getChar_3b067_47 : decode cJ2_getChar_3b067 47 = .ok (.iload_n 1, 1) := by decide +kernel
theorem dJ2_getChar_3b067_48 : decode cJ2_getChar_3b067 48 = .ok (.baload, 1) := by decide +kernel
theorem dJ2_getChar_3b067_49 : decode cJ2_getChar_3b067 49 = .ok (.sipush 255, 3) := by decide +kernel
theorem dJ2_getChar_3b067_52 : decode cJ2_getChar_3b067 52 = .ok (.iand, 1) := by decide +kernel
theorem dJ2_getChar_3b067_53 : decode cJ2_getChar_3b067 53 = .ok (.getstatic 63, 3) := by decide +kernel
theorem dJ2_getChar_3b067_56 : decode cJ2_getChar_3b067 56 = .ok (.ishl, 1) := by decide +kernel
theorem dJ2_getChar_3b067_57 : decode cJ2_getChar_3b067 57 = .ok (.ior, 1) := by decide +kernel
theorem dJ2_getChar_3b067_58 : decode cJ2_getChar_3b067 58 = .ok (.i2c, 1) := by decide +kernel
theorem dJ2_getChar_3b067_59 : decode cJ2_getChar_3b067 59 = .ok (.ireturn, 1) := by decide +kernel
theorem dJ2_length_9d52b_0 : decode cJ2_length_9d52b 0 = .ok (.aload_n 0, 1) := by decide +kernel
theorem dJ2_length_9d52b_1 : decode cJ2_length_9d52b 1 = .ok (.arraylength, 1) := by decide +kernel
theorem dJ2_length_9d52b_2 : decode cJ2_length_9d52b 2 = .ok (.iconst 1, 1) := by decide +kernel
theorem dJ2_length_9d52b_3 : decode cJ2_length_9d52b 3 = .ok (.ishr, 1) := by decide +kernel
theorem dJ2_length_9d52b_4 : decode cJ2_length_9d52b 4 = .ok (.ireturn, 1) := by decide +kernel
theorem dJ2_charAt_3b067_0 : decode cJ2_charAt_3b067 0 = .ok (.iload_n 1, 1) := by decide +kernel
theorem dJ2_charAt_3b067_1 : decode cJ2_charAt_3b067 1 = .ok (.aload_n 0, 1) := by decide +kernel
theorem dJ2_charAt_3b067_2 : decode cJ2_charAt_3b067 2 = .ok (.invokestatic 67, 3) := by decide +kernel
theorem dJ2_charAt_3b067_5 : decode cJ2_charAt_3b067 5 = .ok (.aload_n 0, 1) := by decide +kernel
theorem dJ2_charAt_3b067_6 : decode cJ2_charAt_3b067 6 = .ok (.iload_n 1, 1) := by decide +kernel
theorem dJ2_charAt_3b067_7 : decode cJ2_charAt_3b067 7 = .ok (.invokestatic 71, 3) := by decide +kernel
theorem dJ2_charAt_3b067_10 : decode cJ2_charAt_3b067 10 = .ok (.ireturn, 1) := by decide +kernel
theorem dJ2_checkIndex_2214a_0 : decode cJ2_checkIndex_2214a 0 = .ok (.iload_n 0, 1) := by decide +kernel
theorem dJ2_checkIndex_2214a_1 : decode cJ2_checkIndex_2214a 1 = .ok (.aload_n 1, 1) := by decide +kernel
theorem dJ2_checkIndex_2214a_2 : decode cJ2_checkIndex_2214a 2 = .ok (.invokestatic 48, 3) := by decide +kernel
theorem dJ2_checkIndex_2214a_5 : decode cJ2_checkIndex_2214a 5 = .ok (.invokestatic 414, 3) := by decide +kernel
theorem dJ2_checkIndex_2214a_8 : decode cJ2_checkIndex_2214a 8 = .ok (.return_, 1) := by decide +kernel
theorem dJ3_checkIndex_8e157_0 : decode cJ3_checkIndex_8e157 0 = .ok (.iload_n 0, 1) := by decide +kernel
theorem dJ3_checkIndex_8e157_1 : decode cJ3_checkIndex_8e157 1 = .ok (.ifCond .lt 8, 3) := by decide +kernel
theorem dJ3_checkIndex_8e157_4 : decode cJ3_checkIndex_8e157 4 = .ok (.iload_n 0, 1) := by decide +kernel
theorem dJ3_checkIndex_8e157_5 : decode cJ3_checkIndex_8e157 5 = .ok (.iload_n 1, 1) := by decide +kernel
theorem dJ3_checkIndex_8e157_6 : decode cJ3_checkIndex_8e157 6 = .ok (.if_icmp .lt 10, 3) := by decide +kernel
theorem dJ3_checkIndex_8e157_9 : decode cJ3_checkIndex_8e157 9 = .ok (.aload_n 2, 1) := by decide +kernel
theorem dJ3_checkIndex_8e157_10 : decode cJ3_checkIndex_8e157 10 = .ok (.iload_n 0, 1) := by decide +kernel
theorem dJ3_checkIndex_8e157_11 : decode cJ3_checkIndex_8e157 11 = .ok (.iload_n 1, 1) := by decide +kernel
theorem dJ3_checkIndex_8e157_12 : decode cJ3_checkIndex_8e157 12 = .ok (.invokestatic 95, 3) := by decide +kernel
theorem dJ3_checkIndex_8e157_15 : decode cJ3_checkIndex_8e157 15 = .ok (.athrow, 1) := by decide +kernel
theorem dJ3_checkIndex_8e157_16 : decode cJ3_checkIndex_8e157 16 = .ok (.iload_n 0, 1) := by decide +kernel
theorem dJ3_checkIndex_8e157_17 : decode cJ3_checkIndex_8e157 17 = .ok (.ireturn, 1) := by decide +kernel
