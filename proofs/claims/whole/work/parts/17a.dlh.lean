/-! ===== the helpers that catch: their code ===== -/
theorem dL_city_0 : decode cL_city 0 = .ok (.aload_n 2, 1) := by decide +kernel
theorem dL_city_1 : decode cL_city 1 = .ok (.iconst 0, 1) := by decide +kernel
theorem dL_city_2 : decode cL_city 2 = .ok (.aload_n 0, 1) := by decide +kernel
theorem dL_city_3 : decode cL_city 3 = .ok (.iload_n 1, 1) := by decide +kernel
theorem dL_city_4 : decode cL_city 4 = .ok (.invokevirtual 7, 3) := by decide +kernel
theorem dL_city_7 : decode cL_city 7 = .ok (.i2l, 1) := by decide +kernel
theorem dL_city_8 : decode cL_city 8 = .ok (.lastore, 1) := by decide +kernel
theorem dL_city_9 : decode cL_city 9 = .ok (.goto 6, 3) := by decide +kernel
theorem dL_city_12 : decode cL_city 12 = .ok (.astore_n 3, 1) := by decide +kernel
theorem dL_city_13 : decode cL_city 13 = .ok (.iconst 1, 1) := by decide +kernel
theorem dL_city_14 : decode cL_city 14 = .ok (.ireturn, 1) := by decide +kernel
theorem dL_city_15 : decode cL_city 15 = .ok (.iconst 0, 1) := by decide +kernel
theorem dL_city_16 : decode cL_city 16 = .ok (.ireturn, 1) := by decide +kernel
theorem dL_law_0 : decode cL_law 0 = .ok (.aload_n 2, 1) := by decide +kernel
theorem dL_law_1 : decode cL_law 1 = .ok (.iconst 0, 1) := by decide +kernel
theorem dL_law_2 : decode cL_law 2 = .ok (.aload_n 0, 1) := by decide +kernel
theorem dL_law_3 : decode cL_law 3 = .ok (.iload_n 1, 1) := by decide +kernel
theorem dL_law_4 : decode cL_law 4 = .ok (.invokevirtual 15, 3) := by decide +kernel
theorem dL_law_7 : decode cL_law 7 = .ok (.i2l, 1) := by decide +kernel
theorem dL_law_8 : decode cL_law 8 = .ok (.lastore, 1) := by decide +kernel
theorem dL_law_9 : decode cL_law 9 = .ok (.goto 6, 3) := by decide +kernel
theorem dL_law_12 : decode cL_law 12 = .ok (.astore_n 3, 1) := by decide +kernel
theorem dL_law_13 : decode cL_law 13 = .ok (.iconst 1, 1) := by decide +kernel
theorem dL_law_14 : decode cL_law 14 = .ok (.ireturn, 1) := by decide +kernel
theorem dL_law_15 : decode cL_law 15 = .ok (.iconst 0, 1) := by decide +kernel
theorem dL_law_16 : decode cL_law 16 = .ok (.ireturn, 1) := by decide +kernel
theorem dL_work_0 : decode cL_work 0 = .ok (.aload_n 2, 1) := by decide +kernel
theorem dL_work_1 : decode cL_work 1 = .ok (.iconst 0, 1) := by decide +kernel
theorem dL_work_2 : decode cL_work 2 = .ok (.aload_n 0, 1) := by decide +kernel
theorem dL_work_3 : decode cL_work 3 = .ok (.iload_n 1, 1) := by decide +kernel
theorem dL_work_4 : decode cL_work 4 = .ok (.invokevirtual 18, 3) := by decide +kernel
theorem dL_work_7 : decode cL_work 7 = .ok (.i2l, 1) := by decide +kernel
theorem dL_work_8 : decode cL_work 8 = .ok (.lastore, 1) := by decide +kernel
theorem dL_work_9 : decode cL_work 9 = .ok (.goto 6, 3) := by decide +kernel
theorem dL_work_12 : decode cL_work 12 = .ok (.astore_n 3, 1) := by decide +kernel
theorem dL_work_13 : decode cL_work 13 = .ok (.iconst 1, 1) := by decide +kernel
theorem dL_work_14 : decode cL_work 14 = .ok (.ireturn, 1) := by decide +kernel
theorem dL_work_15 : decode cL_work 15 = .ok (.iconst 0, 1) := by decide +kernel
theorem dL_work_16 : decode cL_work 16 = .ok (.ireturn, 1) := by decide +kernel
theorem dL_book_0 : decode cL_book 0 = .ok (.aload_n 2, 1) := by decide +kernel
theorem dL_book_1 : decode cL_book 1 = .ok (.iconst 0, 1) := by decide +kernel
theorem dL_book_2 : decode cL_book 2 = .ok (.aload_n 0, 1) := by decide +kernel
theorem dL_book_3 : decode cL_book 3 = .ok (.iload_n 1, 1) := by decide +kernel
theorem dL_book_4 : decode cL_book 4 = .ok (.invokevirtual 21, 3) := by decide +kernel
theorem dL_book_7 : decode cL_book 7 = .ok (.i2l, 1) := by decide +kernel
theorem dL_book_8 : decode cL_book 8 = .ok (.lastore, 1) := by decide +kernel
theorem dL_book_9 : decode cL_book 9 = .ok (.goto 6, 3) := by decide +kernel
theorem dL_book_12 : decode cL_book 12 = .ok (.astore_n 3, 1) := by decide +kernel
theorem dL_book_13 : decode cL_book 13 = .ok (.iconst 1, 1) := by decide +kernel
theorem dL_book_14 : decode cL_book 14 = .ok (.ireturn, 1) := by decide +kernel
theorem dL_book_15 : decode cL_book 15 = .ok (.iconst 0, 1) := by decide +kernel
theorem dL_book_16 : decode cL_book 16 = .ok (.ireturn, 1) := by decide +kernel
theorem dL_told_0 : decode cL_told 0 = .ok (.aload_n 2, 1) := by decide +kernel
theorem dL_told_1 : decode cL_told 1 = .ok (.iconst 0, 1) := by decide +kernel
theorem dL_told_2 : decode cL_told 2 = .ok (.aload_n 0, 1) := by decide +kernel
theorem dL_told_3 : decode cL_told 3 = .ok (.iload_n 1, 1) := by decide +kernel
theorem dL_told_4 : decode cL_told 4 = .ok (.invokevirtual 24, 3) := by decide +kernel
theorem dL_told_7 : decode cL_told 7 = .ok (.i2l, 1) := by decide +kernel
theorem dL_told_8 : decode cL_told 8 = .ok (.lastore, 1) := by decide +kernel
theorem dL_told_9 : decode cL_told 9 = .ok (.goto 6, 3) := by decide +kernel
theorem dL_told_12 : decode cL_told 12 = .ok (.astore_n 3, 1) := by decide +kernel
theorem dL_told_13 : decode cL_told 13 = .ok (.iconst 1, 1) := by decide +kernel
theorem dL_told_14 : decode cL_told 14 = .ok (.ireturn, 1) := by decide +kernel
theorem dL_told_15 : decode cL_told 15 = .ok (.iconst 0, 1) := by decide +kernel
theorem dL_told_16 : decode cL_told 16 = .ok (.ireturn, 1) := by decide +kernel
theorem dL_street_0 : decode cL_street 0 = .ok (.aload_n 3, 1) := by decide +kernel
theorem dL_street_1 : decode cL_street 1 = .ok (.iconst 0, 1) := by decide +kernel
theorem dL_street_2 : decode cL_street 2 = .ok (.aload_n 0, 1) := by decide +kernel
theorem dL_street_3 : decode cL_street 3 = .ok (.iload_n 1, 1) := by decide +kernel
theorem dL_street_4 : decode cL_street 4 = .ok (.iload_n 2, 1) := by decide +kernel
theorem dL_street_5 : decode cL_street 5 = .ok (.invokevirtual 27, 3) := by decide +kernel
theorem dL_street_8 : decode cL_street 8 = .ok (.i2l, 1) := by decide +kernel
theorem dL_street_9 : decode cL_street 9 = .ok (.lastore, 1) := by decide +kernel
theorem dL_street_10 : decode cL_street 10 = .ok (.goto 11, 3) := by decide +kernel
theorem dL_street_13 : decode cL_street 13 = .ok (.astore 4, 2) := by decide +kernel
theorem dL_street_15 : decode cL_street 15 = .ok (.iconst 1, 1) := by decide +kernel
theorem dL_street_16 : decode cL_street 16 = .ok (.ireturn, 1) := by decide +kernel
theorem dL_street_17 : decode cL_street 17 = .ok (.astore 4, 2) := by decide +kernel
theorem dL_street_19 : decode cL_street 19 = .ok (.iconst 2, 1) := by decide +kernel
theorem dL_street_20 : decode cL_street 20 = .ok (.ireturn, 1) := by decide +kernel
theorem dL_street_21 : decode cL_street 21 = .ok (.iconst 0, 1) := by decide +kernel
theorem dL_street_22 : decode cL_street 22 = .ok (.ireturn, 1) := by decide +kernel
theorem dL_person_0 : decode cL_person 0 = .ok (.aload_n 3, 1) := by decide +kernel
theorem dL_person_1 : decode cL_person 1 = .ok (.iconst 0, 1) := by decide +kernel
theorem dL_person_2 : decode cL_person 2 = .ok (.aload_n 0, 1) := by decide +kernel
theorem dL_person_3 : decode cL_person 3 = .ok (.iload_n 1, 1) := by decide +kernel
theorem dL_person_4 : decode cL_person 4 = .ok (.iload_n 2, 1) := by decide +kernel
theorem dL_person_5 : decode cL_person 5 = .ok (.invokevirtual 33, 3) := by decide +kernel
theorem dL_person_8 : decode cL_person 8 = .ok (.i2l, 1) := by decide +kernel
theorem dL_person_9 : decode cL_person 9 = .ok (.lastore, 1) := by decide +kernel
theorem dL_person_10 : decode cL_person 10 = .ok (.goto 11, 3) := by decide +kernel
theorem dL_person_13 : decode cL_person 13 = .ok (.astore 4, 2) := by decide +kernel
theorem dL_person_15 : decode cL_person 15 = .ok (.iconst 1, 1) := by decide +kernel
theorem dL_person_16 : decode cL_person 16 = .ok (.ireturn, 1) := by decide +kernel
theorem dL_person_17 : decode cL_person 17 = .ok (.astore 4, 2) := by decide +kernel
theorem dL_person_19 : decode cL_person 19 = .ok (.iconst 2, 1) := by decide +kernel
theorem dL_person_20 : decode cL_person 20 = .ok (.ireturn, 1) := by decide +kernel
theorem dL_person_21 : decode cL_person 21 = .ok (.iconst 0, 1) := by decide +kernel
theorem dL_person_22 : decode cL_person 22 = .ok (.ireturn, 1) := by decide +kernel
theorem dL_stock_0 : decode cL_stock 0 = .ok (.aload_n 2, 1) := by decide +kernel
theorem dL_stock_1 : decode cL_stock 1 = .ok (.iconst 0, 1) := by decide +kernel
theorem dL_stock_2 : decode cL_stock 2 = .ok (.aload_n 0, 1) := by decide +kernel
theorem dL_stock_3 : decode cL_stock 3 = .ok (.iload_n 1, 1) := by decide +kernel
theorem dL_stock_4 : decode cL_stock 4 = .ok (.invokevirtual 36, 3) := by decide +kernel
theorem dL_stock_7 : decode cL_stock 7 = .ok (.i2l, 1) := by decide +kernel
theorem dL_stock_8 : decode cL_stock 8 = .ok (.lastore, 1) := by decide +kernel
theorem dL_stock_9 : decode cL_stock 9 = .ok (.goto 6, 3) := by decide +kernel
theorem dL_stock_12 : decode cL_stock 12 = .ok (.astore_n 3, 1) := by decide +kernel
theorem dL_stock_13 : decode cL_stock 13 = .ok (.iconst 1, 1) := by decide +kernel
theorem dL_stock_14 : decode cL_stock 14 = .ok (.ireturn, 1) := by decide +kernel
theorem dL_stock_15 : decode cL_stock 15 = .ok (.iconst 0, 1) := by decide +kernel
theorem dL_stock_16 : decode cL_stock 16 = .ok (.ireturn, 1) := by decide +kernel
theorem dL_would_0 : decode cL_would 0 = .ok (.aload 7, 2) := by decide +kernel
theorem dL_would_2 : decode cL_would 2 = .ok (.iconst 0, 1) := by decide +kernel
theorem dL_would_3 : decode cL_would 3 = .ok (.aload_n 0, 1) := by decide +kernel
theorem dL_would_4 : decode cL_would 4 = .ok (.iload_n 1, 1) := by decide +kernel
theorem dL_would_5 : decode cL_would 5 = .ok (.iload_n 2, 1) := by decide +kernel
theorem dL_would_6 : decode cL_would 6 = .ok (.iload_n 3, 1) := by decide +kernel
theorem dL_would_7 : decode cL_would 7 = .ok (.iload 4, 2) := by decide +kernel
theorem dL_would_9 : decode cL_would 9 = .ok (.iload 5, 2) := by decide +kernel
theorem dL_would_11 : decode cL_would 11 = .ok (.iload 6, 2) := by decide +kernel
theorem dL_would_13 : decode cL_would 13 = .ok (.invokevirtual 39, 3) := by decide +kernel
theorem dL_would_16 : decode cL_would 16 = .ok (.ifCond .eq 7, 3) := by decide +kernel
theorem dL_would_19 : decode cL_would 19 = .ok (.lconst 1, 1) := by decide +kernel
theorem dL_would_20 : decode cL_would 20 = .ok (.goto 4, 3) := by decide +kernel
theorem dL_would_23 : decode cL_would 23 = .ok (.lconst 0, 1) := by decide +kernel
theorem dL_would_24 : decode cL_would 24 = .ok (.lastore, 1) := by decide +kernel
theorem dL_would_25 : decode cL_would 25 = .ok (.goto 7, 3) := by decide +kernel
theorem dL_would_28 : decode cL_would 28 = .ok (.astore 8, 2) := by decide +kernel
theorem dL_would_30 : decode cL_would 30 = .ok (.iconst 1, 1) := by decide +kernel
theorem dL_would_31 : decode cL_would 31 = .ok (.ireturn, 1) := by decide +kernel
theorem dL_would_32 : decode cL_would 32 = .ok (.iconst 0, 1) := by decide +kernel
theorem dL_would_33 : decode cL_would 33 = .ok (.ireturn, 1) := by decide +kernel
theorem dL_distance_0 : decode cL_distance 0 = .ok (.aload_n 3, 1) := by decide +kernel
theorem dL_distance_1 : decode cL_distance 1 = .ok (.iconst 0, 1) := by decide +kernel
theorem dL_distance_2 : decode cL_distance 2 = .ok (.aload_n 0, 1) := by decide +kernel
theorem dL_distance_3 : decode cL_distance 3 = .ok (.iload_n 1, 1) := by decide +kernel
theorem dL_distance_4 : decode cL_distance 4 = .ok (.iload_n 2, 1) := by decide +kernel
theorem dL_distance_5 : decode cL_distance 5 = .ok (.invokevirtual 43, 3) := by decide +kernel
theorem dL_distance_8 : decode cL_distance 8 = .ok (.i2l, 1) := by decide +kernel
theorem dL_distance_9 : decode cL_distance 9 = .ok (.lastore, 1) := by decide +kernel
theorem dL_distance_10 : decode cL_distance 10 = .ok (.goto 7, 3) := by decide +kernel
theorem dL_distance_13 : decode cL_distance 13 = .ok (.astore 4, 2) := by decide +kernel
theorem dL_distance_15 : decode cL_distance 15 = .ok (.iconst 1, 1) := by decide +kernel
theorem dL_distance_16 : decode cL_distance 16 = .ok (.ireturn, 1) := by decide +kernel
theorem dL_distance_17 : decode cL_distance 17 = .ok (.iconst 0, 1) := by decide +kernel
theorem dL_distance_18 : decode cL_distance 18 = .ok (.ireturn, 1) := by decide +kernel
theorem dL_seems_0 : decode cL_seems 0 = .ok (.aload_n 2, 1) := by decide +kernel
theorem dL_seems_1 : decode cL_seems 1 = .ok (.iconst 0, 1) := by decide +kernel
theorem dL_seems_2 : decode cL_seems 2 = .ok (.aload_n 0, 1) := by decide +kernel
theorem dL_seems_3 : decode cL_seems 3 = .ok (.iload_n 1, 1) := by decide +kernel
theorem dL_seems_4 : decode cL_seems 4 = .ok (.invokevirtual 46, 3) := by decide +kernel
theorem dL_seems_7 : decode cL_seems 7 = .ok (.i2l, 1) := by decide +kernel
theorem dL_seems_8 : decode cL_seems 8 = .ok (.lastore, 1) := by decide +kernel
theorem dL_seems_9 : decode cL_seems 9 = .ok (.goto 6, 3) := by decide +kernel
theorem dL_seems_12 : decode cL_seems 12 = .ok (.astore_n 3, 1) := by decide +kernel
theorem dL_seems_13 : decode cL_seems 13 = .ok (.iconst 1, 1) := by decide +kernel
theorem dL_seems_14 : decode cL_seems 14 = .ok (.ireturn, 1) := by decide +kernel
theorem dL_seems_15 : decode cL_seems 15 = .ok (.iconst 0, 1) := by decide +kernel
theorem dL_seems_16 : decode cL_seems 16 = .ok (.ireturn, 1) := by decide +kernel
theorem dL_dipped_0 : decode cL_dipped 0 = .ok (.aload_n 3, 1) := by decide +kernel
theorem dL_dipped_1 : decode cL_dipped 1 = .ok (.iconst 0, 1) := by decide +kernel
theorem dL_dipped_2 : decode cL_dipped 2 = .ok (.aload_n 0, 1) := by decide +kernel
theorem dL_dipped_3 : decode cL_dipped 3 = .ok (.iload_n 1, 1) := by decide +kernel
theorem dL_dipped_4 : decode cL_dipped 4 = .ok (.iload_n 2, 1) := by decide +kernel
theorem dL_dipped_5 : decode cL_dipped 5 = .ok (.invokevirtual 49, 3) := by decide +kernel
theorem dL_dipped_8 : decode cL_dipped 8 = .ok (.i2l, 1) := by decide +kernel
theorem dL_dipped_9 : decode cL_dipped 9 = .ok (.lastore, 1) := by decide +kernel
theorem dL_dipped_10 : decode cL_dipped 10 = .ok (.goto 11, 3) := by decide +kernel
theorem dL_dipped_13 : decode cL_dipped 13 = .ok (.astore 4, 2) := by decide +kernel
theorem dL_dipped_15 : decode cL_dipped 15 = .ok (.iconst 1, 1) := by decide +kernel
theorem dL_dipped_16 : decode cL_dipped 16 = .ok (.ireturn, 1) := by decide +kernel
theorem dL_dipped_17 : decode cL_dipped 17 = .ok (.astore 4, 2) := by decide +kernel
theorem dL_dipped_19 : decode cL_dipped 19 = .ok (.iconst 2, 1) := by decide +kernel
theorem dL_dipped_20 : decode cL_dipped 20 = .ok (.ireturn, 1) := by decide +kernel
theorem dL_dipped_21 : decode cL_dipped 21 = .ok (.iconst 0, 1) := by decide +kernel
theorem dL_dipped_22 : decode cL_dipped 22 = .ok (.ireturn, 1) := by decide +kernel
theorem dL_when_0 : decode cL_when 0 = .ok (.aload_n 3, 1) := by decide +kernel
theorem dL_when_1 : decode cL_when 1 = .ok (.iconst 0, 1) := by decide +kernel
theorem dL_when_2 : decode cL_when 2 = .ok (.aload_n 0, 1) := by decide +kernel
theorem dL_when_3 : decode cL_when 3 = .ok (.iload_n 1, 1) := by decide +kernel
theorem dL_when_4 : decode cL_when 4 = .ok (.iload_n 2, 1) := by decide +kernel
theorem dL_when_5 : decode cL_when 5 = .ok (.invokevirtual 52, 3) := by decide +kernel
theorem dL_when_8 : decode cL_when 8 = .ok (.i2l, 1) := by decide +kernel
theorem dL_when_9 : decode cL_when 9 = .ok (.lastore, 1) := by decide +kernel
theorem dL_when_10 : decode cL_when 10 = .ok (.goto 11, 3) := by decide +kernel
theorem dL_when_13 : decode cL_when 13 = .ok (.astore 4, 2) := by decide +kernel
theorem dL_when_15 : decode cL_when 15 = .ok (.iconst 1, 1) := by decide +kernel
theorem dL_when_16 : decode cL_when 16 = .ok (.ireturn, 1) := by decide +kernel
theorem dL_when_17 : decode cL_when 17 = .ok (.astore 4, 2) := by decide +kernel
theorem dL_when_19 : decode cL_when 19 = .ok (.iconst 2, 1) := by decide +kernel
theorem dL_when_20 : decode cL_when 20 = .ok (.ireturn, 1) := by decide +kernel
theorem dL_when_21 : decode cL_when 21 = .ok (.iconst 0, 1) := by decide +kernel
theorem dL_when_22 : decode cL_when 22 = .ok (.ireturn, 1) := by decide +kernel
theorem dL_sits_0 : decode cL_sits 0 = .ok (.aload_n 3, 1) := by decide +kernel
theorem dL_sits_1 : decode cL_sits 1 = .ok (.iconst 0, 1) := by decide +kernel
theorem dL_sits_2 : decode cL_sits 2 = .ok (.aload_n 0, 1) := by decide +kernel
theorem dL_sits_3 : decode cL_sits 3 = .ok (.iload_n 1, 1) := by decide +kernel
theorem dL_sits_4 : decode cL_sits 4 = .ok (.iload_n 2, 1) := by decide +kernel
theorem dL_sits_5 : decode cL_sits 5 = .ok (.invokevirtual 55, 3) := by decide +kernel
theorem dL_sits_8 : decode cL_sits 8 = .ok (.i2l, 1) := by decide +kernel
theorem dL_sits_9 : decode cL_sits 9 = .ok (.lastore, 1) := by decide +kernel
theorem dL_sits_10 : decode cL_sits 10 = .ok (.goto 11, 3) := by decide +kernel
theorem dL_sits_13 : decode cL_sits 13 = .ok (.astore 4, 2) := by decide +kernel
theorem dL_sits_15 : decode cL_sits 15 = .ok (.iconst 1, 1) := by decide +kernel
theorem dL_sits_16 : decode cL_sits 16 = .ok (.ireturn, 1) := by decide +kernel
theorem dL_sits_17 : decode cL_sits 17 = .ok (.astore 4, 2) := by decide +kernel
theorem dL_sits_19 : decode cL_sits 19 = .ok (.iconst 2, 1) := by decide +kernel
theorem dL_sits_20 : decode cL_sits 20 = .ok (.ireturn, 1) := by decide +kernel
theorem dL_sits_21 : decode cL_sits 21 = .ok (.iconst 0, 1) := by decide +kernel
theorem dL_sits_22 : decode cL_sits 22 = .ok (.ireturn, 1) := by decide +kernel
theorem dL_way_0 : decode cL_way 0 = .ok (.aload_n 3, 1) := by decide +kernel
theorem dL_way_1 : decode cL_way 1 = .ok (.iconst 0, 1) := by decide +kernel
theorem dL_way_2 : decode cL_way 2 = .ok (.aload_n 0, 1) := by decide +kernel
theorem dL_way_3 : decode cL_way 3 = .ok (.iload_n 1, 1) := by decide +kernel
theorem dL_way_4 : decode cL_way 4 = .ok (.iload_n 2, 1) := by decide +kernel
theorem dL_way_5 : decode cL_way 5 = .ok (.invokevirtual 58, 3) := by decide +kernel
theorem dL_way_8 : decode cL_way 8 = .ok (.i2l, 1) := by decide +kernel
theorem dL_way_9 : decode cL_way 9 = .ok (.lastore, 1) := by decide +kernel
theorem dL_way_10 : decode cL_way 10 = .ok (.goto 7, 3) := by decide +kernel
theorem dL_way_13 : decode cL_way 13 = .ok (.astore 4, 2) := by decide +kernel
theorem dL_way_15 : decode cL_way 15 = .ok (.iconst 1, 1) := by decide +kernel
theorem dL_way_16 : decode cL_way 16 = .ok (.ireturn, 1) := by decide +kernel
theorem dL_way_17 : decode cL_way 17 = .ok (.iconst 0, 1) := by decide +kernel
theorem dL_way_18 : decode cL_way 18 = .ok (.ireturn, 1) := by decide +kernel
theorem dL_step_0 : decode cL_step 0 = .ok (.aload 4, 2) := by decide +kernel
theorem dL_step_2 : decode cL_step 2 = .ok (.iconst 0, 1) := by decide +kernel
theorem dL_step_3 : decode cL_step 3 = .ok (.aload_n 0, 1) := by decide +kernel
theorem dL_step_4 : decode cL_step 4 = .ok (.iload_n 1, 1) := by decide +kernel
theorem dL_step_5 : decode cL_step 5 = .ok (.iload_n 2, 1) := by decide +kernel
theorem dL_step_6 : decode cL_step 6 = .ok (.iload_n 3, 1) := by decide +kernel
theorem dL_step_7 : decode cL_step 7 = .ok (.invokevirtual 61, 3) := by decide +kernel
theorem dL_step_10 : decode cL_step 10 = .ok (.i2l, 1) := by decide +kernel
theorem dL_step_11 : decode cL_step 11 = .ok (.lastore, 1) := by decide +kernel
theorem dL_step_12 : decode cL_step 12 = .ok (.goto 7, 3) := by decide +kernel
theorem dL_step_15 : decode cL_step 15 = .ok (.astore 5, 2) := by decide +kernel
theorem dL_step_17 : decode cL_step 17 = .ok (.iconst 1, 1) := by decide +kernel
theorem dL_step_18 : decode cL_step 18 = .ok (.ireturn, 1) := by decide +kernel
theorem dL_step_19 : decode cL_step 19 = .ok (.iconst 0, 1) := by decide +kernel
theorem dL_step_20 : decode cL_step 20 = .ok (.ireturn, 1) := by decide +kernel
theorem dL_sums_0 : decode cL_sums 0 = .ok (.aload_n 3, 1) := by decide +kernel
theorem dL_sums_1 : decode cL_sums 1 = .ok (.iconst 0, 1) := by decide +kernel
theorem dL_sums_2 : decode cL_sums 2 = .ok (.aload_n 0, 1) := by decide +kernel
theorem dL_sums_3 : decode cL_sums 3 = .ok (.iload_n 1, 1) := by decide +kernel
theorem dL_sums_4 : decode cL_sums 4 = .ok (.iload_n 2, 1) := by decide +kernel
theorem dL_sums_5 : decode cL_sums 5 = .ok (.invokevirtual 65, 3) := by decide +kernel
theorem dL_sums_8 : decode cL_sums 8 = .ok (.i2l, 1) := by decide +kernel
theorem dL_sums_9 : decode cL_sums 9 = .ok (.lastore, 1) := by decide +kernel
theorem dL_sums_10 : decode cL_sums 10 = .ok (.goto 7, 3) := by decide +kernel
theorem dL_sums_13 : decode cL_sums 13 = .ok (.astore 4, 2) := by decide +kernel
theorem dL_sums_15 : decode cL_sums 15 = .ok (.iconst 1, 1) := by decide +kernel
theorem dL_sums_16 : decode cL_sums 16 = .ok (.ireturn, 1) := by decide +kernel
theorem dL_sums_17 : decode cL_sums 17 = .ok (.iconst 0, 1) := by decide +kernel
theorem dL_sums_18 : decode cL_sums 18 = .ok (.ireturn, 1) := by decide +kernel
theorem dL_tones_0 : decode cL_tones 0 = .ok (.aload_n 2, 1) := by decide +kernel
theorem dL_tones_1 : decode cL_tones 1 = .ok (.iconst 0, 1) := by decide +kernel
theorem dL_tones_2 : decode cL_tones 2 = .ok (.aload_n 0, 1) := by decide +kernel
theorem dL_tones_3 : decode cL_tones 3 = .ok (.iload_n 1, 1) := by decide +kernel
theorem dL_tones_4 : decode cL_tones 4 = .ok (.invokevirtual 68, 3) := by decide +kernel
theorem dL_tones_7 : decode cL_tones 7 = .ok (.i2l, 1) := by decide +kernel
theorem dL_tones_8 : decode cL_tones 8 = .ok (.lastore, 1) := by decide +kernel
theorem dL_tones_9 : decode cL_tones 9 = .ok (.goto 6, 3) := by decide +kernel
theorem dL_tones_12 : decode cL_tones 12 = .ok (.astore_n 3, 1) := by decide +kernel
theorem dL_tones_13 : decode cL_tones 13 = .ok (.iconst 1, 1) := by decide +kernel
theorem dL_tones_14 : decode cL_tones 14 = .ok (.ireturn, 1) := by decide +kernel
theorem dL_tones_15 : decode cL_tones 15 = .ok (.iconst 0, 1) := by decide +kernel
theorem dL_tones_16 : decode cL_tones 16 = .ok (.ireturn, 1) := by decide +kernel
theorem dL_fits_0 : decode cL_fits 0 = .ok (.aload_n 2, 1) := by decide +kernel
theorem dL_fits_1 : decode cL_fits 1 = .ok (.iconst 0, 1) := by decide +kernel
theorem dL_fits_2 : decode cL_fits 2 = .ok (.aload_n 0, 1) := by decide +kernel
theorem dL_fits_3 : decode cL_fits 3 = .ok (.iload_n 1, 1) := by decide +kernel
theorem dL_fits_4 : decode cL_fits 4 = .ok (.invokevirtual 71, 3) := by decide +kernel
theorem dL_fits_7 : decode cL_fits 7 = .ok (.i2l, 1) := by decide +kernel
theorem dL_fits_8 : decode cL_fits 8 = .ok (.lastore, 1) := by decide +kernel
theorem dL_fits_9 : decode cL_fits 9 = .ok (.goto 6, 3) := by decide +kernel
theorem dL_fits_12 : decode cL_fits 12 = .ok (.astore_n 3, 1) := by decide +kernel
theorem dL_fits_13 : decode cL_fits 13 = .ok (.iconst 1, 1) := by decide +kernel
theorem dL_fits_14 : decode cL_fits 14 = .ok (.ireturn, 1) := by decide +kernel
theorem dL_fits_15 : decode cL_fits 15 = .ok (.iconst 0, 1) := by decide +kernel
theorem dL_fits_16 : decode cL_fits 16 = .ok (.ireturn, 1) := by decide +kernel
theorem dL_look_0 : decode cL_look 0 = .ok (.aload_n 2, 1) := by decide +kernel
theorem dL_look_1 : decode cL_look 1 = .ok (.iconst 0, 1) := by decide +kernel
theorem dL_look_2 : decode cL_look 2 = .ok (.aload_n 0, 1) := by decide +kernel
theorem dL_look_3 : decode cL_look 3 = .ok (.iload_n 1, 1) := by decide +kernel
theorem dL_look_4 : decode cL_look 4 = .ok (.invokevirtual 74, 3) := by decide +kernel
theorem dL_look_7 : decode cL_look 7 = .ok (.i2l, 1) := by decide +kernel
theorem dL_look_8 : decode cL_look 8 = .ok (.lastore, 1) := by decide +kernel
theorem dL_look_9 : decode cL_look 9 = .ok (.goto 6, 3) := by decide +kernel
theorem dL_look_12 : decode cL_look 12 = .ok (.astore_n 3, 1) := by decide +kernel
theorem dL_look_13 : decode cL_look 13 = .ok (.iconst 1, 1) := by decide +kernel
theorem dL_look_14 : decode cL_look 14 = .ok (.ireturn, 1) := by decide +kernel
theorem dL_look_15 : decode cL_look 15 = .ok (.iconst 0, 1) := by decide +kernel
theorem dL_look_16 : decode cL_look 16 = .ok (.ireturn, 1) := by decide +kernel
theorem dL_match_0 : decode cL_match 0 = .ok (.aload_n 2, 1) := by decide +kernel
theorem dL_match_1 : decode cL_match 1 = .ok (.iconst 0, 1) := by decide +kernel
theorem dL_match_2 : decode cL_match 2 = .ok (.aload_n 0, 1) := by decide +kernel
theorem dL_match_3 : decode cL_match 3 = .ok (.iload_n 1, 1) := by decide +kernel
theorem dL_match_4 : decode cL_match 4 = .ok (.invokevirtual 77, 3) := by decide +kernel
theorem dL_match_7 : decode cL_match 7 = .ok (.i2l, 1) := by decide +kernel
theorem dL_match_8 : decode cL_match 8 = .ok (.lastore, 1) := by decide +kernel
theorem dL_match_9 : decode cL_match 9 = .ok (.goto 6, 3) := by decide +kernel
theorem dL_match_12 : decode cL_match 12 = .ok (.astore_n 3, 1) := by decide +kernel
theorem dL_match_13 : decode cL_match 13 = .ok (.iconst 1, 1) := by decide +kernel
theorem dL_match_14 : decode cL_match 14 = .ok (.ireturn, 1) := by decide +kernel
theorem dL_match_15 : decode cL_match 15 = .ok (.iconst 0, 1) := by decide +kernel
theorem dL_match_16 : decode cL_match 16 = .ok (.ireturn, 1) := by decide +kernel
theorem dL_bride_0 : decode cL_bride 0 = .ok (.aload_n 2, 1) := by decide +kernel
theorem dL_bride_1 : decode cL_bride 1 = .ok (.iconst 0, 1) := by decide +kernel
theorem dL_bride_2 : decode cL_bride 2 = .ok (.aload_n 0, 1) := by decide +kernel
theorem dL_bride_3 : decode cL_bride 3 = .ok (.iload_n 1, 1) := by decide +kernel
theorem dL_bride_4 : decode cL_bride 4 = .ok (.invokevirtual 80, 3) := by decide +kernel
theorem dL_bride_7 : decode cL_bride 7 = .ok (.i2l, 1) := by decide +kernel
theorem dL_bride_8 : decode cL_bride 8 = .ok (.lastore, 1) := by decide +kernel
theorem dL_bride_9 : decode cL_bride 9 = .ok (.goto 6, 3) := by decide +kernel
theorem dL_bride_12 : decode cL_bride 12 = .ok (.astore_n 3, 1) := by decide +kernel
theorem dL_bride_13 : decode cL_bride 13 = .ok (.iconst 1, 1) := by decide +kernel
theorem dL_bride_14 : decode cL_bride 14 = .ok (.ireturn, 1) := by decide +kernel
theorem dL_bride_15 : decode cL_bride 15 = .ok (.iconst 0, 1) := by decide +kernel
theorem dL_bride_16 : decode cL_bride 16 = .ok (.ireturn, 1) := by decide +kernel
theorem dL_enough_0 : decode cL_enough 0 = .ok (.aload_n 2, 1) := by decide +kernel
theorem dL_enough_1 : decode cL_enough 1 = .ok (.iconst 0, 1) := by decide +kernel
theorem dL_enough_2 : decode cL_enough 2 = .ok (.aload_n 0, 1) := by decide +kernel
theorem dL_enough_3 : decode cL_enough 3 = .ok (.iload_n 1, 1) := by decide +kernel
theorem dL_enough_4 : decode cL_enough 4 = .ok (.invokevirtual 83, 3) := by decide +kernel
theorem dL_enough_7 : decode cL_enough 7 = .ok (.i2l, 1) := by decide +kernel
theorem dL_enough_8 : decode cL_enough 8 = .ok (.lastore, 1) := by decide +kernel
theorem dL_enough_9 : decode cL_enough 9 = .ok (.goto 6, 3) := by decide +kernel
theorem dL_enough_12 : decode cL_enough 12 = .ok (.astore_n 3, 1) := by decide +kernel
theorem dL_enough_13 : decode cL_enough 13 = .ok (.iconst 1, 1) := by decide +kernel
theorem dL_enough_14 : decode cL_enough 14 = .ok (.ireturn, 1) := by decide +kernel
theorem dL_enough_15 : decode cL_enough 15 = .ok (.iconst 0, 1) := by decide +kernel
theorem dL_enough_16 : decode cL_enough 16 = .ok (.ireturn, 1) := by decide +kernel
theorem dL_level_0 : decode cL_level 0 = .ok (.aload_n 3, 1) := by decide +kernel
theorem dL_level_1 : decode cL_level 1 = .ok (.iconst 0, 1) := by decide +kernel
theorem dL_level_2 : decode cL_level 2 = .ok (.aload_n 0, 1) := by decide +kernel
theorem dL_level_3 : decode cL_level 3 = .ok (.iload_n 1, 1) := by decide +kernel
theorem dL_level_4 : decode cL_level 4 = .ok (.iload_n 2, 1) := by decide +kernel
theorem dL_level_5 : decode cL_level 5 = .ok (.invokevirtual 86, 3) := by decide +kernel
theorem dL_level_8 : decode cL_level 8 = .ok (.i2l, 1) := by decide +kernel
theorem dL_level_9 : decode cL_level 9 = .ok (.lastore, 1) := by decide +kernel
theorem dL_level_10 : decode cL_level 10 = .ok (.goto 11, 3) := by decide +kernel
theorem dL_level_13 : decode cL_level 13 = .ok (.astore 4, 2) := by decide +kernel
theorem dL_level_15 : decode cL_level 15 = .ok (.iconst 1, 1) := by decide +kernel
theorem dL_level_16 : decode cL_level 16 = .ok (.ireturn, 1) := by decide +kernel
theorem dL_level_17 : decode cL_level 17 = .ok (.astore 4, 2) := by decide +kernel
theorem dL_level_19 : decode cL_level 19 = .ok (.iconst 2, 1) := by decide +kernel
theorem dL_level_20 : decode cL_level 20 = .ok (.ireturn, 1) := by decide +kernel
theorem dL_level_21 : decode cL_level 21 = .ok (.iconst 0, 1) := by decide +kernel
theorem dL_level_22 : decode cL_level 22 = .ok (.ireturn, 1) := by decide +kernel
theorem dL_night_0 : decode cL_night 0 = .ok (.aload 4, 2) := by decide +kernel
theorem dL_night_2 : decode cL_night 2 = .ok (.iconst 0, 1) := by decide +kernel
theorem dL_night_3 : decode cL_night 3 = .ok (.aload_n 0, 1) := by decide +kernel
theorem dL_night_4 : decode cL_night 4 = .ok (.iload_n 1, 1) := by decide +kernel
theorem dL_night_5 : decode cL_night 5 = .ok (.iload_n 2, 1) := by decide +kernel
theorem dL_night_6 : decode cL_night 6 = .ok (.iload_n 3, 1) := by decide +kernel
theorem dL_night_7 : decode cL_night 7 = .ok (.invokevirtual 89, 3) := by decide +kernel
theorem dL_night_10 : decode cL_night 10 = .ok (.lastore, 1) := by decide +kernel
theorem dL_night_11 : decode cL_night 11 = .ok (.goto 7, 3) := by decide +kernel
theorem dL_night_14 : decode cL_night 14 = .ok (.astore 5, 2) := by decide +kernel
theorem dL_night_16 : decode cL_night 16 = .ok (.iconst 1, 1) := by decide +kernel
theorem dL_night_17 : decode cL_night 17 = .ok (.ireturn, 1) := by decide +kernel
theorem dL_night_18 : decode cL_night 18 = .ok (.iconst 0, 1) := by decide +kernel
theorem dL_night_19 : decode cL_night 19 = .ok (.ireturn, 1) := by decide +kernel
theorem dL_guilds_0 : decode cL_guilds 0 = .ok (.aload_n 2, 1) := by decide +kernel
theorem dL_guilds_1 : decode cL_guilds 1 = .ok (.iconst 0, 1) := by decide +kernel
theorem dL_guilds_2 : decode cL_guilds 2 = .ok (.aload_n 0, 1) := by decide +kernel
theorem dL_guilds_3 : decode cL_guilds 3 = .ok (.iload_n 1, 1) := by decide +kernel
theorem dL_guilds_4 : decode cL_guilds 4 = .ok (.invokevirtual 93, 3) := by decide +kernel
theorem dL_guilds_7 : decode cL_guilds 7 = .ok (.i2l, 1) := by decide +kernel
theorem dL_guilds_8 : decode cL_guilds 8 = .ok (.lastore, 1) := by decide +kernel
theorem dL_guilds_9 : decode cL_guilds 9 = .ok (.goto 6, 3) := by decide +kernel
theorem dL_guilds_12 : decode cL_guilds 12 = .ok (.astore_n 3, 1) := by decide +kernel
theorem dL_guilds_13 : decode cL_guilds 13 = .ok (.iconst 1, 1) := by decide +kernel
theorem dL_guilds_14 : decode cL_guilds 14 = .ok (.ireturn, 1) := by decide +kernel
theorem dL_guilds_15 : decode cL_guilds 15 = .ok (.iconst 0, 1) := by decide +kernel
theorem dL_guilds_16 : decode cL_guilds 16 = .ok (.ireturn, 1) := by decide +kernel
theorem dL_follows_0 : decode cL_follows 0 = .ok (.aload_n 3, 1) := by decide +kernel
theorem dL_follows_1 : decode cL_follows 1 = .ok (.iconst 0, 1) := by decide +kernel
theorem dL_follows_2 : decode cL_follows 2 = .ok (.aload_n 0, 1) := by decide +kernel
theorem dL_follows_3 : decode cL_follows 3 = .ok (.iload_n 1, 1) := by decide +kernel
theorem dL_follows_4 : decode cL_follows 4 = .ok (.iload_n 2, 1) := by decide +kernel
theorem dL_follows_5 : decode cL_follows 5 = .ok (.invokevirtual 96, 3) := by decide +kernel
theorem dL_follows_8 : decode cL_follows 8 = .ok (.i2l, 1) := by decide +kernel
theorem dL_follows_9 : decode cL_follows 9 = .ok (.lastore, 1) := by decide +kernel
theorem dL_follows_10 : decode cL_follows 10 = .ok (.goto 7, 3) := by decide +kernel
theorem dL_follows_13 : decode cL_follows 13 = .ok (.astore 4, 2) := by decide +kernel
theorem dL_follows_15 : decode cL_follows 15 = .ok (.iconst 1, 1) := by decide +kernel
theorem dL_follows_16 : decode cL_follows 16 = .ok (.ireturn, 1) := by decide +kernel
theorem dL_follows_17 : decode cL_follows 17 = .ok (.iconst 0, 1) := by decide +kernel
theorem dL_follows_18 : decode cL_follows 18 = .ok (.ireturn, 1) := by decide +kernel
theorem dL_ahead_0 : decode cL_ahead 0 = .ok (.aload_n 3, 1) := by decide +kernel
theorem dL_ahead_1 : decode cL_ahead 1 = .ok (.iconst 0, 1) := by decide +kernel
theorem dL_ahead_2 : decode cL_ahead 2 = .ok (.aload_n 0, 1) := by decide +kernel
theorem dL_ahead_3 : decode cL_ahead 3 = .ok (.iload_n 1, 1) := by decide +kernel
theorem dL_ahead_4 : decode cL_ahead 4 = .ok (.iload_n 2, 1) := by decide +kernel
theorem dL_ahead_5 : decode cL_ahead 5 = .ok (.invokevirtual 99, 3) := by decide +kernel
theorem dL_ahead_8 : decode cL_ahead 8 = .ok (.i2l, 1) := by decide +kernel
theorem dL_ahead_9 : decode cL_ahead 9 = .ok (.lastore, 1) := by decide +kernel
theorem dL_ahead_10 : decode cL_ahead 10 = .ok (.goto 7, 3) := by decide +kernel
theorem dL_ahead_13 : decode cL_ahead 13 = .ok (.astore 4, 2) := by decide +kernel
theorem dL_ahead_15 : decode cL_ahead 15 = .ok (.iconst 1, 1) := by decide +kernel
theorem dL_ahead_16 : decode cL_ahead 16 = .ok (.ireturn, 1) := by decide +kernel
theorem dL_ahead_17 : decode cL_ahead 17 = .ok (.iconst 0, 1) := by decide +kernel
theorem dL_ahead_18 : decode cL_ahead 18 = .ok (.ireturn, 1) := by decide +kernel
theorem dL_ages_0 : decode cL_ages 0 = .ok (.aload 5, 2) := by decide +kernel
theorem dL_ages_2 : decode cL_ages 2 = .ok (.iconst 0, 1) := by decide +kernel
theorem dL_ages_3 : decode cL_ages 3 = .ok (.aload_n 0, 1) := by decide +kernel
theorem dL_ages_4 : decode cL_ages 4 = .ok (.iload_n 1, 1) := by decide +kernel
theorem dL_ages_5 : decode cL_ages 5 = .ok (.iload_n 2, 1) := by decide +kernel
theorem dL_ages_6 : decode cL_ages 6 = .ok (.iload_n 3, 1) := by decide +kernel
theorem dL_ages_7 : decode cL_ages 7 = .ok (.iload 4, 2) := by decide +kernel
theorem dL_ages_9 : decode cL_ages 9 = .ok (.invokevirtual 102, 3) := by decide +kernel
theorem dL_ages_12 : decode cL_ages 12 = .ok (.i2l, 1) := by decide +kernel
theorem dL_ages_13 : decode cL_ages 13 = .ok (.lastore, 1) := by decide +kernel
theorem dL_ages_14 : decode cL_ages 14 = .ok (.goto 7, 3) := by decide +kernel
theorem dL_ages_17 : decode cL_ages 17 = .ok (.astore 6, 2) := by decide +kernel
theorem dL_ages_19 : decode cL_ages 19 = .ok (.iconst 1, 1) := by decide +kernel
theorem dL_ages_20 : decode cL_ages 20 = .ok (.ireturn, 1) := by decide +kernel
theorem dL_ages_21 : decode cL_ages 21 = .ok (.iconst 0, 1) := by decide +kernel
theorem dL_ages_22 : decode cL_ages 22 = .ok (.ireturn, 1) := by decide +kernel
theorem dL_span_0 : decode cL_span 0 = .ok (.aload 6, 2) := by decide +kernel
theorem dL_span_2 : decode cL_span 2 = .ok (.iconst 0, 1) := by decide +kernel
theorem dL_span_3 : decode cL_span 3 = .ok (.aload_n 0, 1) := by decide +kernel
theorem dL_span_4 : decode cL_span 4 = .ok (.iload_n 1, 1) := by decide +kernel
theorem dL_span_5 : decode cL_span 5 = .ok (.iload_n 2, 1) := by decide +kernel
theorem dL_span_6 : decode cL_span 6 = .ok (.iload_n 3, 1) := by decide +kernel
theorem dL_span_7 : decode cL_span 7 = .ok (.iload 4, 2) := by decide +kernel
theorem dL_span_9 : decode cL_span 9 = .ok (.iload 5, 2) := by decide +kernel
theorem dL_span_11 : decode cL_span 11 = .ok (.invokevirtual 106, 3) := by decide +kernel
theorem dL_span_14 : decode cL_span 14 = .ok (.i2l, 1) := by decide +kernel
theorem dL_span_15 : decode cL_span 15 = .ok (.lastore, 1) := by decide +kernel
theorem dL_span_16 : decode cL_span 16 = .ok (.goto 7, 3) := by decide +kernel
theorem dL_span_19 : decode cL_span 19 = .ok (.astore 7, 2) := by decide +kernel
theorem dL_span_21 : decode cL_span 21 = .ok (.iconst 1, 1) := by decide +kernel
theorem dL_span_22 : decode cL_span 22 = .ok (.ireturn, 1) := by decide +kernel
theorem dL_span_23 : decode cL_span 23 = .ok (.iconst 0, 1) := by decide +kernel
theorem dL_span_24 : decode cL_span 24 = .ok (.ireturn, 1) := by decide +kernel
