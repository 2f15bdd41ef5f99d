theorem dL_read_0 : decode cL_read 0 = .ok (.aload_n 1, 1) := by decide +kernel
theorem dL_read_1 : decode cL_read 1 = .ok (.iconst 0, 1) := by decide +kernel
theorem dL_read_2 : decode cL_read 2 = .ok (.aload_n 0, 1) := by decide +kernel
theorem dL_read_3 : decode cL_read 3 = .ok (.invokevirtual 7, 3) := by decide +kernel
theorem dL_read_6 : decode cL_read 6 = .ok (.i2l, 1) := by decide +kernel
theorem dL_read_7 : decode cL_read 7 = .ok (.lastore, 1) := by decide +kernel
theorem dL_read_8 : decode cL_read 8 = .ok (.goto 6, 3) := by decide +kernel
theorem dL_read_11 : decode cL_read 11 = .ok (.astore_n 2, 1) := by decide +kernel
theorem dL_read_12 : decode cL_read 12 = .ok (.iconst 1, 1) := by decide +kernel
theorem dL_read_13 : decode cL_read 13 = .ok (.ireturn, 1) := by decide +kernel
theorem dL_read_14 : decode cL_read 14 = .ok (.iconst 0, 1) := by decide +kernel
theorem dL_read_15 : decode cL_read 15 = .ok (.ireturn, 1) := by decide +kernel
theorem dL_cell_0 : decode cL_cell 0 = .ok (.aload_n 3, 1) := by decide +kernel
theorem dL_cell_1 : decode cL_cell 1 = .ok (.iconst 0, 1) := by decide +kernel
theorem dL_cell_2 : decode cL_cell 2 = .ok (.aload_n 0, 1) := by decide +kernel
theorem dL_cell_3 : decode cL_cell 3 = .ok (.iload_n 1, 1) := by decide +kernel
theorem dL_cell_4 : decode cL_cell 4 = .ok (.iload_n 2, 1) := by decide +kernel
theorem dL_cell_5 : decode cL_cell 5 = .ok (.invokevirtual 15, 3) := by decide +kernel
theorem dL_cell_8 : decode cL_cell 8 = .ok (.i2l, 1) := by decide +kernel
theorem dL_cell_9 : decode cL_cell 9 = .ok (.lastore, 1) := by decide +kernel
theorem dL_cell_10 : decode cL_cell 10 = .ok (.goto 11, 3) := by decide +kernel
theorem dL_cell_13 : decode cL_cell 13 = .ok (.astore 4, 2) := by decide +kernel
theorem dL_cell_15 : decode cL_cell 15 = .ok (.iconst 1, 1) := by decide +kernel
theorem dL_cell_16 : decode cL_cell 16 = .ok (.ireturn, 1) := by decide +kernel
theorem dL_cell_17 : decode cL_cell 17 = .ok (.astore 4, 2) := by decide +kernel
theorem dL_cell_19 : decode cL_cell 19 = .ok (.iconst 2, 1) := by decide +kernel
theorem dL_cell_20 : decode cL_cell 20 = .ok (.ireturn, 1) := by decide +kernel
theorem dL_cell_21 : decode cL_cell 21 = .ok (.iconst 0, 1) := by decide +kernel
theorem dL_cell_22 : decode cL_cell 22 = .ok (.ireturn, 1) := by decide +kernel
theorem dL_zone_0 : decode cL_zone 0 = .ok (.aload_n 3, 1) := by decide +kernel
theorem dL_zone_1 : decode cL_zone 1 = .ok (.iconst 0, 1) := by decide +kernel
theorem dL_zone_2 : decode cL_zone 2 = .ok (.aload_n 0, 1) := by decide +kernel
theorem dL_zone_3 : decode cL_zone 3 = .ok (.iload_n 1, 1) := by decide +kernel
theorem dL_zone_4 : decode cL_zone 4 = .ok (.iload_n 2, 1) := by decide +kernel
theorem dL_zone_5 : decode cL_zone 5 = .ok (.invokevirtual 23, 3) := by decide +kernel
theorem dL_zone_8 : decode cL_zone 8 = .ok (.i2l, 1) := by decide +kernel
theorem dL_zone_9 : decode cL_zone 9 = .ok (.lastore, 1) := by decide +kernel
theorem dL_zone_10 : decode cL_zone 10 = .ok (.goto 11, 3) := by decide +kernel
theorem dL_zone_13 : decode cL_zone 13 = .ok (.astore 4, 2) := by decide +kernel
theorem dL_zone_15 : decode cL_zone 15 = .ok (.iconst 1, 1) := by decide +kernel
theorem dL_zone_16 : decode cL_zone 16 = .ok (.ireturn, 1) := by decide +kernel
theorem dL_zone_17 : decode cL_zone 17 = .ok (.astore 4, 2) := by decide +kernel
theorem dL_zone_19 : decode cL_zone 19 = .ok (.iconst 2, 1) := by decide +kernel
theorem dL_zone_20 : decode cL_zone 20 = .ok (.ireturn, 1) := by decide +kernel
theorem dL_zone_21 : decode cL_zone 21 = .ok (.iconst 0, 1) := by decide +kernel
theorem dL_zone_22 : decode cL_zone 22 = .ok (.ireturn, 1) := by decide +kernel
theorem dL_name_0 : decode cL_name 0 = .ok (.aload_n 3, 1) := by decide +kernel
theorem dL_name_1 : decode cL_name 1 = .ok (.iconst 0, 1) := by decide +kernel
theorem dL_name_2 : decode cL_name 2 = .ok (.aload_n 0, 1) := by decide +kernel
theorem dL_name_3 : decode cL_name 3 = .ok (.iload_n 1, 1) := by decide +kernel
theorem dL_name_4 : decode cL_name 4 = .ok (.iload_n 2, 1) := by decide +kernel
theorem dL_name_5 : decode cL_name 5 = .ok (.invokevirtual 26, 3) := by decide +kernel
theorem dL_name_8 : decode cL_name 8 = .ok (.i2l, 1) := by decide +kernel
theorem dL_name_9 : decode cL_name 9 = .ok (.lastore, 1) := by decide +kernel
theorem dL_name_10 : decode cL_name 10 = .ok (.goto 7, 3) := by decide +kernel
theorem dL_name_13 : decode cL_name 13 = .ok (.astore 4, 2) := by decide +kernel
theorem dL_name_15 : decode cL_name 15 = .ok (.iconst 1, 1) := by decide +kernel
theorem dL_name_16 : decode cL_name 16 = .ok (.ireturn, 1) := by decide +kernel
theorem dL_name_17 : decode cL_name 17 = .ok (.iconst 0, 1) := by decide +kernel
theorem dL_name_18 : decode cL_name 18 = .ok (.ireturn, 1) := by decide +kernel
theorem dL_people_0 : decode cL_people 0 = .ok (.aload 4, 2) := by decide +kernel
theorem dL_people_2 : decode cL_people 2 = .ok (.iconst 0, 1) := by decide +kernel
theorem dL_people_3 : decode cL_people 3 = .ok (.aload_n 0, 1) := by decide +kernel
theorem dL_people_4 : decode cL_people 4 = .ok (.iload_n 1, 1) := by decide +kernel
theorem dL_people_5 : decode cL_people 5 = .ok (.iload_n 2, 1) := by decide +kernel
theorem dL_people_6 : decode cL_people 6 = .ok (.iload_n 3, 1) := by decide +kernel
theorem dL_people_7 : decode cL_people 7 = .ok (.invokevirtual 29, 3) := by decide +kernel
theorem dL_people_10 : decode cL_people 10 = .ok (.i2l, 1) := by decide +kernel
theorem dL_people_11 : decode cL_people 11 = .ok (.lastore, 1) := by decide +kernel
theorem dL_people_12 : decode cL_people 12 = .ok (.goto 11, 3) := by decide +kernel
theorem dL_people_15 : decode cL_people 15 = .ok (.astore 5, 2) := by decide +kernel
theorem dL_people_17 : decode cL_people 17 = .ok (.iconst 1, 1) := by decide +kernel
theorem dL_people_18 : decode cL_people 18 = .ok (.ireturn, 1) := by decide +kernel
theorem dL_people_19 : decode cL_people 19 = .ok (.astore 5, 2) := by decide +kernel
theorem dL_people_21 : decode cL_people 21 = .ok (.iconst 2, 1) := by decide +kernel
theorem dL_people_22 : decode cL_people 22 = .ok (.ireturn, 1) := by decide +kernel
theorem dL_people_23 : decode cL_people 23 = .ok (.iconst 0, 1) := by decide +kernel
theorem dL_people_24 : decode cL_people 24 = .ok (.ireturn, 1) := by decide +kernel
theorem dL_lives_0 : decode cL_lives 0 = .ok (.aload_n 3, 1) := by decide +kernel
theorem dL_lives_1 : decode cL_lives 1 = .ok (.iconst 0, 1) := by decide +kernel
theorem dL_lives_2 : decode cL_lives 2 = .ok (.aload_n 0, 1) := by decide +kernel
theorem dL_lives_3 : decode cL_lives 3 = .ok (.iload_n 1, 1) := by decide +kernel
theorem dL_lives_4 : decode cL_lives 4 = .ok (.iload_n 2, 1) := by decide +kernel
theorem dL_lives_5 : decode cL_lives 5 = .ok (.invokevirtual 33, 3) := by decide +kernel
theorem dL_lives_8 : decode cL_lives 8 = .ok (.i2l, 1) := by decide +kernel
theorem dL_lives_9 : decode cL_lives 9 = .ok (.lastore, 1) := by decide +kernel
theorem dL_lives_10 : decode cL_lives 10 = .ok (.goto 7, 3) := by decide +kernel
theorem dL_lives_13 : decode cL_lives 13 = .ok (.astore 4, 2) := by decide +kernel
theorem dL_lives_15 : decode cL_lives 15 = .ok (.iconst 1, 1) := by decide +kernel
theorem dL_lives_16 : decode cL_lives 16 = .ok (.ireturn, 1) := by decide +kernel
theorem dL_lives_17 : decode cL_lives 17 = .ok (.iconst 0, 1) := by decide +kernel
theorem dL_lives_18 : decode cL_lives 18 = .ok (.ireturn, 1) := by decide +kernel
theorem dL_flood_0 : decode cL_flood 0 = .ok (.aload_n 3, 1) := by decide +kernel
theorem dL_flood_1 : decode cL_flood 1 = .ok (.iconst 0, 1) := by decide +kernel
theorem dL_flood_2 : decode cL_flood 2 = .ok (.aload_n 0, 1) := by decide +kernel
theorem dL_flood_3 : decode cL_flood 3 = .ok (.iload_n 1, 1) := by decide +kernel
theorem dL_flood_4 : decode cL_flood 4 = .ok (.iload_n 2, 1) := by decide +kernel
theorem dL_flood_5 : decode cL_flood 5 = .ok (.invokevirtual 36, 3) := by decide +kernel
theorem dL_flood_8 : decode cL_flood 8 = .ok (.ifCond .eq 7, 3) := by decide +kernel
theorem dL_flood_11 : decode cL_flood 11 = .ok (.lconst 1, 1) := by decide +kernel
theorem dL_flood_12 : decode cL_flood 12 = .ok (.goto 4, 3) := by decide +kernel
theorem dL_flood_15 : decode cL_flood 15 = .ok (.lconst 0, 1) := by decide +kernel
theorem dL_flood_16 : decode cL_flood 16 = .ok (.lastore, 1) := by decide +kernel
theorem dL_flood_17 : decode cL_flood 17 = .ok (.goto 7, 3) := by decide +kernel
theorem dL_flood_20 : decode cL_flood 20 = .ok (.astore 4, 2) := by decide +kernel
theorem dL_flood_22 : decode cL_flood 22 = .ok (.iconst 1, 1) := by decide +kernel
theorem dL_flood_23 : decode cL_flood 23 = .ok (.ireturn, 1) := by decide +kernel
theorem dL_flood_24 : decode cL_flood 24 = .ok (.iconst 0, 1) := by decide +kernel
theorem dL_flood_25 : decode cL_flood 25 = .ok (.ireturn, 1) := by decide +kernel
theorem dL_unit_0 : decode cL_unit 0 = .ok (.aload_n 2, 1) := by decide +kernel
theorem dL_unit_1 : decode cL_unit 1 = .ok (.iconst 0, 1) := by decide +kernel
theorem dL_unit_2 : decode cL_unit 2 = .ok (.aload_n 0, 1) := by decide +kernel
theorem dL_unit_3 : decode cL_unit 3 = .ok (.iload_n 1, 1) := by decide +kernel
theorem dL_unit_4 : decode cL_unit 4 = .ok (.invokevirtual 40, 3) := by decide +kernel
theorem dL_unit_7 : decode cL_unit 7 = .ok (.i2l, 1) := by decide +kernel
theorem dL_unit_8 : decode cL_unit 8 = .ok (.lastore, 1) := by decide +kernel
theorem dL_unit_9 : decode cL_unit 9 = .ok (.goto 6, 3) := by decide +kernel
theorem dL_unit_12 : decode cL_unit 12 = .ok (.astore_n 3, 1) := by decide +kernel
theorem dL_unit_13 : decode cL_unit 13 = .ok (.iconst 1, 1) := by decide +kernel
theorem dL_unit_14 : decode cL_unit 14 = .ok (.ireturn, 1) := by decide +kernel
theorem dL_unit_15 : decode cL_unit 15 = .ok (.iconst 0, 1) := by decide +kernel
theorem dL_unit_16 : decode cL_unit 16 = .ok (.ireturn, 1) := by decide +kernel
theorem dL_factor_0 : decode cL_factor 0 = .ok (.aload_n 2, 1) := by decide +kernel
theorem dL_factor_1 : decode cL_factor 1 = .ok (.iconst 0, 1) := by decide +kernel
theorem dL_factor_2 : decode cL_factor 2 = .ok (.aload_n 0, 1) := by decide +kernel
theorem dL_factor_3 : decode cL_factor 3 = .ok (.iload_n 1, 1) := by decide +kernel
theorem dL_factor_4 : decode cL_factor 4 = .ok (.invokevirtual 44, 3) := by decide +kernel
theorem dL_factor_7 : decode cL_factor 7 = .ok (.i2l, 1) := by decide +kernel
theorem dL_factor_8 : decode cL_factor 8 = .ok (.lastore, 1) := by decide +kernel
theorem dL_factor_9 : decode cL_factor 9 = .ok (.goto 6, 3) := by decide +kernel
theorem dL_factor_12 : decode cL_factor 12 = .ok (.astore_n 3, 1) := by decide +kernel
theorem dL_factor_13 : decode cL_factor 13 = .ok (.iconst 1, 1) := by decide +kernel
theorem dL_factor_14 : decode cL_factor 14 = .ok (.ireturn, 1) := by decide +kernel
theorem dL_factor_15 : decode cL_factor 15 = .ok (.iconst 0, 1) := by decide +kernel
theorem dL_factor_16 : decode cL_factor 16 = .ok (.ireturn, 1) := by decide +kernel
theorem dL_order_0 : decode cL_order 0 = .ok (.aload_n 3, 1) := by decide +kernel
theorem dL_order_1 : decode cL_order 1 = .ok (.iconst 0, 1) := by decide +kernel
theorem dL_order_2 : decode cL_order 2 = .ok (.aload_n 0, 1) := by decide +kernel
theorem dL_order_3 : decode cL_order 3 = .ok (.iload_n 1, 1) := by decide +kernel
theorem dL_order_4 : decode cL_order 4 = .ok (.iload_n 2, 1) := by decide +kernel
theorem dL_order_5 : decode cL_order 5 = .ok (.invokevirtual 47, 3) := by decide +kernel
theorem dL_order_8 : decode cL_order 8 = .ok (.i2l, 1) := by decide +kernel
theorem dL_order_9 : decode cL_order 9 = .ok (.lastore, 1) := by decide +kernel
theorem dL_order_10 : decode cL_order 10 = .ok (.goto 7, 3) := by decide +kernel
theorem dL_order_13 : decode cL_order 13 = .ok (.astore 4, 2) := by decide +kernel
theorem dL_order_15 : decode cL_order 15 = .ok (.iconst 1, 1) := by decide +kernel
theorem dL_order_16 : decode cL_order 16 = .ok (.ireturn, 1) := by decide +kernel
theorem dL_order_17 : decode cL_order 17 = .ok (.iconst 0, 1) := by decide +kernel
theorem dL_order_18 : decode cL_order 18 = .ok (.ireturn, 1) := by decide +kernel
theorem dL_stands_0 : decode cL_stands 0 = .ok (.aload_n 2, 1) := by decide +kernel
theorem dL_stands_1 : decode cL_stands 1 = .ok (.iconst 0, 1) := by decide +kernel
theorem dL_stands_2 : decode cL_stands 2 = .ok (.aload_n 0, 1) := by decide +kernel
theorem dL_stands_3 : decode cL_stands 3 = .ok (.iload_n 1, 1) := by decide +kernel
theorem dL_stands_4 : decode cL_stands 4 = .ok (.invokevirtual 50, 3) := by decide +kernel
theorem dL_stands_7 : decode cL_stands 7 = .ok (.i2l, 1) := by decide +kernel
theorem dL_stands_8 : decode cL_stands 8 = .ok (.lastore, 1) := by decide +kernel
theorem dL_stands_9 : decode cL_stands 9 = .ok (.goto 6, 3) := by decide +kernel
theorem dL_stands_12 : decode cL_stands 12 = .ok (.astore_n 3, 1) := by decide +kernel
theorem dL_stands_13 : decode cL_stands 13 = .ok (.iconst 1, 1) := by decide +kernel
theorem dL_stands_14 : decode cL_stands 14 = .ok (.ireturn, 1) := by decide +kernel
theorem dL_stands_15 : decode cL_stands 15 = .ok (.iconst 0, 1) := by decide +kernel
theorem dL_stands_16 : decode cL_stands 16 = .ok (.ireturn, 1) := by decide +kernel
theorem dL_dots_0 : decode cL_dots 0 = .ok (.aload 4, 2) := by decide +kernel
theorem dL_dots_2 : decode cL_dots 2 = .ok (.iconst 0, 1) := by decide +kernel
theorem dL_dots_3 : decode cL_dots 3 = .ok (.aload_n 0, 1) := by decide +kernel
theorem dL_dots_4 : decode cL_dots 4 = .ok (.iload_n 1, 1) := by decide +kernel
theorem dL_dots_5 : decode cL_dots 5 = .ok (.iload_n 2, 1) := by decide +kernel
theorem dL_dots_6 : decode cL_dots 6 = .ok (.iload_n 3, 1) := by decide +kernel
theorem dL_dots_7 : decode cL_dots 7 = .ok (.invokevirtual 53, 3) := by decide +kernel
theorem dL_dots_10 : decode cL_dots 10 = .ok (.i2l, 1) := by decide +kernel
theorem dL_dots_11 : decode cL_dots 11 = .ok (.lastore, 1) := by decide +kernel
theorem dL_dots_12 : decode cL_dots 12 = .ok (.goto 7, 3) := by decide +kernel
theorem dL_dots_15 : decode cL_dots 15 = .ok (.astore 5, 2) := by decide +kernel
theorem dL_dots_17 : decode cL_dots 17 = .ok (.iconst 1, 1) := by decide +kernel
theorem dL_dots_18 : decode cL_dots 18 = .ok (.ireturn, 1) := by decide +kernel
theorem dL_dots_19 : decode cL_dots 19 = .ok (.iconst 0, 1) := by decide +kernel
theorem dL_dots_20 : decode cL_dots 20 = .ok (.ireturn, 1) := by decide +kernel
theorem dL_carried_0 : decode cL_carried 0 = .ok (.aload 4, 2) := by decide +kernel
theorem dL_carried_2 : decode cL_carried 2 = .ok (.iconst 0, 1) := by decide +kernel
theorem dL_carried_3 : decode cL_carried 3 = .ok (.aload_n 0, 1) := by decide +kernel
theorem dL_carried_4 : decode cL_carried 4 = .ok (.iload_n 1, 1) := by decide +kernel
theorem dL_carried_5 : decode cL_carried 5 = .ok (.iload_n 2, 1) := by decide +kernel
theorem dL_carried_6 : decode cL_carried 6 = .ok (.iload_n 3, 1) := by decide +kernel
theorem dL_carried_7 : decode cL_carried 7 = .ok (.invokevirtual 56, 3) := by decide +kernel
theorem dL_carried_10 : decode cL_carried 10 = .ok (.i2l, 1) := by decide +kernel
theorem dL_carried_11 : decode cL_carried 11 = .ok (.lastore, 1) := by decide +kernel
theorem dL_carried_12 : decode cL_carried 12 = .ok (.goto 7, 3) := by decide +kernel
theorem dL_carried_15 : decode cL_carried 15 = .ok (.astore 5, 2) := by decide +kernel
theorem dL_carried_17 : decode cL_carried 17 = .ok (.iconst 1, 1) := by decide +kernel
theorem dL_carried_18 : decode cL_carried 18 = .ok (.ireturn, 1) := by decide +kernel
theorem dL_carried_19 : decode cL_carried 19 = .ok (.iconst 0, 1) := by decide +kernel
theorem dL_carried_20 : decode cL_carried 20 = .ok (.ireturn, 1) := by decide +kernel
theorem dL_left_0 : decode cL_left 0 = .ok (.aload_n 3, 1) := by decide +kernel
theorem dL_left_1 : decode cL_left 1 = .ok (.iconst 0, 1) := by decide +kernel
theorem dL_left_2 : decode cL_left 2 = .ok (.aload_n 0, 1) := by decide +kernel
theorem dL_left_3 : decode cL_left 3 = .ok (.iload_n 1, 1) := by decide +kernel
theorem dL_left_4 : decode cL_left 4 = .ok (.iload_n 2, 1) := by decide +kernel
theorem dL_left_5 : decode cL_left 5 = .ok (.invokevirtual 59, 3) := by decide +kernel
theorem dL_left_8 : decode cL_left 8 = .ok (.i2l, 1) := by decide +kernel
theorem dL_left_9 : decode cL_left 9 = .ok (.lastore, 1) := by decide +kernel
theorem dL_left_10 : decode cL_left 10 = .ok (.goto 7, 3) := by decide +kernel
theorem dL_left_13 : decode cL_left 13 = .ok (.astore 4, 2) := by decide +kernel
theorem dL_left_15 : decode cL_left 15 = .ok (.iconst 1, 1) := by decide +kernel
theorem dL_left_16 : decode cL_left 16 = .ok (.ireturn, 1) := by decide +kernel
theorem dL_left_17 : decode cL_left 17 = .ok (.iconst 0, 1) := by decide +kernel
theorem dL_left_18 : decode cL_left 18 = .ok (.ireturn, 1) := by decide +kernel
theorem dL_all_0 : decode cL_all 0 = .ok (.aload_n 3, 1) := by decide +kernel
theorem dL_all_1 : decode cL_all 1 = .ok (.iconst 0, 1) := by decide +kernel
theorem dL_all_2 : decode cL_all 2 = .ok (.aload_n 0, 1) := by decide +kernel
theorem dL_all_3 : decode cL_all 3 = .ok (.iload_n 1, 1) := by decide +kernel
theorem dL_all_4 : decode cL_all 4 = .ok (.iload_n 2, 1) := by decide +kernel
theorem dL_all_5 : decode cL_all 5 = .ok (.invokevirtual 62, 3) := by decide +kernel
theorem dL_all_8 : decode cL_all 8 = .ok (.i2l, 1) := by decide +kernel
theorem dL_all_9 : decode cL_all 9 = .ok (.lastore, 1) := by decide +kernel
theorem dL_all_10 : decode cL_all 10 = .ok (.goto 7, 3) := by decide +kernel
theorem dL_all_13 : decode cL_all 13 = .ok (.astore 4, 2) := by decide +kernel
theorem dL_all_15 : decode cL_all 15 = .ok (.iconst 1, 1) := by decide +kernel
theorem dL_all_16 : decode cL_all 16 = .ok (.ireturn, 1) := by decide +kernel
theorem dL_all_17 : decode cL_all 17 = .ok (.iconst 0, 1) := by decide +kernel
theorem dL_all_18 : decode cL_all 18 = .ok (.ireturn, 1) := by decide +kernel
theorem dL_dot_0 : decode cL_dot 0 = .ok (.aload 5, 2) := by decide +kernel
theorem dL_dot_2 : decode cL_dot 2 = .ok (.iconst 0, 1) := by decide +kernel
theorem dL_dot_3 : decode cL_dot 3 = .ok (.aload_n 0, 1) := by decide +kernel
theorem dL_dot_4 : decode cL_dot 4 = .ok (.iload_n 1, 1) := by decide +kernel
theorem dL_dot_5 : decode cL_dot 5 = .ok (.iload_n 2, 1) := by decide +kernel
theorem dL_dot_6 : decode cL_dot 6 = .ok (.iload_n 3, 1) := by decide +kernel
theorem dL_dot_7 : decode cL_dot 7 = .ok (.iload 4, 2) := by decide +kernel
theorem dL_dot_9 : decode cL_dot 9 = .ok (.invokevirtual 65, 3) := by decide +kernel
theorem dL_dot_12 : decode cL_dot 12 = .ok (.i2l, 1) := by decide +kernel
theorem dL_dot_13 : decode cL_dot 13 = .ok (.lastore, 1) := by decide +kernel
theorem dL_dot_14 : decode cL_dot 14 = .ok (.goto 11, 3) := by decide +kernel
theorem dL_dot_17 : decode cL_dot 17 = .ok (.astore 6, 2) := by decide +kernel
theorem dL_dot_19 : decode cL_dot 19 = .ok (.iconst 1, 1) := by decide +kernel
theorem dL_dot_20 : decode cL_dot 20 = .ok (.ireturn, 1) := by decide +kernel
theorem dL_dot_21 : decode cL_dot 21 = .ok (.astore 6, 2) := by decide +kernel
theorem dL_dot_23 : decode cL_dot 23 = .ok (.iconst 2, 1) := by decide +kernel
theorem dL_dot_24 : decode cL_dot 24 = .ok (.ireturn, 1) := by decide +kernel
theorem dL_dot_25 : decode cL_dot 25 = .ok (.iconst 0, 1) := by decide +kernel
theorem dL_dot_26 : decode cL_dot 26 = .ok (.ireturn, 1) := by decide +kernel
theorem dL_crowd_0 : decode cL_crowd 0 = .ok (.aload 4, 2) := by decide +kernel
theorem dL_crowd_2 : decode cL_crowd 2 = .ok (.iconst 0, 1) := by decide +kernel
theorem dL_crowd_3 : decode cL_crowd 3 = .ok (.aload_n 0, 1) := by decide +kernel
theorem dL_crowd_4 : decode cL_crowd 4 = .ok (.iload_n 1, 1) := by decide +kernel
theorem dL_crowd_5 : decode cL_crowd 5 = .ok (.iload_n 2, 1) := by decide +kernel
theorem dL_crowd_6 : decode cL_crowd 6 = .ok (.iload_n 3, 1) := by decide +kernel
theorem dL_crowd_7 : decode cL_crowd 7 = .ok (.invokevirtual 69, 3) := by decide +kernel
theorem dL_crowd_10 : decode cL_crowd 10 = .ok (.i2l, 1) := by decide +kernel
theorem dL_crowd_11 : decode cL_crowd 11 = .ok (.lastore, 1) := by decide +kernel
theorem dL_crowd_12 : decode cL_crowd 12 = .ok (.goto 7, 3) := by decide +kernel
theorem dL_crowd_15 : decode cL_crowd 15 = .ok (.astore 5, 2) := by decide +kernel
theorem dL_crowd_17 : decode cL_crowd 17 = .ok (.iconst 1, 1) := by decide +kernel
theorem dL_crowd_18 : decode cL_crowd 18 = .ok (.ireturn, 1) := by decide +kernel
theorem dL_crowd_19 : decode cL_crowd 19 = .ok (.iconst 0, 1) := by decide +kernel
theorem dL_crowd_20 : decode cL_crowd 20 = .ok (.ireturn, 1) := by decide +kernel
theorem dL_apart_0 : decode cL_apart 0 = .ok (.aload_n 2, 1) := by decide +kernel
theorem dL_apart_1 : decode cL_apart 1 = .ok (.iconst 0, 1) := by decide +kernel
theorem dL_apart_2 : decode cL_apart 2 = .ok (.aload_n 0, 1) := by decide +kernel
theorem dL_apart_3 : decode cL_apart 3 = .ok (.iload_n 1, 1) := by decide +kernel
theorem dL_apart_4 : decode cL_apart 4 = .ok (.invokevirtual 72, 3) := by decide +kernel
theorem dL_apart_7 : decode cL_apart 7 = .ok (.i2l, 1) := by decide +kernel
theorem dL_apart_8 : decode cL_apart 8 = .ok (.lastore, 1) := by decide +kernel
theorem dL_apart_9 : decode cL_apart 9 = .ok (.goto 6, 3) := by decide +kernel
theorem dL_apart_12 : decode cL_apart 12 = .ok (.astore_n 3, 1) := by decide +kernel
theorem dL_apart_13 : decode cL_apart 13 = .ok (.iconst 1, 1) := by decide +kernel
theorem dL_apart_14 : decode cL_apart 14 = .ok (.ireturn, 1) := by decide +kernel
theorem dL_apart_15 : decode cL_apart 15 = .ok (.iconst 0, 1) := by decide +kernel
theorem dL_apart_16 : decode cL_apart 16 = .ok (.ireturn, 1) := by decide +kernel
theorem dL_off_0 : decode cL_off 0 = .ok (.aload_n 3, 1) := by decide +kernel
theorem dL_off_1 : decode cL_off 1 = .ok (.iconst 0, 1) := by decide +kernel
theorem dL_off_2 : decode cL_off 2 = .ok (.aload_n 0, 1) := by decide +kernel
theorem dL_off_3 : decode cL_off 3 = .ok (.iload_n 1, 1) := by decide +kernel
theorem dL_off_4 : decode cL_off 4 = .ok (.iload_n 2, 1) := by decide +kernel
theorem dL_off_5 : decode cL_off 5 = .ok (.invokevirtual 75, 3) := by decide +kernel
theorem dL_off_8 : decode cL_off 8 = .ok (.i2l, 1) := by decide +kernel
theorem dL_off_9 : decode cL_off 9 = .ok (.lastore, 1) := by decide +kernel
theorem dL_off_10 : decode cL_off 10 = .ok (.goto 7, 3) := by decide +kernel
theorem dL_off_13 : decode cL_off 13 = .ok (.astore 4, 2) := by decide +kernel
theorem dL_off_15 : decode cL_off 15 = .ok (.iconst 1, 1) := by decide +kernel
theorem dL_off_16 : decode cL_off 16 = .ok (.ireturn, 1) := by decide +kernel
theorem dL_off_17 : decode cL_off 17 = .ok (.iconst 0, 1) := by decide +kernel
theorem dL_off_18 : decode cL_off 18 = .ok (.ireturn, 1) := by decide +kernel
theorem dL_move_0 : decode cL_move 0 = .ok (.aload 6, 2) := by decide +kernel
theorem dL_move_2 : decode cL_move 2 = .ok (.iconst 0, 1) := by decide +kernel
theorem dL_move_3 : decode cL_move 3 = .ok (.aload_n 0, 1) := by decide +kernel
theorem dL_move_4 : decode cL_move 4 = .ok (.iload_n 1, 1) := by decide +kernel
theorem dL_move_5 : decode cL_move 5 = .ok (.iload_n 2, 1) := by decide +kernel
theorem dL_move_6 : decode cL_move 6 = .ok (.iload_n 3, 1) := by decide +kernel
theorem dL_move_7 : decode cL_move 7 = .ok (.iload 4, 2) := by decide +kernel
theorem dL_move_9 : decode cL_move 9 = .ok (.iload 5, 2) := by decide +kernel
theorem dL_move_11 : decode cL_move 11 = .ok (.invokevirtual 78, 3) := by decide +kernel
theorem dL_move_14 : decode cL_move 14 = .ok (.i2l, 1) := by decide +kernel
theorem dL_move_15 : decode cL_move 15 = .ok (.lastore, 1) := by decide +kernel
theorem dL_move_16 : decode cL_move 16 = .ok (.goto 11, 3) := by decide +kernel
theorem dL_move_19 : decode cL_move 19 = .ok (.astore 7, 2) := by decide +kernel
theorem dL_move_21 : decode cL_move 21 = .ok (.iconst 1, 1) := by decide +kernel
theorem dL_move_22 : decode cL_move 22 = .ok (.ireturn, 1) := by decide +kernel
theorem dL_move_23 : decode cL_move 23 = .ok (.astore 7, 2) := by decide +kernel
theorem dL_move_25 : decode cL_move 25 = .ok (.iconst 2, 1) := by decide +kernel
theorem dL_move_26 : decode cL_move 26 = .ok (.ireturn, 1) := by decide +kernel
theorem dL_move_27 : decode cL_move 27 = .ok (.iconst 0, 1) := by decide +kernel
theorem dL_move_28 : decode cL_move 28 = .ok (.ireturn, 1) := by decide +kernel
theorem dL_tries_0 : decode cL_tries 0 = .ok (.aload 7, 2) := by decide +kernel
theorem dL_tries_2 : decode cL_tries 2 = .ok (.iconst 0, 1) := by decide +kernel
theorem dL_tries_3 : decode cL_tries 3 = .ok (.aload_n 0, 1) := by decide +kernel
theorem dL_tries_4 : decode cL_tries 4 = .ok (.iload_n 1, 1) := by decide +kernel
theorem dL_tries_5 : decode cL_tries 5 = .ok (.iload_n 2, 1) := by decide +kernel
theorem dL_tries_6 : decode cL_tries 6 = .ok (.iload_n 3, 1) := by decide +kernel
theorem dL_tries_7 : decode cL_tries 7 = .ok (.iload 4, 2) := by decide +kernel
theorem dL_tries_9 : decode cL_tries 9 = .ok (.iload 5, 2) := by decide +kernel
theorem dL_tries_11 : decode cL_tries 11 = .ok (.iload 6, 2) := by decide +kernel
theorem dL_tries_13 : decode cL_tries 13 = .ok (.invokevirtual 82, 3) := by decide +kernel
theorem dL_tries_16 : decode cL_tries 16 = .ok (.i2l, 1) := by decide +kernel
theorem dL_tries_17 : decode cL_tries 17 = .ok (.lastore, 1) := by decide +kernel
theorem dL_tries_18 : decode cL_tries 18 = .ok (.goto 11, 3) := by decide +kernel
theorem dL_tries_21 : decode cL_tries 21 = .ok (.astore 8, 2) := by decide +kernel
theorem dL_tries_23 : decode cL_tries 23 = .ok (.iconst 1, 1) := by decide +kernel
theorem dL_tries_24 : decode cL_tries 24 = .ok (.ireturn, 1) := by decide +kernel
theorem dL_tries_25 : decode cL_tries 25 = .ok (.astore 8, 2) := by decide +kernel
theorem dL_tries_27 : decode cL_tries 27 = .ok (.iconst 2, 1) := by decide +kernel
theorem dL_tries_28 : decode cL_tries 28 = .ok (.ireturn, 1) := by decide +kernel
theorem dL_tries_29 : decode cL_tries 29 = .ok (.iconst 0, 1) := by decide +kernel
theorem dL_tries_30 : decode cL_tries 30 = .ok (.ireturn, 1) := by decide +kernel
theorem dL_run_0 : decode cL_run 0 = .ok (.aload 5, 2) := by decide +kernel
theorem dL_run_2 : decode cL_run 2 = .ok (.iconst 0, 1) := by decide +kernel
theorem dL_run_3 : decode cL_run 3 = .ok (.aload_n 0, 1) := by decide +kernel
theorem dL_run_4 : decode cL_run 4 = .ok (.iload_n 1, 1) := by decide +kernel
theorem dL_run_5 : decode cL_run 5 = .ok (.iload_n 2, 1) := by decide +kernel
theorem dL_run_6 : decode cL_run 6 = .ok (.iload_n 3, 1) := by decide +kernel
theorem dL_run_7 : decode cL_run 7 = .ok (.iload 4, 2) := by decide +kernel
theorem dL_run_9 : decode cL_run 9 = .ok (.invokevirtual 86, 3) := by decide +kernel
theorem dL_run_12 : decode cL_run 12 = .ok (.i2l, 1) := by decide +kernel
theorem dL_run_13 : decode cL_run 13 = .ok (.lastore, 1) := by decide +kernel
theorem dL_run_14 : decode cL_run 14 = .ok (.goto 7, 3) := by decide +kernel
theorem dL_run_17 : decode cL_run 17 = .ok (.astore 6, 2) := by decide +kernel
theorem dL_run_19 : decode cL_run 19 = .ok (.iconst 1, 1) := by decide +kernel
theorem dL_run_20 : decode cL_run 20 = .ok (.ireturn, 1) := by decide +kernel
theorem dL_run_21 : decode cL_run 21 = .ok (.iconst 0, 1) := by decide +kernel
theorem dL_run_22 : decode cL_run 22 = .ok (.ireturn, 1) := by decide +kernel
theorem dL_part_0 : decode cL_part 0 = .ok (.aload_n 2, 1) := by decide +kernel
theorem dL_part_1 : decode cL_part 1 = .ok (.iconst 0, 1) := by decide +kernel
theorem dL_part_2 : decode cL_part 2 = .ok (.aload_n 0, 1) := by decide +kernel
theorem dL_part_3 : decode cL_part 3 = .ok (.iload_n 1, 1) := by decide +kernel
theorem dL_part_4 : decode cL_part 4 = .ok (.invokevirtual 90, 3) := by decide +kernel
theorem dL_part_7 : decode cL_part 7 = .ok (.i2l, 1) := by decide +kernel
theorem dL_part_8 : decode cL_part 8 = .ok (.lastore, 1) := by decide +kernel
theorem dL_part_9 : decode cL_part 9 = .ok (.goto 6, 3) := by decide +kernel
theorem dL_part_12 : decode cL_part 12 = .ok (.astore_n 3, 1) := by decide +kernel
theorem dL_part_13 : decode cL_part 13 = .ok (.iconst 1, 1) := by decide +kernel
theorem dL_part_14 : decode cL_part 14 = .ok (.ireturn, 1) := by decide +kernel
theorem dL_part_15 : decode cL_part 15 = .ok (.iconst 0, 1) := by decide +kernel
theorem dL_part_16 : decode cL_part 16 = .ok (.ireturn, 1) := by decide +kernel
theorem dL_measure_0 : decode cL_measure 0 = .ok (.aload 5, 2) := by decide +kernel
theorem dL_measure_2 : decode cL_measure 2 = .ok (.iconst 0, 1) := by decide +kernel
theorem dL_measure_3 : decode cL_measure 3 = .ok (.aload_n 0, 1) := by decide +kernel
theorem dL_measure_4 : decode cL_measure 4 = .ok (.iload_n 1, 1) := by decide +kernel
theorem dL_measure_5 : decode cL_measure 5 = .ok (.iload_n 2, 1) := by decide +kernel
theorem dL_measure_6 : decode cL_measure 6 = .ok (.iload_n 3, 1) := by decide +kernel
theorem dL_measure_7 : decode cL_measure 7 = .ok (.iload 4, 2) := by decide +kernel
theorem dL_measure_9 : decode cL_measure 9 = .ok (.invokevirtual 93, 3) := by decide +kernel
theorem dL_measure_12 : decode cL_measure 12 = .ok (.i2l, 1) := by decide +kernel
theorem dL_measure_13 : decode cL_measure 13 = .ok (.lastore, 1) := by decide +kernel
theorem dL_measure_14 : decode cL_measure 14 = .ok (.goto 15, 3) := by decide +kernel
theorem dL_measure_17 : decode cL_measure 17 = .ok (.astore 6, 2) := by decide +kernel
theorem dL_measure_19 : decode cL_measure 19 = .ok (.iconst 1, 1) := by decide +kernel
theorem dL_measure_20 : decode cL_measure 20 = .ok (.ireturn, 1) := by decide +kernel
theorem dL_measure_21 : decode cL_measure 21 = .ok (.astore 6, 2) := by decide +kernel
theorem dL_measure_23 : decode cL_measure 23 = .ok (.iconst 2, 1) := by decide +kernel
theorem dL_measure_24 : decode cL_measure 24 = .ok (.ireturn, 1) := by decide +kernel
theorem dL_measure_25 : decode cL_measure 25 = .ok (.astore 6, 2) := by decide +kernel
theorem dL_measure_27 : decode cL_measure 27 = .ok (.iconst 3, 1) := by decide +kernel
theorem dL_measure_28 : decode cL_measure 28 = .ok (.ireturn, 1) := by decide +kernel
theorem dL_measure_29 : decode cL_measure 29 = .ok (.iconst 0, 1) := by decide +kernel
theorem dL_measure_30 : decode cL_measure 30 = .ok (.ireturn, 1) := by decide +kernel
theorem dL_best_0 : decode cL_best 0 = .ok (.aload 4, 2) := by decide +kernel
theorem dL_best_2 : decode cL_best 2 = .ok (.iconst 0, 1) := by decide +kernel
theorem dL_best_3 : decode cL_best 3 = .ok (.aload_n 0, 1) := by decide +kernel
theorem dL_best_4 : decode cL_best 4 = .ok (.iload_n 1, 1) := by decide +kernel
theorem dL_best_5 : decode cL_best 5 = .ok (.iload_n 2, 1) := by decide +kernel
theorem dL_best_6 : decode cL_best 6 = .ok (.iload_n 3, 1) := by decide +kernel
theorem dL_best_7 : decode cL_best 7 = .ok (.invokevirtual 96, 3) := by decide +kernel
theorem dL_best_10 : decode cL_best 10 = .ok (.i2l, 1) := by decide +kernel
theorem dL_best_11 : decode cL_best 11 = .ok (.lastore, 1) := by decide +kernel
theorem dL_best_12 : decode cL_best 12 = .ok (.goto 15, 3) := by decide +kernel
theorem dL_best_15 : decode cL_best 15 = .ok (.astore 5, 2) := by decide +kernel
theorem dL_best_17 : decode cL_best 17 = .ok (.iconst 1, 1) := by decide +kernel
theorem dL_best_18 : decode cL_best 18 = .ok (.ireturn, 1) := by decide +kernel
theorem dL_best_19 : decode cL_best 19 = .ok (.astore 5, 2) := by decide +kernel
theorem dL_best_21 : decode cL_best 21 = .ok (.iconst 2, 1) := by decide +kernel
theorem dL_best_22 : decode cL_best 22 = .ok (.ireturn, 1) := by decide +kernel
theorem dL_best_23 : decode cL_best 23 = .ok (.astore 5, 2) := by decide +kernel
theorem dL_best_25 : decode cL_best 25 = .ok (.iconst 3, 1) := by decide +kernel
theorem dL_best_26 : decode cL_best 26 = .ok (.ireturn, 1) := by decide +kernel
theorem dL_best_27 : decode cL_best 27 = .ok (.iconst 0, 1) := by decide +kernel
theorem dL_best_28 : decode cL_best 28 = .ok (.ireturn, 1) := by decide +kernel
theorem dL_nearest_0 : decode cL_nearest 0 = .ok (.aload_n 3, 1) := by decide +kernel
theorem dL_nearest_1 : decode cL_nearest 1 = .ok (.iconst 0, 1) := by decide +kernel
theorem dL_nearest_2 : decode cL_nearest 2 = .ok (.aload_n 0, 1) := by decide +kernel
theorem dL_nearest_3 : decode cL_nearest 3 = .ok (.iload_n 1, 1) := by decide +kernel
theorem dL_nearest_4 : decode cL_nearest 4 = .ok (.iload_n 2, 1) := by decide +kernel
theorem dL_nearest_5 : decode cL_nearest 5 = .ok (.invokevirtual 99, 3) := by decide +kernel
theorem dL_nearest_8 : decode cL_nearest 8 = .ok (.i2l, 1) := by decide +kernel
theorem dL_nearest_9 : decode cL_nearest 9 = .ok (.lastore, 1) := by decide +kernel
theorem dL_nearest_10 : decode cL_nearest 10 = .ok (.goto 7, 3) := by decide +kernel
theorem dL_nearest_13 : decode cL_nearest 13 = .ok (.astore 4, 2) := by decide +kernel
theorem dL_nearest_15 : decode cL_nearest 15 = .ok (.iconst 1, 1) := by decide +kernel
theorem dL_nearest_16 : decode cL_nearest 16 = .ok (.ireturn, 1) := by decide +kernel
theorem dL_nearest_17 : decode cL_nearest 17 = .ok (.iconst 0, 1) := by decide +kernel
theorem dL_nearest_18 : decode cL_nearest 18 = .ok (.ireturn, 1) := by decide +kernel
theorem dL_served_0 : decode cL_served 0 = .ok (.aload_n 3, 1) := by decide +kernel
theorem dL_served_1 : decode cL_served 1 = .ok (.iconst 0, 1) := by decide +kernel
theorem dL_served_2 : decode cL_served 2 = .ok (.aload_n 0, 1) := by decide +kernel
theorem dL_served_3 : decode cL_served 3 = .ok (.iload_n 1, 1) := by decide +kernel
theorem dL_served_4 : decode cL_served 4 = .ok (.iload_n 2, 1) := by decide +kernel
theorem dL_served_5 : decode cL_served 5 = .ok (.invokevirtual 102, 3) := by decide +kernel
theorem dL_served_8 : decode cL_served 8 = .ok (.i2l, 1) := by decide +kernel
theorem dL_served_9 : decode cL_served 9 = .ok (.lastore, 1) := by decide +kernel
theorem dL_served_10 : decode cL_served 10 = .ok (.goto 7, 3) := by decide +kernel
theorem dL_served_13 : decode cL_served 13 = .ok (.astore 4, 2) := by decide +kernel
theorem dL_served_15 : decode cL_served 15 = .ok (.iconst 1, 1) := by decide +kernel
theorem dL_served_16 : decode cL_served 16 = .ok (.ireturn, 1) := by decide +kernel
theorem dL_served_17 : decode cL_served 17 = .ok (.iconst 0, 1) := by decide +kernel
theorem dL_served_18 : decode cL_served 18 = .ok (.ireturn, 1) := by decide +kernel
theorem dL_thinned_0 : decode cL_thinned 0 = .ok (.aload 4, 2) := by decide +kernel
theorem dL_thinned_2 : decode cL_thinned 2 = .ok (.iconst 0, 1) := by decide +kernel
theorem dL_thinned_3 : decode cL_thinned 3 = .ok (.aload_n 0, 1) := by decide +kernel
theorem dL_thinned_4 : decode cL_thinned 4 = .ok (.iload_n 1, 1) := by decide +kernel
theorem dL_thinned_5 : decode cL_thinned 5 = .ok (.iload_n 2, 1) := by decide +kernel
theorem dL_thinned_6 : decode cL_thinned 6 = .ok (.iload_n 3, 1) := by decide +kernel
theorem dL_thinned_7 : decode cL_thinned 7 = .ok (.invokevirtual 105, 3) := by decide +kernel
theorem dL_thinned_10 : decode cL_thinned 10 = .ok (.i2l, 1) := by decide +kernel
theorem dL_thinned_11 : decode cL_thinned 11 = .ok (.lastore, 1) := by decide +kernel
theorem dL_thinned_12 : decode cL_thinned 12 = .ok (.goto 11, 3) := by decide +kernel
theorem dL_thinned_15 : decode cL_thinned 15 = .ok (.astore 5, 2) := by decide +kernel
theorem dL_thinned_17 : decode cL_thinned 17 = .ok (.iconst 1, 1) := by decide +kernel
theorem dL_thinned_18 : decode cL_thinned 18 = .ok (.ireturn, 1) := by decide +kernel
theorem dL_thinned_19 : decode cL_thinned 19 = .ok (.astore 5, 2) := by decide +kernel
theorem dL_thinned_21 : decode cL_thinned 21 = .ok (.iconst 2, 1) := by decide +kernel
theorem dL_thinned_22 : decode cL_thinned 22 = .ok (.ireturn, 1) := by decide +kernel
theorem dL_thinned_23 : decode cL_thinned 23 = .ok (.iconst 0, 1) := by decide +kernel
theorem dL_thinned_24 : decode cL_thinned 24 = .ok (.ireturn, 1) := by decide +kernel
theorem dL_tour_0 : decode cL_tour 0 = .ok (.aload_n 3, 1) := by decide +kernel
theorem dL_tour_1 : decode cL_tour 1 = .ok (.iconst 0, 1) := by decide +kernel
theorem dL_tour_2 : decode cL_tour 2 = .ok (.aload_n 0, 1) := by decide +kernel
theorem dL_tour_3 : decode cL_tour 3 = .ok (.iload_n 1, 1) := by decide +kernel
theorem dL_tour_4 : decode cL_tour 4 = .ok (.iload_n 2, 1) := by decide +kernel
theorem dL_tour_5 : decode cL_tour 5 = .ok (.invokevirtual 108, 3) := by decide +kernel
theorem dL_tour_8 : decode cL_tour 8 = .ok (.i2l, 1) := by decide +kernel
theorem dL_tour_9 : decode cL_tour 9 = .ok (.lastore, 1) := by decide +kernel
theorem dL_tour_10 : decode cL_tour 10 = .ok (.goto 7, 3) := by decide +kernel
theorem dL_tour_13 : decode cL_tour 13 = .ok (.astore 4, 2) := by decide +kernel
theorem dL_tour_15 : decode cL_tour 15 = .ok (.iconst 1, 1) := by decide +kernel
theorem dL_tour_16 : decode cL_tour 16 = .ok (.ireturn, 1) := by decide +kernel
theorem dL_tour_17 : decode cL_tour 17 = .ok (.iconst 0, 1) := by decide +kernel
theorem dL_tour_18 : decode cL_tour 18 = .ok (.ireturn, 1) := by decide +kernel
theorem dL_way_0 : decode cL_way 0 = .ok (.aload_n 2, 1) := by decide +kernel
theorem dL_way_1 : decode cL_way 1 = .ok (.iconst 0, 1) := by decide +kernel
theorem dL_way_2 : decode cL_way 2 = .ok (.aload_n 0, 1) := by decide +kernel
theorem dL_way_3 : decode cL_way 3 = .ok (.iload_n 1, 1) := by decide +kernel
theorem dL_way_4 : decode cL_way 4 = .ok (.invokevirtual 111, 3) := by decide +kernel
theorem dL_way_7 : decode cL_way 7 = .ok (.i2l, 1) := by decide +kernel
theorem dL_way_8 : decode cL_way 8 = .ok (.lastore, 1) := by decide +kernel
theorem dL_way_9 : decode cL_way 9 = .ok (.goto 6, 3) := by decide +kernel
theorem dL_way_12 : decode cL_way 12 = .ok (.astore_n 3, 1) := by decide +kernel
theorem dL_way_13 : decode cL_way 13 = .ok (.iconst 1, 1) := by decide +kernel
theorem dL_way_14 : decode cL_way 14 = .ok (.ireturn, 1) := by decide +kernel
theorem dL_way_15 : decode cL_way 15 = .ok (.iconst 0, 1) := by decide +kernel
theorem dL_way_16 : decode cL_way 16 = .ok (.ireturn, 1) := by decide +kernel
theorem dL_hull_0 : decode cL_hull 0 = .ok (.aload_n 3, 1) := by decide +kernel
theorem dL_hull_1 : decode cL_hull 1 = .ok (.iconst 0, 1) := by decide +kernel
theorem dL_hull_2 : decode cL_hull 2 = .ok (.aload_n 0, 1) := by decide +kernel
theorem dL_hull_3 : decode cL_hull 3 = .ok (.iload_n 1, 1) := by decide +kernel
theorem dL_hull_4 : decode cL_hull 4 = .ok (.iload_n 2, 1) := by decide +kernel
theorem dL_hull_5 : decode cL_hull 5 = .ok (.invokevirtual 114, 3) := by decide +kernel
theorem dL_hull_8 : decode cL_hull 8 = .ok (.i2l, 1) := by decide +kernel
theorem dL_hull_9 : decode cL_hull 9 = .ok (.lastore, 1) := by decide +kernel
theorem dL_hull_10 : decode cL_hull 10 = .ok (.goto 7, 3) := by decide +kernel
theorem dL_hull_13 : decode cL_hull 13 = .ok (.astore 4, 2) := by decide +kernel
theorem dL_hull_15 : decode cL_hull 15 = .ok (.iconst 1, 1) := by decide +kernel
theorem dL_hull_16 : decode cL_hull 16 = .ok (.ireturn, 1) := by decide +kernel
theorem dL_hull_17 : decode cL_hull 17 = .ok (.iconst 0, 1) := by decide +kernel
theorem dL_hull_18 : decode cL_hull 18 = .ok (.ireturn, 1) := by decide +kernel
theorem dL_area_0 : decode cL_area 0 = .ok (.aload_n 2, 1) := by decide +kernel
theorem dL_area_1 : decode cL_area 1 = .ok (.iconst 0, 1) := by decide +kernel
theorem dL_area_2 : decode cL_area 2 = .ok (.aload_n 0, 1) := by decide +kernel
theorem dL_area_3 : decode cL_area 3 = .ok (.iload_n 1, 1) := by decide +kernel
theorem dL_area_4 : decode cL_area 4 = .ok (.invokevirtual 117, 3) := by decide +kernel
theorem dL_area_7 : decode cL_area 7 = .ok (.i2l, 1) := by decide +kernel
theorem dL_area_8 : decode cL_area 8 = .ok (.lastore, 1) := by decide +kernel
theorem dL_area_9 : decode cL_area 9 = .ok (.goto 6, 3) := by decide +kernel
theorem dL_area_12 : decode cL_area 12 = .ok (.astore_n 3, 1) := by decide +kernel
theorem dL_area_13 : decode cL_area 13 = .ok (.iconst 1, 1) := by decide +kernel
theorem dL_area_14 : decode cL_area 14 = .ok (.ireturn, 1) := by decide +kernel
theorem dL_area_15 : decode cL_area 15 = .ok (.iconst 0, 1) := by decide +kernel
theorem dL_area_16 : decode cL_area 16 = .ok (.ireturn, 1) := by decide +kernel
theorem dL_middle_0 : decode cL_middle 0 = .ok (.aload_n 3, 1) := by decide +kernel
theorem dL_middle_1 : decode cL_middle 1 = .ok (.iconst 0, 1) := by decide +kernel
theorem dL_middle_2 : decode cL_middle 2 = .ok (.aload_n 0, 1) := by decide +kernel
theorem dL_middle_3 : decode cL_middle 3 = .ok (.iload_n 1, 1) := by decide +kernel
theorem dL_middle_4 : decode cL_middle 4 = .ok (.iload_n 2, 1) := by decide +kernel
theorem dL_middle_5 : decode cL_middle 5 = .ok (.invokevirtual 120, 3) := by decide +kernel
theorem dL_middle_8 : decode cL_middle 8 = .ok (.i2l, 1) := by decide +kernel
theorem dL_middle_9 : decode cL_middle 9 = .ok (.lastore, 1) := by decide +kernel
theorem dL_middle_10 : decode cL_middle 10 = .ok (.goto 7, 3) := by decide +kernel
theorem dL_middle_13 : decode cL_middle 13 = .ok (.astore 4, 2) := by decide +kernel
theorem dL_middle_15 : decode cL_middle 15 = .ok (.iconst 1, 1) := by decide +kernel
theorem dL_middle_16 : decode cL_middle 16 = .ok (.ireturn, 1) := by decide +kernel
theorem dL_middle_17 : decode cL_middle 17 = .ok (.iconst 0, 1) := by decide +kernel
theorem dL_middle_18 : decode cL_middle 18 = .ok (.ireturn, 1) := by decide +kernel
theorem dL_line_0 : decode cL_line 0 = .ok (.aload 4, 2) := by decide +kernel
theorem dL_line_2 : decode cL_line 2 = .ok (.iconst 0, 1) := by decide +kernel
theorem dL_line_3 : decode cL_line 3 = .ok (.aload_n 0, 1) := by decide +kernel
theorem dL_line_4 : decode cL_line 4 = .ok (.iload_n 1, 1) := by decide +kernel
theorem dL_line_5 : decode cL_line 5 = .ok (.iload_n 2, 1) := by decide +kernel
theorem dL_line_6 : decode cL_line 6 = .ok (.iload_n 3, 1) := by decide +kernel
theorem dL_line_7 : decode cL_line 7 = .ok (.invokevirtual 123, 3) := by decide +kernel
theorem dL_line_10 : decode cL_line 10 = .ok (.i2l, 1) := by decide +kernel
theorem dL_line_11 : decode cL_line 11 = .ok (.lastore, 1) := by decide +kernel
theorem dL_line_12 : decode cL_line 12 = .ok (.goto 7, 3) := by decide +kernel
theorem dL_line_15 : decode cL_line 15 = .ok (.astore 5, 2) := by decide +kernel
theorem dL_line_17 : decode cL_line 17 = .ok (.iconst 1, 1) := by decide +kernel
theorem dL_line_18 : decode cL_line 18 = .ok (.ireturn, 1) := by decide +kernel
theorem dL_line_19 : decode cL_line 19 = .ok (.iconst 0, 1) := by decide +kernel
theorem dL_line_20 : decode cL_line 20 = .ok (.ireturn, 1) := by decide +kernel
theorem dL_joined_0 : decode cL_joined 0 = .ok (.aload 4, 2) := by decide +kernel
theorem dL_joined_2 : decode cL_joined 2 = .ok (.iconst 0, 1) := by decide +kernel
theorem dL_joined_3 : decode cL_joined 3 = .ok (.aload_n 0, 1) := by decide +kernel
theorem dL_joined_4 : decode cL_joined 4 = .ok (.iload_n 1, 1) := by decide +kernel
theorem dL_joined_5 : decode cL_joined 5 = .ok (.iload_n 2, 1) := by decide +kernel
theorem dL_joined_6 : decode cL_joined 6 = .ok (.iload_n 3, 1) := by decide +kernel
theorem dL_joined_7 : decode cL_joined 7 = .ok (.invokevirtual 127, 3) := by decide +kernel
theorem dL_joined_10 : decode cL_joined 10 = .ok (.i2l, 1) := by decide +kernel
theorem dL_joined_11 : decode cL_joined 11 = .ok (.lastore, 1) := by decide +kernel
theorem dL_joined_12 : decode cL_joined 12 = .ok (.goto 11, 3) := by decide +kernel
theorem dL_joined_15 : decode cL_joined 15 = .ok (.astore 5, 2) := by decide +kernel
theorem dL_joined_17 : decode cL_joined 17 = .ok (.iconst 1, 1) := by decide +kernel
theorem dL_joined_18 : decode cL_joined 18 = .ok (.ireturn, 1) := by decide +kernel
theorem dL_joined_19 : decode cL_joined 19 = .ok (.astore 5, 2) := by decide +kernel
theorem dL_joined_21 : decode cL_joined 21 = .ok (.iconst 2, 1) := by decide +kernel
theorem dL_joined_22 : decode cL_joined 22 = .ok (.ireturn, 1) := by decide +kernel
theorem dL_joined_23 : decode cL_joined 23 = .ok (.iconst 0, 1) := by decide +kernel
theorem dL_joined_24 : decode cL_joined 24 = .ok (.ireturn, 1) := by decide +kernel
theorem dL_write_0 : decode cL_write 0 = .ok (.aload_n 2, 1) := by decide +kernel
theorem dL_write_1 : decode cL_write 1 = .ok (.iconst 0, 1) := by decide +kernel
theorem dL_write_2 : decode cL_write 2 = .ok (.aload_n 0, 1) := by decide +kernel
theorem dL_write_3 : decode cL_write 3 = .ok (.iload_n 1, 1) := by decide +kernel
theorem dL_write_4 : decode cL_write 4 = .ok (.invokevirtual 130, 3) := by decide +kernel
theorem dL_write_7 : decode cL_write 7 = .ok (.i2l, 1) := by decide +kernel
theorem dL_write_8 : decode cL_write 8 = .ok (.lastore, 1) := by decide +kernel
theorem dL_write_9 : decode cL_write 9 = .ok (.goto 6, 3) := by decide +kernel
theorem dL_write_12 : decode cL_write 12 = .ok (.astore_n 3, 1) := by decide +kernel
theorem dL_write_13 : decode cL_write 13 = .ok (.iconst 1, 1) := by decide +kernel
theorem dL_write_14 : decode cL_write 14 = .ok (.ireturn, 1) := by decide +kernel
theorem dL_write_15 : decode cL_write 15 = .ok (.iconst 0, 1) := by decide +kernel
theorem dL_write_16 : decode cL_write 16 = .ok (.ireturn, 1) := by decide +kernel
theorem dL_law_0 : decode cL_law 0 = .ok (.new 8, 3) := by decide +kernel
theorem dL_law_3 : decode cL_law 3 = .ok (.dup, 1) := by decide +kernel
theorem dL_law_4 : decode cL_law 4 = .ok (.invokespecial 133, 3) := by decide +kernel
theorem dL_law_7 : decode cL_law 7 = .ok (.astore_n 1, 1) := by decide +kernel
theorem dL_law_8 : decode cL_law 8 = .ok (.new 134, 3) := by decide +kernel
theorem dL_law_11 : decode cL_law 11 = .ok (.dup, 1) := by decide +kernel
theorem dL_law_12 : decode cL_law 12 = .ok (.invokespecial 136, 3) := by decide +kernel
theorem dL_law_15 : decode cL_law 15 = .ok (.astore_n 2, 1) := by decide +kernel
theorem dL_law_16 : decode cL_law 16 = .ok (.iconst 1, 1) := by decide +kernel
theorem dL_law_17 : decode cL_law 17 = .ok (.newarray .long, 2) := by decide +kernel
theorem dL_law_19 : decode cL_law 19 = .ok (.astore_n 3, 1) := by decide +kernel
theorem dL_law_20 : decode cL_law 20 = .ok (.iconst 0, 1) := by decide +kernel
theorem dL_law_21 : decode cL_law 21 = .ok (.istore 4, 2) := by decide +kernel
theorem dL_law_23 : decode cL_law 23 = .ok (.iload 4, 2) := by decide +kernel
theorem dL_law_25 : decode cL_law 25 = .ok (.aload_n 0, 1) := by decide +kernel
theorem dL_law_26 : decode cL_law 26 = .ok (.arraylength, 1) := by decide +kernel
theorem dL_law_27 : decode cL_law 27 = .ok (.bipush 7, 2) := by decide +kernel
theorem dL_law_29 : decode cL_law 29 = .ok (.isub, 1) := by decide +kernel
theorem dL_law_30 : decode cL_law 30 = .ok (.if_icmp .gt 3052, 3) := by decide +kernel
theorem dL_law_33 : decode cL_law 33 = .ok (.aload_n 0, 1) := by decide +kernel
theorem dL_law_34 : decode cL_law 34 = .ok (.iload 4, 2) := by decide +kernel
theorem dL_law_36 : decode cL_law 36 = .ok (.iaload, 1) := by decide +kernel
theorem dL_law_37 : decode cL_law 37 = .ok (.bipush 63, 2) := by decide +kernel
theorem dL_law_39 : decode cL_law 39 = .ok (.iand, 1) := by decide +kernel
theorem dL_law_40 : decode cL_law 40 = .ok (.tableswitch 3036 0 42 #[188, 261, 286, 330, 343, 411, 479, 547, 627, 695, 786, 842, 898, 966, 1022, 1102, 1182, 1250, 1318, 1410, 1490, 1546, 1614, 1718, 1836, 1944, 2000, 2092, 2172, 2240, 2308, 2388, 2456, 2512, 2580, 2636, 2704, 2800, 2880, 2905, 2930, 2986, 3011], 188) := by decide +kernel
theorem dL_law_228 : decode cL_law 228 = .ok (.aload_n 1, 1) := by decide +kernel
theorem dL_law_229 : decode cL_law 229 = .ok (.aload_n 0, 1) := by decide +kernel
theorem dL_law_230 : decode cL_law 230 = .ok (.iload 4, 2) := by decide +kernel
theorem dL_law_232 : decode cL_law 232 = .ok (.iconst 1, 1) := by decide +kernel
theorem dL_law_233 : decode cL_law 233 = .ok (.iadd, 1) := by decide +kernel
theorem dL_law_234 : decode cL_law 234 = .ok (.iaload, 1) := by decide +kernel
theorem dL_law_235 : decode cL_law 235 = .ok (.aload_n 0, 1) := by decide +kernel
theorem dL_law_236 : decode cL_law 236 = .ok (.iload 4, 2) := by decide +kernel
theorem dL_law_238 : decode cL_law 238 = .ok (.iconst 2, 1) := by decide +kernel
theorem dL_law_239 : decode cL_law 239 = .ok (.iadd, 1) := by decide +kernel
theorem dL_law_240 : decode cL_law 240 = .ok (.iaload, 1) := by decide +kernel
theorem dL_law_241 : decode cL_law 241 = .ok (.aload_n 0, 1) := by decide +kernel
theorem dL_law_242 : decode cL_law 242 = .ok (.iload 4, 2) := by decide +kernel
theorem dL_law_244 : decode cL_law 244 = .ok (.iconst 3, 1) := by decide +kernel
theorem dL_law_245 : decode cL_law 245 = .ok (.iadd, 1) := by decide +kernel
theorem dL_law_246 : decode cL_law 246 = .ok (.iaload, 1) := by decide +kernel
theorem dL_law_247 : decode cL_law 247 = .ok (.aload_n 0, 1) := by decide +kernel
theorem dL_law_248 : decode cL_law 248 = .ok (.iload 4, 2) := by decide +kernel
theorem dL_law_250 : decode cL_law 250 = .ok (.iconst 4, 1) := by decide +kernel
theorem dL_law_251 : decode cL_law 251 = .ok (.iadd, 1) := by decide +kernel
theorem dL_law_252 : decode cL_law 252 = .ok (.iaload, 1) := by decide +kernel
theorem dL_law_253 : decode cL_law 253 = .ok (.aload_n 0, 1) := by decide +kernel
theorem dL_law_254 : decode cL_law 254 = .ok (.iload 4, 2) := by decide +kernel
theorem dL_law_256 : decode cL_law 256 = .ok (.iconst 5, 1) := by decide +kernel
theorem dL_law_257 : decode cL_law 257 = .ok (.iadd, 1) := by decide +kernel
theorem dL_law_258 : decode cL_law 258 = .ok (.iaload, 1) := by decide +kernel
theorem dL_law_259 : decode cL_law 259 = .ok (.invokevirtual 137, 3) := by decide +kernel
theorem dL_law_262 : decode cL_law 262 = .ok (.aload_n 2, 1) := by decide +kernel
theorem dL_law_263 : decode cL_law 263 = .ok (.aload_n 0, 1) := by decide +kernel
theorem dL_law_264 : decode cL_law 264 = .ok (.iload 4, 2) := by decide +kernel
theorem dL_law_266 : decode cL_law 266 = .ok (.iconst 1, 1) := by decide +kernel
theorem dL_law_267 : decode cL_law 267 = .ok (.iadd, 1) := by decide +kernel
theorem dL_law_268 : decode cL_law 268 = .ok (.iaload, 1) := by decide +kernel
theorem dL_law_269 : decode cL_law 269 = .ok (.aload_n 0, 1) := by decide +kernel
theorem dL_law_270 : decode cL_law 270 = .ok (.iload 4, 2) := by decide +kernel
theorem dL_law_272 : decode cL_law 272 = .ok (.iconst 2, 1) := by decide +kernel
theorem dL_law_273 : decode cL_law 273 = .ok (.iadd, 1) := by decide +kernel
theorem dL_law_274 : decode cL_law 274 = .ok (.iaload, 1) := by decide +kernel
theorem dL_law_275 : decode cL_law 275 = .ok (.aload_n 0, 1) := by decide +kernel
theorem dL_law_276 : decode cL_law 276 = .ok (.iload 4, 2) := by decide +kernel
theorem dL_law_278 : decode cL_law 278 = .ok (.iconst 3, 1) := by decide +kernel
theorem dL_law_279 : decode cL_law 279 = .ok (.iadd, 1) := by decide +kernel
theorem dL_law_280 : decode cL_law 280 = .ok (.iaload, 1) := by decide +kernel
theorem dL_law_281 : decode cL_law 281 = .ok (.aload_n 0, 1) := by decide +kernel
theorem dL_law_282 : decode cL_law 282 = .ok (.iload 4, 2) := by decide +kernel
theorem dL_law_284 : decode cL_law 284 = .ok (.iconst 4, 1) := by decide +kernel
theorem dL_law_285 : decode cL_law 285 = .ok (.iadd, 1) := by decide +kernel
theorem dL_law_286 : decode cL_law 286 = .ok (.iaload, 1) := by decide +kernel
theorem dL_law_287 : decode cL_law 287 = .ok (.aload_n 0, 1) := by decide +kernel
theorem dL_law_288 : decode cL_law 288 = .ok (.iload 4, 2) := by decide +kernel
theorem dL_law_290 : decode cL_law 290 = .ok (.iconst 5, 1) := by decide +kernel
theorem dL_law_291 : decode cL_law 291 = .ok (.iadd, 1) := by decide +kernel
theorem dL_law_292 : decode cL_law 292 = .ok (.iaload, 1) := by decide +kernel
theorem dL_law_293 : decode cL_law 293 = .ok (.invokevirtual 140, 3) := by decide +kernel
theorem dL_law_296 : decode cL_law 296 = .ok (.if_icmp .eq 2780, 3) := by decide +kernel
theorem dL_law_299 : decode cL_law 299 = .ok (.iconst 0, 1) := by decide +kernel
theorem dL_law_300 : decode cL_law 300 = .ok (.ireturn, 1) := by decide +kernel
theorem dL_law_301 : decode cL_law 301 = .ok (.aload_n 1, 1) := by decide +kernel
theorem dL_law_302 : decode cL_law 302 = .ok (.aload_n 0, 1) := by decide +kernel
theorem dL_law_303 : decode cL_law 303 = .ok (.iload 4, 2) := by decide +kernel
theorem dL_law_305 : decode cL_law 305 = .ok (.iconst 1, 1) := by decide +kernel
theorem dL_law_306 : decode cL_law 306 = .ok (.iadd, 1) := by decide +kernel
theorem dL_law_307 : decode cL_law 307 = .ok (.iaload, 1) := by decide +kernel
theorem dL_law_308 : decode cL_law 308 = .ok (.invokevirtual 141, 3) := by decide +kernel
theorem dL_law_311 : decode cL_law 311 = .ok (.aload_n 2, 1) := by decide +kernel
theorem dL_law_312 : decode cL_law 312 = .ok (.aload_n 0, 1) := by decide +kernel
theorem dL_law_313 : decode cL_law 313 = .ok (.iload 4, 2) := by decide +kernel
theorem dL_law_315 : decode cL_law 315 = .ok (.iconst 1, 1) := by decide +kernel
theorem dL_law_316 : decode cL_law 316 = .ok (.iadd, 1) := by decide +kernel
theorem dL_law_317 : decode cL_law 317 = .ok (.iaload, 1) := by decide +kernel
theorem dL_law_318 : decode cL_law 318 = .ok (.invokevirtual 145, 3) := by decide +kernel
theorem dL_law_321 : decode cL_law 321 = .ok (.if_icmp .eq 2755, 3) := by decide +kernel
theorem dL_law_324 : decode cL_law 324 = .ok (.iconst 0, 1) := by decide +kernel
theorem dL_law_325 : decode cL_law 325 = .ok (.ireturn, 1) := by decide +kernel
theorem dL_law_326 : decode cL_law 326 = .ok (.aload_n 1, 1) := by decide +kernel
theorem dL_law_327 : decode cL_law 327 = .ok (.aload_n 3, 1) := by decide +kernel
theorem dL_law_328 : decode cL_law 328 = .ok (.invokestatic 146, 3) := by decide +kernel
theorem dL_law_331 : decode cL_law 331 = .ok (.istore 5, 2) := by decide +kernel
theorem dL_law_333 : decode cL_law 333 = .ok (.aload_n 2, 1) := by decide +kernel
theorem dL_law_334 : decode cL_law 334 = .ok (.invokevirtual 151, 3) := by decide +kernel
theorem dL_law_337 : decode cL_law 337 = .ok (.istore 6, 2) := by decide +kernel
theorem dL_law_339 : decode cL_law 339 = .ok (.aload_n 2, 1) := by decide +kernel
theorem dL_law_340 : decode cL_law 340 = .ok (.invokevirtual 152, 3) := by decide +kernel
theorem dL_law_343 : decode cL_law 343 = .ok (.iload 5, 2) := by decide +kernel
theorem dL_law_345 : decode cL_law 345 = .ok (.if_icmp .eq 5, 3) := by decide +kernel
theorem dL_law_348 : decode cL_law 348 = .ok (.iconst 0, 1) := by decide +kernel
theorem dL_law_349 : decode cL_law 349 = .ok (.ireturn, 1) := by decide +kernel
theorem dL_law_350 : decode cL_law 350 = .ok (.iload 5, 2) := by decide +kernel
theorem dL_law_352 : decode cL_law 352 = .ok (.ifCond .ne 15, 3) := by decide +kernel
theorem dL_law_355 : decode cL_law 355 = .ok (.aload_n 3, 1) := by decide +kernel
theorem dL_law_356 : decode cL_law 356 = .ok (.iconst 0, 1) := by decide +kernel
theorem dL_law_357 : decode cL_law 357 = .ok (.laload, 1) := by decide +kernel
theorem dL_law_358 : decode cL_law 358 = .ok (.iload 6, 2) := by decide +kernel
theorem dL_law_360 : decode cL_law 360 = .ok (.i2l, 1) := by decide +kernel
theorem dL_law_361 : decode cL_law 361 = .ok (.lcmp, 1) := by decide +kernel
theorem dL_law_362 : decode cL_law 362 = .ok (.ifCond .eq 5, 3) := by decide +kernel
theorem dL_law_365 : decode cL_law 365 = .ok (.iconst 0, 1) := by decide +kernel
theorem dL_law_366 : decode cL_law 366 = .ok (.ireturn, 1) := by decide +kernel
theorem dL_law_367 : decode cL_law 367 = .ok (.goto 2709, 3) := by decide +kernel
theorem dL_law_370 : decode cL_law 370 = .ok (.aload_n 1, 1) := by decide +kernel
theorem dL_law_371 : decode cL_law 371 = .ok (.invokevirtual 155, 3) := by decide +kernel
theorem dL_law_374 : decode cL_law 374 = .ok (.aload_n 2, 1) := by decide +kernel
theorem dL_law_375 : decode cL_law 375 = .ok (.invokevirtual 158, 3) := by decide +kernel
theorem dL_law_378 : decode cL_law 378 = .ok (.if_icmp .eq 2698, 3) := by decide +kernel
theorem dL_law_381 : decode cL_law 381 = .ok (.iconst 0, 1) := by decide +kernel
theorem dL_law_382 : decode cL_law 382 = .ok (.ireturn, 1) := by decide +kernel
theorem dL_law_383 : decode cL_law 383 = .ok (.aload_n 1, 1) := by decide +kernel
theorem dL_law_384 : decode cL_law 384 = .ok (.aload_n 0, 1) := by decide +kernel
theorem dL_law_385 : decode cL_law 385 = .ok (.iload 4, 2) := by decide +kernel
theorem dL_law_387 : decode cL_law 387 = .ok (.iconst 1, 1) := by decide +kernel
theorem dL_law_388 : decode cL_law 388 = .ok (.iadd, 1) := by decide +kernel
theorem dL_law_389 : decode cL_law 389 = .ok (.iaload, 1) := by decide +kernel
theorem dL_law_390 : decode cL_law 390 = .ok (.aload_n 0, 1) := by decide +kernel
theorem dL_law_391 : decode cL_law 391 = .ok (.iload 4, 2) := by decide +kernel
theorem dL_law_393 : decode cL_law 393 = .ok (.iconst 2, 1) := by decide +kernel
theorem dL_law_394 : decode cL_law 394 = .ok (.iadd, 1) := by decide +kernel
theorem dL_law_395 : decode cL_law 395 = .ok (.iaload, 1) := by decide +kernel
theorem dL_law_396 : decode cL_law 396 = .ok (.aload_n 3, 1) := by decide +kernel
theorem dL_law_397 : decode cL_law 397 = .ok (.invokestatic 159, 3) := by decide +kernel
theorem dL_law_400 : decode cL_law 400 = .ok (.istore 5, 2) := by decide +kernel
theorem dL_law_402 : decode cL_law 402 = .ok (.aload_n 2, 1) := by decide +kernel
theorem dL_law_403 : decode cL_law 403 = .ok (.aload_n 0, 1) := by decide +kernel
theorem dL_law_404 : decode cL_law 404 = .ok (.iload 4, 2) := by decide +kernel
theorem dL_law_406 : decode cL_law 406 = .ok (.iconst 1, 1) := by decide +kernel
theorem dL_law_407 : decode cL_law 407 = .ok (.iadd, 1) := by decide +kernel
theorem dL_law_408 : decode cL_law 408 = .ok (.iaload, 1) := by decide +kernel
theorem dL_law_409 : decode cL_law 409 = .ok (.aload_n 0, 1) := by decide +kernel
theorem dL_law_410 : decode cL_law 410 = .ok (.iload 4, 2) := by decide +kernel
theorem dL_law_412 : decode cL_law 412 = .ok (.iconst 2, 1) := by decide +kernel
theorem dL_law_413 : decode cL_law 413 = .ok (.iadd, 1) := by decide +kernel
theorem dL_law_414 : decode cL_law 414 = .ok (.iaload, 1) := by decide +kernel
theorem dL_law_415 : decode cL_law 415 = .ok (.invokevirtual 162, 3) := by decide +kernel
theorem dL_law_418 : decode cL_law 418 = .ok (.istore 6, 2) := by decide +kernel
theorem dL_law_420 : decode cL_law 420 = .ok (.aload_n 2, 1) := by decide +kernel
theorem dL_law_421 : decode cL_law 421 = .ok (.invokevirtual 152, 3) := by decide +kernel
theorem dL_law_424 : decode cL_law 424 = .ok (.iload 5, 2) := by decide +kernel
theorem dL_law_426 : decode cL_law 426 = .ok (.if_icmp .eq 5, 3) := by decide +kernel
theorem dL_law_429 : decode cL_law 429 = .ok (.iconst 0, 1) := by decide +kernel
theorem dL_law_430 : decode cL_law 430 = .ok (.ireturn, 1) := by decide +kernel
theorem dL_law_431 : decode cL_law 431 = .ok (.iload 5, 2) := by decide +kernel
theorem dL_law_433 : decode cL_law 433 = .ok (.ifCond .ne 15, 3) := by decide +kernel
theorem dL_law_436 : decode cL_law 436 = .ok (.aload_n 3, 1) := by decide +kernel
theorem dL_law_437 : decode cL_law 437 = .ok (.iconst 0, 1) := by decide +kernel
theorem dL_law_438 : decode cL_law 438 = .ok (.laload, 1) := by decide +kernel
theorem dL_law_439 : decode cL_law 439 = .ok (.iload 6, 2) := by decide +kernel
theorem dL_law_441 : decode cL_law 441 = .ok (.i2l, 1) := by decide +kernel
theorem dL_law_442 : decode cL_law 442 = .ok (.lcmp, 1) := by decide +kernel
theorem dL_law_443 : decode cL_law 443 = .ok (.ifCond .eq 5, 3) := by decide +kernel
theorem dL_law_446 : decode cL_law 446 = .ok (.iconst 0, 1) := by decide +kernel
theorem dL_law_447 : decode cL_law 447 = .ok (.ireturn, 1) := by decide +kernel
theorem dL_law_448 : decode cL_law 448 = .ok (.goto 2628, 3) := by decide +kernel
theorem dL_law_451 : decode cL_law 451 = .ok (.aload_n 1, 1) := by decide +kernel
theorem dL_law_452 : decode cL_law 452 = .ok (.aload_n 0, 1) := by decide +kernel
theorem dL_law_453 : decode cL_law 453 = .ok (.iload 4, 2) := by decide +kernel
theorem dL_law_455 : decode cL_law 455 = .ok (.iconst 1, 1) := by decide +kernel
theorem dL_law_456 : decode cL_law 456 = .ok (.iadd, 1) := by decide +kernel
theorem dL_law_457 : decode cL_law 457 = .ok (.iaload, 1) := by decide +kernel
theorem dL_law_458 : decode cL_law 458 = .ok (.aload_n 0, 1) := by decide +kernel
theorem dL_law_459 : decode cL_law 459 = .ok (.iload 4, 2) := by decide +kernel
theorem dL_law_461 : decode cL_law 461 = .ok (.iconst 2, 1) := by decide +kernel
theorem dL_law_462 : decode cL_law 462 = .ok (.iadd, 1) := by decide +kernel
theorem dL_law_463 : decode cL_law 463 = .ok (.iaload, 1) := by decide +kernel
theorem dL_law_464 : decode cL_law 464 = .ok (.aload_n 3, 1) := by decide +kernel
theorem dL_law_465 : decode cL_law 465 = .ok (.invokestatic 163, 3) := by decide +kernel
theorem dL_law_468 : decode cL_law 468 = .ok (.istore 5, 2) := by decide +kernel
theorem dL_law_470 : decode cL_law 470 = .ok (.aload_n 2, 1) := by decide +kernel
theorem dL_law_471 : decode cL_law 471 = .ok (.aload_n 0, 1) := by decide +kernel
theorem dL_law_472 : decode cL_law 472 = .ok (.iload 4, 2) := by decide +kernel
theorem dL_law_474 : decode cL_law 474 = .ok (.iconst 1, 1) := by decide +kernel
theorem dL_law_475 : decode cL_law 475 = .ok (.iadd, 1) := by decide +kernel
theorem dL_law_476 : decode cL_law 476 = .ok (.iaload, 1) := by decide +kernel
theorem dL_law_477 : decode cL_law 477 = .ok (.aload_n 0, 1) := by decide +kernel
theorem dL_law_478 : decode cL_law 478 = .ok (.iload 4, 2) := by decide +kernel
theorem dL_law_480 : decode cL_law 480 = .ok (.iconst 2, 1) := by decide +kernel
theorem dL_law_481 : decode cL_law 481 = .ok (.iadd, 1) := by decide +kernel
theorem dL_law_482 : decode cL_law 482 = .ok (.iaload, 1) := by decide +kernel
theorem dL_law_483 : decode cL_law 483 = .ok (.invokevirtual 165, 3) := by decide +kernel
theorem dL_law_486 : decode cL_law 486 = .ok (.istore 6, 2) := by decide +kernel
theorem dL_law_488 : decode cL_law 488 = .ok (.aload_n 2, 1) := by decide +kernel
theorem dL_law_489 : decode cL_law 489 = .ok (.invokevirtual 152, 3) := by decide +kernel
theorem dL_law_492 : decode cL_law 492 = .ok (.iload 5, 2) := by decide +kernel
theorem dL_law_494 : decode cL_law 494 = .ok (.if_icmp .eq 5, 3) := by decide +kernel
theorem dL_law_497 : decode cL_law 497 = .ok (.iconst 0, 1) := by decide +kernel
theorem dL_law_498 : decode cL_law 498 = .ok (.ireturn, 1) := by decide +kernel
theorem dL_law_499 : decode cL_law 499 = .ok (.iload 5, 2) := by decide +kernel
theorem dL_law_501 : decode cL_law 501 = .ok (.ifCond .ne 15, 3) := by decide +kernel
theorem dL_law_504 : decode cL_law 504 = .ok (.aload_n 3, 1) := by decide +kernel
theorem dL_law_505 : decode cL_law 505 = .ok (.iconst 0, 1) := by decide +kernel
theorem dL_law_506 : decode cL_law 506 = .ok (.laload, 1) := by decide +kernel
theorem dL_law_507 : decode cL_law 507 = .ok (.iload 6, 2) := by decide +kernel
theorem dL_law_509 : decode cL_law 509 = .ok (.i2l, 1) := by decide +kernel
theorem dL_law_510 : decode cL_law 510 = .ok (.lcmp, 1) := by decide +kernel
theorem dL_law_511 : decode cL_law 511 = .ok (.ifCond .eq 5, 3) := by decide +kernel
theorem dL_law_514 : decode cL_law 514 = .ok (.iconst 0, 1) := by decide +kernel
theorem dL_law_515 : decode cL_law 515 = .ok (.ireturn, 1) := by decide +kernel
theorem dL_law_516 : decode cL_law 516 = .ok (.goto 2560, 3) := by decide +kernel
theorem dL_law_519 : decode cL_law 519 = .ok (.aload_n 1, 1) := by decide +kernel
theorem dL_law_520 : decode cL_law 520 = .ok (.aload_n 0, 1) := by decide +kernel
theorem dL_law_521 : decode cL_law 521 = .ok (.iload 4, 2) := by decide +kernel
theorem dL_law_523 : decode cL_law 523 = .ok (.iconst 1, 1) := by decide +kernel
theorem dL_law_524 : decode cL_law 524 = .ok (.iadd, 1) := by decide +kernel
theorem dL_law_525 : decode cL_law 525 = .ok (.iaload, 1) := by decide +kernel
theorem dL_law_526 : decode cL_law 526 = .ok (.aload_n 0, 1) := by decide +kernel
theorem dL_law_527 : decode cL_law 527 = .ok (.iload 4, 2) := by decide +kernel
theorem dL_law_529 : decode cL_law 529 = .ok (.iconst 2, 1) := by decide +kernel
theorem dL_law_530 : decode cL_law 530 = .ok (.iadd, 1) := by decide +kernel
theorem dL_law_531 : decode cL_law 531 = .ok (.iaload, 1) := by decide +kernel
theorem dL_law_532 : decode cL_law 532 = .ok (.aload_n 3, 1) := by decide +kernel
theorem dL_law_533 : decode cL_law 533 = .ok (.invokestatic 166, 3) := by decide +kernel
theorem dL_law_536 : decode cL_law 536 = .ok (.istore 5, 2) := by decide +kernel
theorem dL_law_538 : decode cL_law 538 = .ok (.aload_n 2, 1) := by decide +kernel
theorem dL_law_539 : decode cL_law 539 = .ok (.aload_n 0, 1) := by decide +kernel
theorem dL_law_540 : decode cL_law 540 = .ok (.iload 4, 2) := by decide +kernel
theorem dL_law_542 : decode cL_law 542 = .ok (.iconst 1, 1) := by decide +kernel
theorem dL_law_543 : decode cL_law 543 = .ok (.iadd, 1) := by decide +kernel
theorem dL_law_544 : decode cL_law 544 = .ok (.iaload, 1) := by decide +kernel
theorem dL_law_545 : decode cL_law 545 = .ok (.aload_n 0, 1) := by decide +kernel
theorem dL_law_546 : decode cL_law 546 = .ok (.iload 4, 2) := by decide +kernel
theorem dL_law_548 : decode cL_law 548 = .ok (.iconst 2, 1) := by decide +kernel
theorem dL_law_549 : decode cL_law 549 = .ok (.iadd, 1) := by decide +kernel
theorem dL_law_550 : decode cL_law 550 = .ok (.iaload, 1) := by decide +kernel
theorem dL_law_551 : decode cL_law 551 = .ok (.invokevirtual 168, 3) := by decide +kernel
theorem dL_law_554 : decode cL_law 554 = .ok (.istore 6, 2) := by decide +kernel
theorem dL_law_556 : decode cL_law 556 = .ok (.aload_n 2, 1) := by decide +kernel
theorem dL_law_557 : decode cL_law 557 = .ok (.invokevirtual 152, 3) := by decide +kernel
theorem dL_law_560 : decode cL_law 560 = .ok (.iload 5, 2) := by decide +kernel
theorem dL_law_562 : decode cL_law 562 = .ok (.if_icmp .eq 5, 3) := by decide +kernel
theorem dL_law_565 : decode cL_law 565 = .ok (.iconst 0, 1) := by decide +kernel
theorem dL_law_566 : decode cL_law 566 = .ok (.ireturn, 1) := by decide +kernel
theorem dL_law_567 : decode cL_law 567 = .ok (.iload 5, 2) := by decide +kernel
theorem dL_law_569 : decode cL_law 569 = .ok (.ifCond .ne 15, 3) := by decide +kernel
theorem dL_law_572 : decode cL_law 572 = .ok (.aload_n 3, 1) := by decide +kernel
theorem dL_law_573 : decode cL_law 573 = .ok (.iconst 0, 1) := by decide +kernel
theorem dL_law_574 : decode cL_law 574 = .ok (.laload, 1) := by decide +kernel
theorem dL_law_575 : decode cL_law 575 = .ok (.iload 6, 2) := by decide +kernel
theorem dL_law_577 : decode cL_law 577 = .ok (.i2l, 1) := by decide +kernel
theorem dL_law_578 : decode cL_law 578 = .ok (.lcmp, 1) := by decide +kernel
theorem dL_law_579 : decode cL_law 579 = .ok (.ifCond .eq 5, 3) := by decide +kernel
theorem dL_law_582 : decode cL_law 582 = .ok (.iconst 0, 1) := by decide +kernel
theorem dL_law_583 : decode cL_law 583 = .ok (.ireturn, 1) := by decide +kernel
theorem dL_law_584 : decode cL_law 584 = .ok (.goto 2492, 3) := by decide +kernel
theorem dL_law_587 : decode cL_law 587 = .ok (.aload_n 1, 1) := by decide +kernel
theorem dL_law_588 : decode cL_law 588 = .ok (.aload_n 0, 1) := by decide +kernel
theorem dL_law_589 : decode cL_law 589 = .ok (.iload 4, 2) := by decide +kernel
theorem dL_law_591 : decode cL_law 591 = .ok (.iconst 1, 1) := by decide +kernel
theorem dL_law_592 : decode cL_law 592 = .ok (.iadd, 1) := by decide +kernel
theorem dL_law_593 : decode cL_law 593 = .ok (.iaload, 1) := by decide +kernel
theorem dL_law_594 : decode cL_law 594 = .ok (.aload_n 0, 1) := by decide +kernel
theorem dL_law_595 : decode cL_law 595 = .ok (.iload 4, 2) := by decide +kernel
theorem dL_law_597 : decode cL_law 597 = .ok (.iconst 2, 1) := by decide +kernel
theorem dL_law_598 : decode cL_law 598 = .ok (.iadd, 1) := by decide +kernel
theorem dL_law_599 : decode cL_law 599 = .ok (.iaload, 1) := by decide +kernel
theorem dL_law_600 : decode cL_law 600 = .ok (.aload_n 0, 1) := by decide +kernel
theorem dL_law_601 : decode cL_law 601 = .ok (.iload 4, 2) := by decide +kernel
theorem dL_law_603 : decode cL_law 603 = .ok (.iconst 3, 1) := by decide +kernel
theorem dL_law_604 : decode cL_law 604 = .ok (.iadd, 1) := by decide +kernel
theorem dL_law_605 : decode cL_law 605 = .ok (.iaload, 1) := by decide +kernel
theorem dL_law_606 : decode cL_law 606 = .ok (.aload_n 3, 1) := by decide +kernel
theorem dL_law_607 : decode cL_law 607 = .ok (.invokestatic 169, 3) := by decide +kernel
theorem dL_law_610 : decode cL_law 610 = .ok (.istore 5, 2) := by decide +kernel
theorem dL_law_612 : decode cL_law 612 = .ok (.aload_n 2, 1) := by decide +kernel
theorem dL_law_613 : decode cL_law 613 = .ok (.aload_n 0, 1) := by decide +kernel
theorem dL_law_614 : decode cL_law 614 = .ok (.iload 4, 2) := by decide +kernel
theorem dL_law_616 : decode cL_law 616 = .ok (.iconst 1, 1) := by decide +kernel
theorem dL_law_617 : decode cL_law 617 = .ok (.iadd, 1) := by decide +kernel
theorem dL_law_618 : decode cL_law 618 = .ok (.iaload, 1) := by decide +kernel
theorem dL_law_619 : decode cL_law 619 = .ok (.aload_n 0, 1) := by decide +kernel
theorem dL_law_620 : decode cL_law 620 = .ok (.iload 4, 2) := by decide +kernel
theorem dL_law_622 : decode cL_law 622 = .ok (.iconst 2, 1) := by decide +kernel
theorem dL_law_623 : decode cL_law 623 = .ok (.iadd, 1) := by decide +kernel
theorem dL_law_624 : decode cL_law 624 = .ok (.iaload, 1) := by decide +kernel
theorem dL_law_625 : decode cL_law 625 = .ok (.aload_n 0, 1) := by decide +kernel
theorem dL_law_626 : decode cL_law 626 = .ok (.iload 4, 2) := by decide +kernel
theorem dL_law_628 : decode cL_law 628 = .ok (.iconst 3, 1) := by decide +kernel
theorem dL_law_629 : decode cL_law 629 = .ok (.iadd, 1) := by decide +kernel
theorem dL_law_630 : decode cL_law 630 = .ok (.iaload, 1) := by decide +kernel
theorem dL_law_631 : decode cL_law 631 = .ok (.invokevirtual 172, 3) := by decide +kernel
theorem dL_law_634 : decode cL_law 634 = .ok (.istore 6, 2) := by decide +kernel
theorem dL_law_636 : decode cL_law 636 = .ok (.aload_n 2, 1) := by decide +kernel
theorem dL_law_637 : decode cL_law 637 = .ok (.invokevirtual 152, 3) := by decide +kernel
theorem dL_law_640 : decode cL_law 640 = .ok (.iload 5, 2) := by decide +kernel
theorem dL_law_642 : decode cL_law 642 = .ok (.if_icmp .eq 5, 3) := by decide +kernel
theorem dL_law_645 : decode cL_law 645 = .ok (.iconst 0, 1) := by decide +kernel
theorem dL_law_646 : decode cL_law 646 = .ok (.ireturn, 1) := by decide +kernel
theorem dL_law_647 : decode cL_law 647 = .ok (.iload 5, 2) := by decide +kernel
theorem dL_law_649 : decode cL_law 649 = .ok (.ifCond .ne 15, 3) := by decide +kernel
theorem dL_law_652 : decode cL_law 652 = .ok (.aload_n 3, 1) := by decide +kernel
theorem dL_law_653 : decode cL_law 653 = .ok (.iconst 0, 1) := by decide +kernel
theorem dL_law_654 : decode cL_law 654 = .ok (.laload, 1) := by decide +kernel
theorem dL_law_655 : decode cL_law 655 = .ok (.iload 6, 2) := by decide +kernel
theorem dL_law_657 : decode cL_law 657 = .ok (.i2l, 1) := by decide +kernel
theorem dL_law_658 : decode cL_law 658 = .ok (.lcmp, 1) := by decide +kernel
theorem dL_law_659 : decode cL_law 659 = .ok (.ifCond .eq 5, 3) := by decide +kernel
theorem dL_law_662 : decode cL_law 662 = .ok (.iconst 0, 1) := by decide +kernel
theorem dL_law_663 : decode cL_law 663 = .ok (.ireturn, 1) := by decide +kernel
theorem dL_law_664 : decode cL_law 664 = .ok (.goto 2412, 3) := by decide +kernel
theorem dL_law_667 : decode cL_law 667 = .ok (.aload_n 1, 1) := by decide +kernel
theorem dL_law_668 : decode cL_law 668 = .ok (.aload_n 0, 1) := by decide +kernel
theorem dL_law_669 : decode cL_law 669 = .ok (.iload 4, 2) := by decide +kernel
theorem dL_law_671 : decode cL_law 671 = .ok (.iconst 1, 1) := by decide +kernel
theorem dL_law_672 : decode cL_law 672 = .ok (.iadd, 1) := by decide +kernel
theorem dL_law_673 : decode cL_law 673 = .ok (.iaload, 1) := by decide +kernel
theorem dL_law_674 : decode cL_law 674 = .ok (.aload_n 0, 1) := by decide +kernel
theorem dL_law_675 : decode cL_law 675 = .ok (.iload 4, 2) := by decide +kernel
theorem dL_law_677 : decode cL_law 677 = .ok (.iconst 2, 1) := by decide +kernel
theorem dL_law_678 : decode cL_law 678 = .ok (.iadd, 1) := by decide +kernel
theorem dL_law_679 : decode cL_law 679 = .ok (.iaload, 1) := by decide +kernel
theorem dL_law_680 : decode cL_law 680 = .ok (.aload_n 3, 1) := by decide +kernel
theorem dL_law_681 : decode cL_law 681 = .ok (.invokestatic 173, 3) := by decide +kernel
theorem dL_law_684 : decode cL_law 684 = .ok (.istore 5, 2) := by decide +kernel
theorem dL_law_686 : decode cL_law 686 = .ok (.aload_n 2, 1) := by decide +kernel
theorem dL_law_687 : decode cL_law 687 = .ok (.aload_n 0, 1) := by decide +kernel
theorem dL_law_688 : decode cL_law 688 = .ok (.iload 4, 2) := by decide +kernel
theorem dL_law_690 : decode cL_law 690 = .ok (.iconst 1, 1) := by decide +kernel
theorem dL_law_691 : decode cL_law 691 = .ok (.iadd, 1) := by decide +kernel
theorem dL_law_692 : decode cL_law 692 = .ok (.iaload, 1) := by decide +kernel
theorem dL_law_693 : decode cL_law 693 = .ok (.aload_n 0, 1) := by decide +kernel
theorem dL_law_694 : decode cL_law 694 = .ok (.iload 4, 2) := by decide +kernel
theorem dL_law_696 : decode cL_law 696 = .ok (.iconst 2, 1) := by decide +kernel
theorem dL_law_697 : decode cL_law 697 = .ok (.iadd, 1) := by decide +kernel
theorem dL_law_698 : decode cL_law 698 = .ok (.iaload, 1) := by decide +kernel
theorem dL_law_699 : decode cL_law 699 = .ok (.invokevirtual 175, 3) := by decide +kernel
theorem dL_law_702 : decode cL_law 702 = .ok (.istore 6, 2) := by decide +kernel
theorem dL_law_704 : decode cL_law 704 = .ok (.aload_n 2, 1) := by decide +kernel
theorem dL_law_705 : decode cL_law 705 = .ok (.invokevirtual 152, 3) := by decide +kernel
theorem dL_law_708 : decode cL_law 708 = .ok (.iload 5, 2) := by decide +kernel
theorem dL_law_710 : decode cL_law 710 = .ok (.if_icmp .eq 5, 3) := by decide +kernel
theorem dL_law_713 : decode cL_law 713 = .ok (.iconst 0, 1) := by decide +kernel
theorem dL_law_714 : decode cL_law 714 = .ok (.ireturn, 1) := by decide +kernel
theorem dL_law_715 : decode cL_law 715 = .ok (.iload 5, 2) := by decide +kernel
theorem dL_law_717 : decode cL_law 717 = .ok (.ifCond .ne 15, 3) := by decide +kernel
theorem dL_law_720 : decode cL_law 720 = .ok (.aload_n 3, 1) := by decide +kernel
theorem dL_law_721 : decode cL_law 721 = .ok (.iconst 0, 1) := by decide +kernel
theorem dL_law_722 : decode cL_law 722 = .ok (.laload, 1) := by decide +kernel
theorem dL_law_723 : decode cL_law 723 = .ok (.iload 6, 2) := by decide +kernel
theorem dL_law_725 : decode cL_law 725 = .ok (.i2l, 1) := by decide +kernel
theorem dL_law_726 : decode cL_law 726 = .ok (.lcmp, 1) := by decide +kernel
theorem dL_law_727 : decode cL_law 727 = .ok (.ifCond .eq 5, 3) := by decide +kernel
theorem dL_law_730 : decode cL_law 730 = .ok (.iconst 0, 1) := by decide +kernel
theorem dL_law_731 : decode cL_law 731 = .ok (.ireturn, 1) := by decide +kernel
theorem dL_law_732 : decode cL_law 732 = .ok (.goto 2344, 3) := by decide +kernel
theorem dL_law_735 : decode cL_law 735 = .ok (.aload_n 1, 1) := by decide +kernel
theorem dL_law_736 : decode cL_law 736 = .ok (.aload_n 0, 1) := by decide +kernel
theorem dL_law_737 : decode cL_law 737 = .ok (.iload 4, 2) := by decide +kernel
theorem dL_law_739 : decode cL_law 739 = .ok (.iconst 1, 1) := by decide +kernel
theorem dL_law_740 : decode cL_law 740 = .ok (.iadd, 1) := by decide +kernel
theorem dL_law_741 : decode cL_law 741 = .ok (.iaload, 1) := by decide +kernel
theorem dL_law_742 : decode cL_law 742 = .ok (.aload_n 0, 1) := by decide +kernel
theorem dL_law_743 : decode cL_law 743 = .ok (.iload 4, 2) := by decide +kernel
theorem dL_law_745 : decode cL_law 745 = .ok (.iconst 2, 1) := by decide +kernel
theorem dL_law_746 : decode cL_law 746 = .ok (.iadd, 1) := by decide +kernel
theorem dL_law_747 : decode cL_law 747 = .ok (.iaload, 1) := by decide +kernel
theorem dL_law_748 : decode cL_law 748 = .ok (.ifCond .eq 7, 3) := by decide +kernel
theorem dL_law_751 : decode cL_law 751 = .ok (.iconst 1, 1) := by decide +kernel
theorem dL_law_752 : decode cL_law 752 = .ok (.goto 4, 3) := by decide +kernel
theorem dL_law_755 : decode cL_law 755 = .ok (.iconst 0, 1) := by decide +kernel
theorem dL_law_756 : decode cL_law 756 = .ok (.aload_n 3, 1) := by decide +kernel
theorem dL_law_757 : decode cL_law 757 = .ok (.invokestatic 176, 3) := by decide +kernel
theorem dL_law_760 : decode cL_law 760 = .ok (.istore 5, 2) := by decide +kernel
theorem dL_law_762 : decode cL_law 762 = .ok (.aload_n 2, 1) := by decide +kernel
theorem dL_law_763 : decode cL_law 763 = .ok (.aload_n 0, 1) := by decide +kernel
theorem dL_law_764 : decode cL_law 764 = .ok (.iload 4, 2) := by decide +kernel
theorem dL_law_766 : decode cL_law 766 = .ok (.iconst 1, 1) := by decide +kernel
theorem dL_law_767 : decode cL_law 767 = .ok (.iadd, 1) := by decide +kernel
theorem dL_law_768 : decode cL_law 768 = .ok (.iaload, 1) := by decide +kernel
theorem dL_law_769 : decode cL_law 769 = .ok (.aload_n 0, 1) := by decide +kernel
theorem dL_law_770 : decode cL_law 770 = .ok (.iload 4, 2) := by decide +kernel
theorem dL_law_772 : decode cL_law 772 = .ok (.iconst 2, 1) := by decide +kernel
theorem dL_law_773 : decode cL_law 773 = .ok (.iadd, 1) := by decide +kernel
theorem dL_law_774 : decode cL_law 774 = .ok (.iaload, 1) := by decide +kernel
theorem dL_law_775 : decode cL_law 775 = .ok (.ifCond .eq 7, 3) := by decide +kernel
theorem dL_law_778 : decode cL_law 778 = .ok (.iconst 1, 1) := by decide +kernel
theorem dL_law_779 : decode cL_law 779 = .ok (.goto 4, 3) := by decide +kernel
theorem dL_law_782 : decode cL_law 782 = .ok (.iconst 0, 1) := by decide +kernel
theorem dL_law_783 : decode cL_law 783 = .ok (.invokevirtual 179, 3) := by decide +kernel
theorem dL_law_786 : decode cL_law 786 = .ok (.istore 6, 2) := by decide +kernel
theorem dL_law_788 : decode cL_law 788 = .ok (.aload_n 2, 1) := by decide +kernel
theorem dL_law_789 : decode cL_law 789 = .ok (.invokevirtual 152, 3) := by decide +kernel
theorem dL_law_792 : decode cL_law 792 = .ok (.iload 5, 2) := by decide +kernel
theorem dL_law_794 : decode cL_law 794 = .ok (.if_icmp .eq 5, 3) := by decide +kernel
theorem dL_law_797 : decode cL_law 797 = .ok (.iconst 0, 1) := by decide +kernel
theorem dL_law_798 : decode cL_law 798 = .ok (.ireturn, 1) := by decide +kernel
theorem dL_law_799 : decode cL_law 799 = .ok (.iload 5, 2) := by decide +kernel
theorem dL_law_801 : decode cL_law 801 = .ok (.ifCond .ne 22, 3) := by decide +kernel
theorem dL_law_804 : decode cL_law 804 = .ok (.aload_n 3, 1) := by decide +kernel
theorem dL_law_805 : decode cL_law 805 = .ok (.iconst 0, 1) := by decide +kernel
theorem dL_law_806 : decode cL_law 806 = .ok (.laload, 1) := by decide +kernel
theorem dL_law_807 : decode cL_law 807 = .ok (.iload 6, 2) := by decide +kernel
theorem dL_law_809 : decode cL_law 809 = .ok (.ifCond .eq 7, 3) := by decide +kernel
theorem dL_law_812 : decode cL_law 812 = .ok (.lconst 1, 1) := by decide +kernel
theorem dL_law_813 : decode cL_law 813 = .ok (.goto 4, 3) := by decide +kernel
theorem dL_law_816 : decode cL_law 816 = .ok (.lconst 0, 1) := by decide +kernel
theorem dL_law_817 : decode cL_law 817 = .ok (.lcmp, 1) := by decide +kernel
theorem dL_law_818 : decode cL_law 818 = .ok (.ifCond .eq 5, 3) := by decide +kernel
theorem dL_law_821 : decode cL_law 821 = .ok (.iconst 0, 1) := by decide +kernel
theorem dL_law_822 : decode cL_law 822 = .ok (.ireturn, 1) := by decide +kernel
theorem dL_law_823 : decode cL_law 823 = .ok (.goto 2253, 3) := by decide +kernel
theorem dL_law_826 : decode cL_law 826 = .ok (.aload_n 1, 1) := by decide +kernel
theorem dL_law_827 : decode cL_law 827 = .ok (.aload_n 0, 1) := by decide +kernel
theorem dL_law_828 : decode cL_law 828 = .ok (.iload 4, 2) := by decide +kernel
theorem dL_law_830 : decode cL_law 830 = .ok (.iconst 1, 1) := by decide +kernel
theorem dL_law_831 : decode cL_law 831 = .ok (.iadd, 1) := by decide +kernel
theorem dL_law_832 : decode cL_law 832 = .ok (.iaload, 1) := by decide +kernel
theorem dL_law_833 : decode cL_law 833 = .ok (.aload_n 3, 1) := by decide +kernel
theorem dL_law_834 : decode cL_law 834 = .ok (.invokestatic 180, 3) := by decide +kernel
theorem dL_law_837 : decode cL_law 837 = .ok (.istore 5, 2) := by decide +kernel
theorem dL_law_839 : decode cL_law 839 = .ok (.aload_n 2, 1) := by decide +kernel
theorem dL_law_840 : decode cL_law 840 = .ok (.aload_n 0, 1) := by decide +kernel
theorem dL_law_841 : decode cL_law 841 = .ok (.iload 4, 2) := by decide +kernel
theorem dL_law_843 : decode cL_law 843 = .ok (.iconst 1, 1) := by decide +kernel
theorem dL_law_844 : decode cL_law 844 = .ok (.iadd, 1) := by decide +kernel
theorem dL_law_845 : decode cL_law 845 = .ok (.iaload, 1) := by decide +kernel
theorem dL_law_846 : decode cL_law 846 = .ok (.invokevirtual 183, 3) := by decide +kernel
theorem dL_law_849 : decode cL_law 849 = .ok (.istore 6, 2) := by decide +kernel
theorem dL_law_851 : decode cL_law 851 = .ok (.aload_n 2, 1) := by decide +kernel
theorem dL_law_852 : decode cL_law 852 = .ok (.invokevirtual 152, 3) := by decide +kernel
theorem dL_law_855 : decode cL_law 855 = .ok (.iload 5, 2) := by decide +kernel
theorem dL_law_857 : decode cL_law 857 = .ok (.if_icmp .eq 5, 3) := by decide +kernel
theorem dL_law_860 : decode cL_law 860 = .ok (.iconst 0, 1) := by decide +kernel
theorem dL_law_861 : decode cL_law 861 = .ok (.ireturn, 1) := by decide +kernel
theorem dL_law_862 : decode cL_law 862 = .ok (.iload 5, 2) := by decide +kernel
theorem dL_law_864 : decode cL_law 864 = .ok (.ifCond .ne 15, 3) := by decide +kernel
theorem dL_law_867 : decode cL_law 867 = .ok (.aload_n 3, 1) := by decide +kernel
theorem dL_law_868 : decode cL_law 868 = .ok (.iconst 0, 1) := by decide +kernel
theorem dL_law_869 : decode cL_law 869 = .ok (.laload, 1) := by decide +kernel
theorem dL_law_870 : decode cL_law 870 = .ok (.iload 6, 2) := by decide +kernel
theorem dL_law_872 : decode cL_law 872 = .ok (.i2l, 1) := by decide +kernel
theorem dL_law_873 : decode cL_law 873 = .ok (.lcmp, 1) := by decide +kernel
theorem dL_law_874 : decode cL_law 874 = .ok (.ifCond .eq 5, 3) := by decide +kernel
theorem dL_law_877 : decode cL_law 877 = .ok (.iconst 0, 1) := by decide +kernel
theorem dL_law_878 : decode cL_law 878 = .ok (.ireturn, 1) := by decide +kernel
theorem dL_law_879 : decode cL_law 879 = .ok (.goto 2197, 3) := by decide +kernel
theorem dL_law_882 : decode cL_law 882 = .ok (.aload_n 1, 1) := by decide +kernel
theorem dL_law_883 : decode cL_law 883 = .ok (.aload_n 0, 1) := by decide +kernel
theorem dL_law_884 : decode cL_law 884 = .ok (.iload 4, 2) := by decide +kernel
theorem dL_law_886 : decode cL_law 886 = .ok (.iconst 1, 1) := by decide +kernel
theorem dL_law_887 : decode cL_law 887 = .ok (.iadd, 1) := by decide +kernel
theorem dL_law_888 : decode cL_law 888 = .ok (.iaload, 1) := by decide +kernel
theorem dL_law_889 : decode cL_law 889 = .ok (.aload_n 3, 1) := by decide +kernel
theorem dL_law_890 : decode cL_law 890 = .ok (.invokestatic 184, 3) := by decide +kernel
theorem dL_law_893 : decode cL_law 893 = .ok (.istore 5, 2) := by decide +kernel
theorem dL_law_895 : decode cL_law 895 = .ok (.aload_n 2, 1) := by decide +kernel
theorem dL_law_896 : decode cL_law 896 = .ok (.aload_n 0, 1) := by decide +kernel
theorem dL_law_897 : decode cL_law 897 = .ok (.iload 4, 2) := by decide +kernel
theorem dL_law_899 : decode cL_law 899 = .ok (.iconst 1, 1) := by decide +kernel
theorem dL_law_900 : decode cL_law 900 = .ok (.iadd, 1) := by decide +kernel
theorem dL_law_901 : decode cL_law 901 = .ok (.iaload, 1) := by decide +kernel
theorem dL_law_902 : decode cL_law 902 = .ok (.invokevirtual 186, 3) := by decide +kernel
theorem dL_law_905 : decode cL_law 905 = .ok (.istore 6, 2) := by decide +kernel
theorem dL_law_907 : decode cL_law 907 = .ok (.aload_n 2, 1) := by decide +kernel
theorem dL_law_908 : decode cL_law 908 = .ok (.invokevirtual 152, 3) := by decide +kernel
theorem dL_law_911 : decode cL_law 911 = .ok (.iload 5, 2) := by decide +kernel
theorem dL_law_913 : decode cL_law 913 = .ok (.if_icmp .eq 5, 3) := by decide +kernel
theorem dL_law_916 : decode cL_law 916 = .ok (.iconst 0, 1) := by decide +kernel
theorem dL_law_917 : decode cL_law 917 = .ok (.ireturn, 1) := by decide +kernel
theorem dL_law_918 : decode cL_law 918 = .ok (.iload 5, 2) := by decide +kernel
theorem dL_law_920 : decode cL_law 920 = .ok (.ifCond .ne 15, 3) := by decide +kernel
theorem dL_law_923 : decode cL_law 923 = .ok (.aload_n 3, 1) := by decide +kernel
theorem dL_law_924 : decode cL_law 924 = .ok (.iconst 0, 1) := by decide +kernel
theorem dL_law_925 : decode cL_law 925 = .ok (.laload, 1) := by decide +kernel
theorem dL_law_926 : decode cL_law 926 = .ok (.iload 6, 2) := by decide +kernel
theorem dL_law_928 : decode cL_law 928 = .ok (.i2l, 1) := by decide +kernel
theorem dL_law_929 : decode cL_law 929 = .ok (.lcmp, 1) := by decide +kernel
theorem dL_law_930 : decode cL_law 930 = .ok (.ifCond .eq 5, 3) := by decide +kernel
theorem dL_law_933 : decode cL_law 933 = .ok (.iconst 0, 1) := by decide +kernel
theorem dL_law_934 : decode cL_law 934 = .ok (.ireturn, 1) := by decide +kernel
theorem dL_law_935 : decode cL_law 935 = .ok (.goto 2141, 3) := by decide +kernel
theorem dL_law_938 : decode cL_law 938 = .ok (.aload_n 1, 1) := by decide +kernel
theorem dL_law_939 : decode cL_law 939 = .ok (.aload_n 0, 1) := by decide +kernel
theorem dL_law_940 : decode cL_law 940 = .ok (.iload 4, 2) := by decide +kernel
theorem dL_law_942 : decode cL_law 942 = .ok (.iconst 1, 1) := by decide +kernel
theorem dL_law_943 : decode cL_law 943 = .ok (.iadd, 1) := by decide +kernel
theorem dL_law_944 : decode cL_law 944 = .ok (.iaload, 1) := by decide +kernel
theorem dL_law_945 : decode cL_law 945 = .ok (.aload_n 0, 1) := by decide +kernel
theorem dL_law_946 : decode cL_law 946 = .ok (.iload 4, 2) := by decide +kernel
theorem dL_law_948 : decode cL_law 948 = .ok (.iconst 2, 1) := by decide +kernel
theorem dL_law_949 : decode cL_law 949 = .ok (.iadd, 1) := by decide +kernel
theorem dL_law_950 : decode cL_law 950 = .ok (.iaload, 1) := by decide +kernel
theorem dL_law_951 : decode cL_law 951 = .ok (.aload_n 3, 1) := by decide +kernel
theorem dL_law_952 : decode cL_law 952 = .ok (.invokestatic 187, 3) := by decide +kernel
theorem dL_law_955 : decode cL_law 955 = .ok (.istore 5, 2) := by decide +kernel
theorem dL_law_957 : decode cL_law 957 = .ok (.aload_n 2, 1) := by decide +kernel
theorem dL_law_958 : decode cL_law 958 = .ok (.aload_n 0, 1) := by decide +kernel
theorem dL_law_959 : decode cL_law 959 = .ok (.iload 4, 2) := by decide +kernel
theorem dL_law_961 : decode cL_law 961 = .ok (.iconst 1, 1) := by decide +kernel
theorem dL_law_962 : decode cL_law 962 = .ok (.iadd, 1) := by decide +kernel
theorem dL_law_963 : decode cL_law 963 = .ok (.iaload, 1) := by decide +kernel
theorem dL_law_964 : decode cL_law 964 = .ok (.aload_n 0, 1) := by decide +kernel
theorem dL_law_965 : decode cL_law 965 = .ok (.iload 4, 2) := by decide +kernel
theorem dL_law_967 : decode cL_law 967 = .ok (.iconst 2, 1) := by decide +kernel
theorem dL_law_968 : decode cL_law 968 = .ok (.iadd, 1) := by decide +kernel
theorem dL_law_969 : decode cL_law 969 = .ok (.iaload, 1) := by decide +kernel
theorem dL_law_970 : decode cL_law 970 = .ok (.invokevirtual 189, 3) := by decide +kernel
theorem dL_law_973 : decode cL_law 973 = .ok (.istore 6, 2) := by decide +kernel
theorem dL_law_975 : decode cL_law 975 = .ok (.aload_n 2, 1) := by decide +kernel
theorem dL_law_976 : decode cL_law 976 = .ok (.invokevirtual 152, 3) := by decide +kernel
theorem dL_law_979 : decode cL_law 979 = .ok (.iload 5, 2) := by decide +kernel
theorem dL_law_981 : decode cL_law 981 = .ok (.if_icmp .eq 5, 3) := by decide +kernel
theorem dL_law_984 : decode cL_law 984 = .ok (.iconst 0, 1) := by decide +kernel
theorem dL_law_985 : decode cL_law 985 = .ok (.ireturn, 1) := by decide +kernel
theorem dL_law_986 : decode cL_law 986 = .ok (.iload 5, 2) := by decide +kernel
theorem dL_law_988 : decode cL_law 988 = .ok (.ifCond .ne 15, 3) := by decide +kernel
theorem dL_law_991 : decode cL_law 991 = .ok (.aload_n 3, 1) := by decide +kernel
theorem dL_law_992 : decode cL_law 992 = .ok (.iconst 0, 1) := by decide +kernel
theorem dL_law_993 : decode cL_law 993 = .ok (.laload, 1) := by decide +kernel
theorem dL_law_994 : decode cL_law 994 = .ok (.iload 6, 2) := by decide +kernel
theorem dL_law_996 : decode cL_law 996 = .ok (.i2l, 1) := by decide +kernel
theorem dL_law_997 : decode cL_law 997 = .ok (.lcmp, 1) := by decide +kernel
theorem dL_law_998 : decode cL_law 998 = .ok (.ifCond .eq 5, 3) := by decide +kernel
theorem dL_law_1001 : decode cL_law 1001 = .ok (.iconst 0, 1) := by decide +kernel
theorem dL_law_1002 : decode cL_law 1002 = .ok (.ireturn, 1) := by decide +kernel
theorem dL_law_1003 : decode cL_law 1003 = .ok (.goto 2073, 3) := by decide +kernel
theorem dL_law_1006 : decode cL_law 1006 = .ok (.aload_n 1, 1) := by decide +kernel
theorem dL_law_1007 : decode cL_law 1007 = .ok (.aload_n 0, 1) := by decide +kernel
theorem dL_law_1008 : decode cL_law 1008 = .ok (.iload 4, 2) := by decide +kernel
theorem dL_law_1010 : decode cL_law 1010 = .ok (.iconst 1, 1) := by decide +kernel
theorem dL_law_1011 : decode cL_law 1011 = .ok (.iadd, 1) := by decide +kernel
theorem dL_law_1012 : decode cL_law 1012 = .ok (.iaload, 1) := by decide +kernel
theorem dL_law_1013 : decode cL_law 1013 = .ok (.aload_n 3, 1) := by decide +kernel
theorem dL_law_1014 : decode cL_law 1014 = .ok (.invokestatic 190, 3) := by decide +kernel
theorem dL_law_1017 : decode cL_law 1017 = .ok (.istore 5, 2) := by decide +kernel
theorem dL_law_1019 : decode cL_law 1019 = .ok (.aload_n 2, 1) := by decide +kernel
theorem dL_law_1020 : decode cL_law 1020 = .ok (.aload_n 0, 1) := by decide +kernel
theorem dL_law_1021 : decode cL_law 1021 = .ok (.iload 4, 2) := by decide +kernel
theorem dL_law_1023 : decode cL_law 1023 = .ok (.iconst 1, 1) := by decide +kernel
theorem dL_law_1024 : decode cL_law 1024 = .ok (.iadd, 1) := by decide +kernel
theorem dL_law_1025 : decode cL_law 1025 = .ok (.iaload, 1) := by decide +kernel
theorem dL_law_1026 : decode cL_law 1026 = .ok (.invokevirtual 192, 3) := by decide +kernel
theorem dL_law_1029 : decode cL_law 1029 = .ok (.istore 6, 2) := by decide +kernel
theorem dL_law_1031 : decode cL_law 1031 = .ok (.aload_n 2, 1) := by decide +kernel
theorem dL_law_1032 : decode cL_law 1032 = .ok (.invokevirtual 152, 3) := by decide +kernel
theorem dL_law_1035 : decode cL_law 1035 = .ok (.iload 5, 2) := by decide +kernel
theorem dL_law_1037 : decode cL_law 1037 = .ok (.if_icmp .eq 5, 3) := by decide +kernel
theorem dL_law_1040 : decode cL_law 1040 = .ok (.iconst 0, 1) := by decide +kernel
theorem dL_law_1041 : decode cL_law 1041 = .ok (.ireturn, 1) := by decide +kernel
theorem dL_law_1042 : decode cL_law 1042 = .ok (.iload 5, 2) := by decide +kernel
theorem dL_law_1044 : decode cL_law 1044 = .ok (.ifCond .ne 15, 3) := by decide +kernel
theorem dL_law_1047 : decode cL_law 1047 = .ok (.aload_n 3, 1) := by decide +kernel
theorem dL_law_1048 : decode cL_law 1048 = .ok (.iconst 0, 1) := by decide +kernel
theorem dL_law_1049 : decode cL_law 1049 = .ok (.laload, 1) := by decide +kernel
theorem dL_law_1050 : decode cL_law 1050 = .ok (.iload 6, 2) := by decide +kernel
theorem dL_law_1052 : decode cL_law 1052 = .ok (.i2l, 1) := by decide +kernel
theorem dL_law_1053 : decode cL_law 1053 = .ok (.lcmp, 1) := by decide +kernel
theorem dL_law_1054 : decode cL_law 1054 = .ok (.ifCond .eq 5, 3) := by decide +kernel
theorem dL_law_1057 : decode cL_law 1057 = .ok (.iconst 0, 1) := by decide +kernel
theorem dL_law_1058 : decode cL_law 1058 = .ok (.ireturn, 1) := by decide +kernel
theorem dL_law_1059 : decode cL_law 1059 = .ok (.goto 2017, 3) := by decide +kernel
theorem dL_law_1062 : decode cL_law 1062 = .ok (.aload_n 1, 1) := by decide +kernel
theorem dL_law_1063 : decode cL_law 1063 = .ok (.aload_n 0, 1) := by decide +kernel
theorem dL_law_1064 : decode cL_law 1064 = .ok (.iload 4, 2) := by decide +kernel
theorem dL_law_1066 : decode cL_law 1066 = .ok (.iconst 1, 1) := by decide +kernel
theorem dL_law_1067 : decode cL_law 1067 = .ok (.iadd, 1) := by decide +kernel
theorem dL_law_1068 : decode cL_law 1068 = .ok (.iaload, 1) := by decide +kernel
theorem dL_law_1069 : decode cL_law 1069 = .ok (.aload_n 0, 1) := by decide +kernel
theorem dL_law_1070 : decode cL_law 1070 = .ok (.iload 4, 2) := by decide +kernel
theorem dL_law_1072 : decode cL_law 1072 = .ok (.iconst 2, 1) := by decide +kernel
theorem dL_law_1073 : decode cL_law 1073 = .ok (.iadd, 1) := by decide +kernel
theorem dL_law_1074 : decode cL_law 1074 = .ok (.iaload, 1) := by decide +kernel
theorem dL_law_1075 : decode cL_law 1075 = .ok (.aload_n 0, 1) := by decide +kernel
theorem dL_law_1076 : decode cL_law 1076 = .ok (.iload 4, 2) := by decide +kernel
theorem dL_law_1078 : decode cL_law 1078 = .ok (.iconst 3, 1) := by decide +kernel
theorem dL_law_1079 : decode cL_law 1079 = .ok (.iadd, 1) := by decide +kernel
theorem dL_law_1080 : decode cL_law 1080 = .ok (.iaload, 1) := by decide +kernel
theorem dL_law_1081 : decode cL_law 1081 = .ok (.aload_n 3, 1) := by decide +kernel
theorem dL_law_1082 : decode cL_law 1082 = .ok (.invokestatic 193, 3) := by decide +kernel
theorem dL_law_1085 : decode cL_law 1085 = .ok (.istore 5, 2) := by decide +kernel
theorem dL_law_1087 : decode cL_law 1087 = .ok (.aload_n 2, 1) := by decide +kernel
theorem dL_law_1088 : decode cL_law 1088 = .ok (.aload_n 0, 1) := by decide +kernel
theorem dL_law_1089 : decode cL_law 1089 = .ok (.iload 4, 2) := by decide +kernel
theorem dL_law_1091 : decode cL_law 1091 = .ok (.iconst 1, 1) := by decide +kernel
theorem dL_law_1092 : decode cL_law 1092 = .ok (.iadd, 1) := by decide +kernel
theorem dL_law_1093 : decode cL_law 1093 = .ok (.iaload, 1) := by decide +kernel
theorem dL_law_1094 : decode cL_law 1094 = .ok (.aload_n 0, 1) := by decide +kernel
theorem dL_law_1095 : decode cL_law 1095 = .ok (.iload 4, 2) := by decide +kernel
theorem dL_law_1097 : decode cL_law 1097 = .ok (.iconst 2, 1) := by decide +kernel
theorem dL_law_1098 : decode cL_law 1098 = .ok (.iadd, 1) := by decide +kernel
theorem dL_law_1099 : decode cL_law 1099 = .ok (.iaload, 1) := by decide +kernel
theorem dL_law_1100 : decode cL_law 1100 = .ok (.aload_n 0, 1) := by decide +kernel
theorem dL_law_1101 : decode cL_law 1101 = .ok (.iload 4, 2) := by decide +kernel
theorem dL_law_1103 : decode cL_law 1103 = .ok (.iconst 3, 1) := by decide +kernel
theorem dL_law_1104 : decode cL_law 1104 = .ok (.iadd, 1) := by decide +kernel
theorem dL_law_1105 : decode cL_law 1105 = .ok (.iaload, 1) := by decide +kernel
theorem dL_law_1106 : decode cL_law 1106 = .ok (.invokevirtual 195, 3) := by decide +kernel
theorem dL_law_1109 : decode cL_law 1109 = .ok (.istore 6, 2) := by decide +kernel
theorem dL_law_1111 : decode cL_law 1111 = .ok (.aload_n 2, 1) := by decide +kernel
theorem dL_law_1112 : decode cL_law 1112 = .ok (.invokevirtual 152, 3) := by decide +kernel
theorem dL_law_1115 : decode cL_law 1115 = .ok (.iload 5, 2) := by decide +kernel
theorem dL_law_1117 : decode cL_law 1117 = .ok (.if_icmp .eq 5, 3) := by decide +kernel
theorem dL_law_1120 : decode cL_law 1120 = .ok (.iconst 0, 1) := by decide +kernel
theorem dL_law_1121 : decode cL_law 1121 = .ok (.ireturn, 1) := by decide +kernel
theorem dL_law_1122 : decode cL_law 1122 = .ok (.iload 5, 2) := by decide +kernel
theorem dL_law_1124 : decode cL_law 1124 = .ok (.ifCond .ne 15, 3) := by decide +kernel
theorem dL_law_1127 : decode cL_law 1127 = .ok (.aload_n 3, 1) := by decide +kernel
theorem dL_law_1128 : decode cL_law 1128 = .ok (.iconst 0, 1) := by decide +kernel
theorem dL_law_1129 : decode cL_law 1129 = .ok (.laload, 1) := by decide +kernel
theorem dL_law_1130 : decode cL_law 1130 = .ok (.iload 6, 2) := by decide +kernel
theorem dL_law_1132 : decode cL_law 1132 = .ok (.i2l, 1) := by decide +kernel
theorem dL_law_1133 : decode cL_law 1133 = .ok (.lcmp, 1) := by decide +kernel
theorem dL_law_1134 : decode cL_law 1134 = .ok (.ifCond .eq 5, 3) := by decide +kernel
theorem dL_law_1137 : decode cL_law 1137 = .ok (.iconst 0, 1) := by decide +kernel
theorem dL_law_1138 : decode cL_law 1138 = .ok (.ireturn, 1) := by decide +kernel
theorem dL_law_1139 : decode cL_law 1139 = .ok (.goto 1937, 3) := by decide +kernel
theorem dL_law_1142 : decode cL_law 1142 = .ok (.aload_n 1, 1) := by decide +kernel
theorem dL_law_1143 : decode cL_law 1143 = .ok (.aload_n 0, 1) := by decide +kernel
theorem dL_law_1144 : decode cL_law 1144 = .ok (.iload 4, 2) := by decide +kernel
theorem dL_law_1146 : decode cL_law 1146 = .ok (.iconst 1, 1) := by decide +kernel
theorem dL_law_1147 : decode cL_law 1147 = .ok (.iadd, 1) := by decide +kernel
theorem dL_law_1148 : decode cL_law 1148 = .ok (.iaload, 1) := by decide +kernel
theorem dL_law_1149 : decode cL_law 1149 = .ok (.aload_n 0, 1) := by decide +kernel
theorem dL_law_1150 : decode cL_law 1150 = .ok (.iload 4, 2) := by decide +kernel
theorem dL_law_1152 : decode cL_law 1152 = .ok (.iconst 2, 1) := by decide +kernel
theorem dL_law_1153 : decode cL_law 1153 = .ok (.iadd, 1) := by decide +kernel
theorem dL_law_1154 : decode cL_law 1154 = .ok (.iaload, 1) := by decide +kernel
theorem dL_law_1155 : decode cL_law 1155 = .ok (.aload_n 0, 1) := by decide +kernel
theorem dL_law_1156 : decode cL_law 1156 = .ok (.iload 4, 2) := by decide +kernel
theorem dL_law_1158 : decode cL_law 1158 = .ok (.iconst 3, 1) := by decide +kernel
theorem dL_law_1159 : decode cL_law 1159 = .ok (.iadd, 1) := by decide +kernel
theorem dL_law_1160 : decode cL_law 1160 = .ok (.iaload, 1) := by decide +kernel
theorem dL_law_1161 : decode cL_law 1161 = .ok (.aload_n 3, 1) := by decide +kernel
theorem dL_law_1162 : decode cL_law 1162 = .ok (.invokestatic 196, 3) := by decide +kernel
theorem dL_law_1165 : decode cL_law 1165 = .ok (.istore 5, 2) := by decide +kernel
theorem dL_law_1167 : decode cL_law 1167 = .ok (.aload_n 2, 1) := by decide +kernel
theorem dL_law_1168 : decode cL_law 1168 = .ok (.aload_n 0, 1) := by decide +kernel
theorem dL_law_1169 : decode cL_law 1169 = .ok (.iload 4, 2) := by decide +kernel
theorem dL_law_1171 : decode cL_law 1171 = .ok (.iconst 1, 1) := by decide +kernel
theorem dL_law_1172 : decode cL_law 1172 = .ok (.iadd, 1) := by decide +kernel
theorem dL_law_1173 : decode cL_law 1173 = .ok (.iaload, 1) := by decide +kernel
theorem dL_law_1174 : decode cL_law 1174 = .ok (.aload_n 0, 1) := by decide +kernel
theorem dL_law_1175 : decode cL_law 1175 = .ok (.iload 4, 2) := by decide +kernel
theorem dL_law_1177 : decode cL_law 1177 = .ok (.iconst 2, 1) := by decide +kernel
theorem dL_law_1178 : decode cL_law 1178 = .ok (.iadd, 1) := by decide +kernel
theorem dL_law_1179 : decode cL_law 1179 = .ok (.iaload, 1) := by decide +kernel
theorem dL_law_1180 : decode cL_law 1180 = .ok (.aload_n 0, 1) := by decide +kernel
theorem dL_law_1181 : decode cL_law 1181 = .ok (.iload 4, 2) := by decide +kernel
theorem dL_law_1183 : decode cL_law 1183 = .ok (.iconst 3, 1) := by decide +kernel
theorem dL_law_1184 : decode cL_law 1184 = .ok (.iadd, 1) := by decide +kernel
theorem dL_law_1185 : decode cL_law 1185 = .ok (.iaload, 1) := by decide +kernel
theorem dL_law_1186 : decode cL_law 1186 = .ok (.invokevirtual 198, 3) := by decide +kernel
theorem dL_law_1189 : decode cL_law 1189 = .ok (.istore 6, 2) := by decide +kernel
theorem dL_law_1191 : decode cL_law 1191 = .ok (.aload_n 2, 1) := by decide +kernel
theorem dL_law_1192 : decode cL_law 1192 = .ok (.invokevirtual 152, 3) := by decide +kernel
theorem dL_law_1195 : decode cL_law 1195 = .ok (.iload 5, 2) := by decide +kernel
theorem dL_law_1197 : decode cL_law 1197 = .ok (.if_icmp .eq 5, 3) := by decide +kernel
theorem dL_law_1200 : decode cL_law 1200 = .ok (.iconst 0, 1) := by decide +kernel
theorem dL_law_1201 : decode cL_law 1201 = .ok (.ireturn, 1) := by decide +kernel
theorem dL_law_1202 : decode cL_law 1202 = .ok (.iload 5, 2) := by decide +kernel
theorem dL_law_1204 : decode cL_law 1204 = .ok (.ifCond .ne 15, 3) := by decide +kernel
theorem dL_law_1207 : decode cL_law 1207 = .ok (.aload_n 3, 1) := by decide +kernel
theorem dL_law_1208 : decode cL_law 1208 = .ok (.iconst 0, 1) := by decide +kernel
theorem dL_law_1209 : decode cL_law 1209 = .ok (.laload, 1) := by decide +kernel
theorem dL_law_1210 : decode cL_law 1210 = .ok (.iload 6, 2) := by decide +kernel
theorem dL_law_1212 : decode cL_law 1212 = .ok (.i2l, 1) := by decide +kernel
theorem dL_law_1213 : decode cL_law 1213 = .ok (.lcmp, 1) := by decide +kernel
theorem dL_law_1214 : decode cL_law 1214 = .ok (.ifCond .eq 5, 3) := by decide +kernel
theorem dL_law_1217 : decode cL_law 1217 = .ok (.iconst 0, 1) := by decide +kernel
theorem dL_law_1218 : decode cL_law 1218 = .ok (.ireturn, 1) := by decide +kernel
theorem dL_law_1219 : decode cL_law 1219 = .ok (.goto 1857, 3) := by decide +kernel
theorem dL_law_1222 : decode cL_law 1222 = .ok (.aload_n 1, 1) := by decide +kernel
theorem dL_law_1223 : decode cL_law 1223 = .ok (.aload_n 0, 1) := by decide +kernel
theorem dL_law_1224 : decode cL_law 1224 = .ok (.iload 4, 2) := by decide +kernel
theorem dL_law_1226 : decode cL_law 1226 = .ok (.iconst 1, 1) := by decide +kernel
theorem dL_law_1227 : decode cL_law 1227 = .ok (.iadd, 1) := by decide +kernel
theorem dL_law_1228 : decode cL_law 1228 = .ok (.iaload, 1) := by decide +kernel
theorem dL_law_1229 : decode cL_law 1229 = .ok (.aload_n 0, 1) := by decide +kernel
theorem dL_law_1230 : decode cL_law 1230 = .ok (.iload 4, 2) := by decide +kernel
theorem dL_law_1232 : decode cL_law 1232 = .ok (.iconst 2, 1) := by decide +kernel
theorem dL_law_1233 : decode cL_law 1233 = .ok (.iadd, 1) := by decide +kernel
theorem dL_law_1234 : decode cL_law 1234 = .ok (.iaload, 1) := by decide +kernel
theorem dL_law_1235 : decode cL_law 1235 = .ok (.aload_n 3, 1) := by decide +kernel
theorem dL_law_1236 : decode cL_law 1236 = .ok (.invokestatic 199, 3) := by decide +kernel
theorem dL_law_1239 : decode cL_law 1239 = .ok (.istore 5, 2) := by decide +kernel
theorem dL_law_1241 : decode cL_law 1241 = .ok (.aload_n 2, 1) := by decide +kernel
theorem dL_law_1242 : decode cL_law 1242 = .ok (.aload_n 0, 1) := by decide +kernel
theorem dL_law_1243 : decode cL_law 1243 = .ok (.iload 4, 2) := by decide +kernel
theorem dL_law_1245 : decode cL_law 1245 = .ok (.iconst 1, 1) := by decide +kernel
theorem dL_law_1246 : decode cL_law 1246 = .ok (.iadd, 1) := by decide +kernel
theorem dL_law_1247 : decode cL_law 1247 = .ok (.iaload, 1) := by decide +kernel
theorem dL_law_1248 : decode cL_law 1248 = .ok (.aload_n 0, 1) := by decide +kernel
theorem dL_law_1249 : decode cL_law 1249 = .ok (.iload 4, 2) := by decide +kernel
theorem dL_law_1251 : decode cL_law 1251 = .ok (.iconst 2, 1) := by decide +kernel
theorem dL_law_1252 : decode cL_law 1252 = .ok (.iadd, 1) := by decide +kernel
theorem dL_law_1253 : decode cL_law 1253 = .ok (.iaload, 1) := by decide +kernel
theorem dL_law_1254 : decode cL_law 1254 = .ok (.invokevirtual 201, 3) := by decide +kernel
theorem dL_law_1257 : decode cL_law 1257 = .ok (.istore 6, 2) := by decide +kernel
theorem dL_law_1259 : decode cL_law 1259 = .ok (.aload_n 2, 1) := by decide +kernel
theorem dL_law_1260 : decode cL_law 1260 = .ok (.invokevirtual 152, 3) := by decide +kernel
theorem dL_law_1263 : decode cL_law 1263 = .ok (.iload 5, 2) := by decide +kernel
theorem dL_law_1265 : decode cL_law 1265 = .ok (.if_icmp .eq 5, 3) := by decide +kernel
theorem dL_law_1268 : decode cL_law 1268 = .ok (.iconst 0, 1) := by decide +kernel
theorem dL_law_1269 : decode cL_law 1269 = .ok (.ireturn, 1) := by decide +kernel
theorem dL_law_1270 : decode cL_law 1270 = .ok (.iload 5, 2) := by decide +kernel
theorem dL_law_1272 : decode cL_law 1272 = .ok (.ifCond .ne 15, 3) := by decide +kernel
theorem dL_law_1275 : decode cL_law 1275 = .ok (.aload_n 3, 1) := by decide +kernel
theorem dL_law_1276 : decode cL_law 1276 = .ok (.iconst 0, 1) := by decide +kernel
theorem dL_law_1277 : decode cL_law 1277 = .ok (.laload, 1) := by decide +kernel
theorem dL_law_1278 : decode cL_law 1278 = .ok (.iload 6, 2) := by decide +kernel
theorem dL_law_1280 : decode cL_law 1280 = .ok (.i2l, 1) := by decide +kernel
theorem dL_law_1281 : decode cL_law 1281 = .ok (.lcmp, 1) := by decide +kernel
theorem dL_law_1282 : decode cL_law 1282 = .ok (.ifCond .eq 5, 3) := by decide +kernel
theorem dL_law_1285 : decode cL_law 1285 = .ok (.iconst 0, 1) := by decide +kernel
theorem dL_law_1286 : decode cL_law 1286 = .ok (.ireturn, 1) := by decide +kernel
theorem dL_law_1287 : decode cL_law 1287 = .ok (.goto 1789, 3) := by decide +kernel
theorem dL_law_1290 : decode cL_law 1290 = .ok (.aload_n 1, 1) := by decide +kernel
theorem dL_law_1291 : decode cL_law 1291 = .ok (.aload_n 0, 1) := by decide +kernel
theorem dL_law_1292 : decode cL_law 1292 = .ok (.iload 4, 2) := by decide +kernel
theorem dL_law_1294 : decode cL_law 1294 = .ok (.iconst 1, 1) := by decide +kernel
theorem dL_law_1295 : decode cL_law 1295 = .ok (.iadd, 1) := by decide +kernel
theorem dL_law_1296 : decode cL_law 1296 = .ok (.iaload, 1) := by decide +kernel
theorem dL_law_1297 : decode cL_law 1297 = .ok (.aload_n 0, 1) := by decide +kernel
theorem dL_law_1298 : decode cL_law 1298 = .ok (.iload 4, 2) := by decide +kernel
theorem dL_law_1300 : decode cL_law 1300 = .ok (.iconst 2, 1) := by decide +kernel
theorem dL_law_1301 : decode cL_law 1301 = .ok (.iadd, 1) := by decide +kernel
theorem dL_law_1302 : decode cL_law 1302 = .ok (.iaload, 1) := by decide +kernel
theorem dL_law_1303 : decode cL_law 1303 = .ok (.aload_n 3, 1) := by decide +kernel
theorem dL_law_1304 : decode cL_law 1304 = .ok (.invokestatic 202, 3) := by decide +kernel
theorem dL_law_1307 : decode cL_law 1307 = .ok (.istore 5, 2) := by decide +kernel
theorem dL_law_1309 : decode cL_law 1309 = .ok (.aload_n 2, 1) := by decide +kernel
theorem dL_law_1310 : decode cL_law 1310 = .ok (.aload_n 0, 1) := by decide +kernel
theorem dL_law_1311 : decode cL_law 1311 = .ok (.iload 4, 2) := by decide +kernel
theorem dL_law_1313 : decode cL_law 1313 = .ok (.iconst 1, 1) := by decide +kernel
theorem dL_law_1314 : decode cL_law 1314 = .ok (.iadd, 1) := by decide +kernel
theorem dL_law_1315 : decode cL_law 1315 = .ok (.iaload, 1) := by decide +kernel
theorem dL_law_1316 : decode cL_law 1316 = .ok (.aload_n 0, 1) := by decide +kernel
theorem dL_law_1317 : decode cL_law 1317 = .ok (.iload 4, 2) := by decide +kernel
theorem dL_law_1319 : decode cL_law 1319 = .ok (.iconst 2, 1) := by decide +kernel
theorem dL_law_1320 : decode cL_law 1320 = .ok (.iadd, 1) := by decide +kernel
theorem dL_law_1321 : decode cL_law 1321 = .ok (.iaload, 1) := by decide +kernel
theorem dL_law_1322 : decode cL_law 1322 = .ok (.invokevirtual 204, 3) := by decide +kernel
theorem dL_law_1325 : decode cL_law 1325 = .ok (.istore 6, 2) := by decide +kernel
theorem dL_law_1327 : decode cL_law 1327 = .ok (.aload_n 2, 1) := by decide +kernel
theorem dL_law_1328 : decode cL_law 1328 = .ok (.invokevirtual 152, 3) := by decide +kernel
theorem dL_law_1331 : decode cL_law 1331 = .ok (.iload 5, 2) := by decide +kernel
theorem dL_law_1333 : decode cL_law 1333 = .ok (.if_icmp .eq 5, 3) := by decide +kernel
theorem dL_law_1336 : decode cL_law 1336 = .ok (.iconst 0, 1) := by decide +kernel
theorem dL_law_1337 : decode cL_law 1337 = .ok (.ireturn, 1) := by decide +kernel
theorem dL_law_1338 : decode cL_law 1338 = .ok (.iload 5, 2) := by decide +kernel
theorem dL_law_1340 : decode cL_law 1340 = .ok (.ifCond .ne 15, 3) := by decide +kernel
theorem dL_law_1343 : decode cL_law 1343 = .ok (.aload_n 3, 1) := by decide +kernel
theorem dL_law_1344 : decode cL_law 1344 = .ok (.iconst 0, 1) := by decide +kernel
theorem dL_law_1345 : decode cL_law 1345 = .ok (.laload, 1) := by decide +kernel
theorem dL_law_1346 : decode cL_law 1346 = .ok (.iload 6, 2) := by decide +kernel
theorem dL_law_1348 : decode cL_law 1348 = .ok (.i2l, 1) := by decide +kernel
theorem dL_law_1349 : decode cL_law 1349 = .ok (.lcmp, 1) := by decide +kernel
theorem dL_law_1350 : decode cL_law 1350 = .ok (.ifCond .eq 5, 3) := by decide +kernel
theorem dL_law_1353 : decode cL_law 1353 = .ok (.iconst 0, 1) := by decide +kernel
theorem dL_law_1354 : decode cL_law 1354 = .ok (.ireturn, 1) := by decide +kernel
theorem dL_law_1355 : decode cL_law 1355 = .ok (.goto 1721, 3) := by decide +kernel
theorem dL_law_1358 : decode cL_law 1358 = .ok (.aload_n 1, 1) := by decide +kernel
theorem dL_law_1359 : decode cL_law 1359 = .ok (.aload_n 0, 1) := by decide +kernel
theorem dL_law_1360 : decode cL_law 1360 = .ok (.iload 4, 2) := by decide +kernel
theorem dL_law_1362 : decode cL_law 1362 = .ok (.iconst 1, 1) := by decide +kernel
theorem dL_law_1363 : decode cL_law 1363 = .ok (.iadd, 1) := by decide +kernel
theorem dL_law_1364 : decode cL_law 1364 = .ok (.iaload, 1) := by decide +kernel
theorem dL_law_1365 : decode cL_law 1365 = .ok (.aload_n 0, 1) := by decide +kernel
theorem dL_law_1366 : decode cL_law 1366 = .ok (.iload 4, 2) := by decide +kernel
theorem dL_law_1368 : decode cL_law 1368 = .ok (.iconst 2, 1) := by decide +kernel
theorem dL_law_1369 : decode cL_law 1369 = .ok (.iadd, 1) := by decide +kernel
theorem dL_law_1370 : decode cL_law 1370 = .ok (.iaload, 1) := by decide +kernel
theorem dL_law_1371 : decode cL_law 1371 = .ok (.aload_n 0, 1) := by decide +kernel
theorem dL_law_1372 : decode cL_law 1372 = .ok (.iload 4, 2) := by decide +kernel
theorem dL_law_1374 : decode cL_law 1374 = .ok (.iconst 3, 1) := by decide +kernel
theorem dL_law_1375 : decode cL_law 1375 = .ok (.iadd, 1) := by decide +kernel
theorem dL_law_1376 : decode cL_law 1376 = .ok (.iaload, 1) := by decide +kernel
theorem dL_law_1377 : decode cL_law 1377 = .ok (.aload_n 0, 1) := by decide +kernel
theorem dL_law_1378 : decode cL_law 1378 = .ok (.iload 4, 2) := by decide +kernel
theorem dL_law_1380 : decode cL_law 1380 = .ok (.iconst 4, 1) := by decide +kernel
theorem dL_law_1381 : decode cL_law 1381 = .ok (.iadd, 1) := by decide +kernel
theorem dL_law_1382 : decode cL_law 1382 = .ok (.iaload, 1) := by decide +kernel
theorem dL_law_1383 : decode cL_law 1383 = .ok (.aload_n 3, 1) := by decide +kernel
theorem dL_law_1384 : decode cL_law 1384 = .ok (.invokestatic 205, 3) := by decide +kernel
theorem dL_law_1387 : decode cL_law 1387 = .ok (.istore 5, 2) := by decide +kernel
theorem dL_law_1389 : decode cL_law 1389 = .ok (.aload_n 2, 1) := by decide +kernel
theorem dL_law_1390 : decode cL_law 1390 = .ok (.aload_n 0, 1) := by decide +kernel
theorem dL_law_1391 : decode cL_law 1391 = .ok (.iload 4, 2) := by decide +kernel
theorem dL_law_1393 : decode cL_law 1393 = .ok (.iconst 1, 1) := by decide +kernel
theorem dL_law_1394 : decode cL_law 1394 = .ok (.iadd, 1) := by decide +kernel
theorem dL_law_1395 : decode cL_law 1395 = .ok (.iaload, 1) := by decide +kernel
theorem dL_law_1396 : decode cL_law 1396 = .ok (.aload_n 0, 1) := by decide +kernel
theorem dL_law_1397 : decode cL_law 1397 = .ok (.iload 4, 2) := by decide +kernel
theorem dL_law_1399 : decode cL_law 1399 = .ok (.iconst 2, 1) := by decide +kernel
theorem dL_law_1400 : decode cL_law 1400 = .ok (.iadd, 1) := by decide +kernel
theorem dL_law_1401 : decode cL_law 1401 = .ok (.iaload, 1) := by decide +kernel
theorem dL_law_1402 : decode cL_law 1402 = .ok (.aload_n 0, 1) := by decide +kernel
theorem dL_law_1403 : decode cL_law 1403 = .ok (.iload 4, 2) := by decide +kernel
theorem dL_law_1405 : decode cL_law 1405 = .ok (.iconst 3, 1) := by decide +kernel
theorem dL_law_1406 : decode cL_law 1406 = .ok (.iadd, 1) := by decide +kernel
theorem dL_law_1407 : decode cL_law 1407 = .ok (.iaload, 1) := by decide +kernel
theorem dL_law_1408 : decode cL_law 1408 = .ok (.aload_n 0, 1) := by decide +kernel
theorem dL_law_1409 : decode cL_law 1409 = .ok (.iload 4, 2) := by decide +kernel
theorem dL_law_1411 : decode cL_law 1411 = .ok (.iconst 4, 1) := by decide +kernel
theorem dL_law_1412 : decode cL_law 1412 = .ok (.iadd, 1) := by decide +kernel
theorem dL_law_1413 : decode cL_law 1413 = .ok (.iaload, 1) := by decide +kernel
theorem dL_law_1414 : decode cL_law 1414 = .ok (.invokevirtual 208, 3) := by decide +kernel
theorem dL_law_1417 : decode cL_law 1417 = .ok (.istore 6, 2) := by decide +kernel
theorem dL_law_1419 : decode cL_law 1419 = .ok (.aload_n 2, 1) := by decide +kernel
theorem dL_law_1420 : decode cL_law 1420 = .ok (.invokevirtual 152, 3) := by decide +kernel
theorem dL_law_1423 : decode cL_law 1423 = .ok (.iload 5, 2) := by decide +kernel
theorem dL_law_1425 : decode cL_law 1425 = .ok (.if_icmp .eq 5, 3) := by decide +kernel
theorem dL_law_1428 : decode cL_law 1428 = .ok (.iconst 0, 1) := by decide +kernel
theorem dL_law_1429 : decode cL_law 1429 = .ok (.ireturn, 1) := by decide +kernel
theorem dL_law_1430 : decode cL_law 1430 = .ok (.iload 5, 2) := by decide +kernel
theorem dL_law_1432 : decode cL_law 1432 = .ok (.ifCond .ne 15, 3) := by decide +kernel
theorem dL_law_1435 : decode cL_law 1435 = .ok (.aload_n 3, 1) := by decide +kernel
theorem dL_law_1436 : decode cL_law 1436 = .ok (.iconst 0, 1) := by decide +kernel
theorem dL_law_1437 : decode cL_law 1437 = .ok (.laload, 1) := by decide +kernel
theorem dL_law_1438 : decode cL_law 1438 = .ok (.iload 6, 2) := by decide +kernel
theorem dL_law_1440 : decode cL_law 1440 = .ok (.i2l, 1) := by decide +kernel
theorem dL_law_1441 : decode cL_law 1441 = .ok (.lcmp, 1) := by decide +kernel
theorem dL_law_1442 : decode cL_law 1442 = .ok (.ifCond .eq 5, 3) := by decide +kernel
theorem dL_law_1445 : decode cL_law 1445 = .ok (.iconst 0, 1) := by decide +kernel
theorem dL_law_1446 : decode cL_law 1446 = .ok (.ireturn, 1) := by decide +kernel
theorem dL_law_1447 : decode cL_law 1447 = .ok (.goto 1629, 3) := by decide +kernel
theorem dL_law_1450 : decode cL_law 1450 = .ok (.aload_n 1, 1) := by decide +kernel
theorem dL_law_1451 : decode cL_law 1451 = .ok (.aload_n 0, 1) := by decide +kernel
theorem dL_law_1452 : decode cL_law 1452 = .ok (.iload 4, 2) := by decide +kernel
theorem dL_law_1454 : decode cL_law 1454 = .ok (.iconst 1, 1) := by decide +kernel
theorem dL_law_1455 : decode cL_law 1455 = .ok (.iadd, 1) := by decide +kernel
theorem dL_law_1456 : decode cL_law 1456 = .ok (.iaload, 1) := by decide +kernel
theorem dL_law_1457 : decode cL_law 1457 = .ok (.aload_n 0, 1) := by decide +kernel
theorem dL_law_1458 : decode cL_law 1458 = .ok (.iload 4, 2) := by decide +kernel
theorem dL_law_1460 : decode cL_law 1460 = .ok (.iconst 2, 1) := by decide +kernel
theorem dL_law_1461 : decode cL_law 1461 = .ok (.iadd, 1) := by decide +kernel
theorem dL_law_1462 : decode cL_law 1462 = .ok (.iaload, 1) := by decide +kernel
theorem dL_law_1463 : decode cL_law 1463 = .ok (.aload_n 0, 1) := by decide +kernel
theorem dL_law_1464 : decode cL_law 1464 = .ok (.iload 4, 2) := by decide +kernel
theorem dL_law_1466 : decode cL_law 1466 = .ok (.iconst 3, 1) := by decide +kernel
theorem dL_law_1467 : decode cL_law 1467 = .ok (.iadd, 1) := by decide +kernel
theorem dL_law_1468 : decode cL_law 1468 = .ok (.iaload, 1) := by decide +kernel
theorem dL_law_1469 : decode cL_law 1469 = .ok (.aload_n 3, 1) := by decide +kernel
theorem dL_law_1470 : decode cL_law 1470 = .ok (.invokestatic 209, 3) := by decide +kernel
theorem dL_law_1473 : decode cL_law 1473 = .ok (.istore 5, 2) := by decide +kernel
theorem dL_law_1475 : decode cL_law 1475 = .ok (.aload_n 2, 1) := by decide +kernel
theorem dL_law_1476 : decode cL_law 1476 = .ok (.aload_n 0, 1) := by decide +kernel
theorem dL_law_1477 : decode cL_law 1477 = .ok (.iload 4, 2) := by decide +kernel
theorem dL_law_1479 : decode cL_law 1479 = .ok (.iconst 1, 1) := by decide +kernel
theorem dL_law_1480 : decode cL_law 1480 = .ok (.iadd, 1) := by decide +kernel
theorem dL_law_1481 : decode cL_law 1481 = .ok (.iaload, 1) := by decide +kernel
theorem dL_law_1482 : decode cL_law 1482 = .ok (.aload_n 0, 1) := by decide +kernel
theorem dL_law_1483 : decode cL_law 1483 = .ok (.iload 4, 2) := by decide +kernel
theorem dL_law_1485 : decode cL_law 1485 = .ok (.iconst 2, 1) := by decide +kernel
theorem dL_law_1486 : decode cL_law 1486 = .ok (.iadd, 1) := by decide +kernel
theorem dL_law_1487 : decode cL_law 1487 = .ok (.iaload, 1) := by decide +kernel
theorem dL_law_1488 : decode cL_law 1488 = .ok (.aload_n 0, 1) := by decide +kernel
theorem dL_law_1489 : decode cL_law 1489 = .ok (.iload 4, 2) := by decide +kernel
theorem dL_law_1491 : decode cL_law 1491 = .ok (.iconst 3, 1) := by decide +kernel
theorem dL_law_1492 : decode cL_law 1492 = .ok (.iadd, 1) := by decide +kernel
theorem dL_law_1493 : decode cL_law 1493 = .ok (.iaload, 1) := by decide +kernel
theorem dL_law_1494 : decode cL_law 1494 = .ok (.invokevirtual 211, 3) := by decide +kernel
theorem dL_law_1497 : decode cL_law 1497 = .ok (.istore 6, 2) := by decide +kernel
theorem dL_law_1499 : decode cL_law 1499 = .ok (.aload_n 2, 1) := by decide +kernel
theorem dL_law_1500 : decode cL_law 1500 = .ok (.invokevirtual 152, 3) := by decide +kernel
theorem dL_law_1503 : decode cL_law 1503 = .ok (.iload 5, 2) := by decide +kernel
theorem dL_law_1505 : decode cL_law 1505 = .ok (.if_icmp .eq 5, 3) := by decide +kernel
theorem dL_law_1508 : decode cL_law 1508 = .ok (.iconst 0, 1) := by decide +kernel
theorem dL_law_1509 : decode cL_law 1509 = .ok (.ireturn, 1) := by decide +kernel
theorem dL_law_1510 : decode cL_law 1510 = .ok (.iload 5, 2) := by decide +kernel
theorem dL_law_1512 : decode cL_law 1512 = .ok (.ifCond .ne 15, 3) := by decide +kernel
theorem dL_law_1515 : decode cL_law 1515 = .ok (.aload_n 3, 1) := by decide +kernel
theorem dL_law_1516 : decode cL_law 1516 = .ok (.iconst 0, 1) := by decide +kernel
theorem dL_law_1517 : decode cL_law 1517 = .ok (.laload, 1) := by decide +kernel
theorem dL_law_1518 : decode cL_law 1518 = .ok (.iload 6, 2) := by decide +kernel
theorem dL_law_1520 : decode cL_law 1520 = .ok (.i2l, 1) := by decide +kernel
theorem dL_law_1521 : decode cL_law 1521 = .ok (.lcmp, 1) := by decide +kernel
theorem dL_law_1522 : decode cL_law 1522 = .ok (.ifCond .eq 5, 3) := by decide +kernel
theorem dL_law_1525 : decode cL_law 1525 = .ok (.iconst 0, 1) := by decide +kernel
theorem dL_law_1526 : decode cL_law 1526 = .ok (.ireturn, 1) := by decide +kernel
theorem dL_law_1527 : decode cL_law 1527 = .ok (.goto 1549, 3) := by decide +kernel
theorem dL_law_1530 : decode cL_law 1530 = .ok (.aload_n 1, 1) := by decide +kernel
theorem dL_law_1531 : decode cL_law 1531 = .ok (.aload_n 0, 1) := by decide +kernel
theorem dL_law_1532 : decode cL_law 1532 = .ok (.iload 4, 2) := by decide +kernel
theorem dL_law_1534 : decode cL_law 1534 = .ok (.iconst 1, 1) := by decide +kernel
theorem dL_law_1535 : decode cL_law 1535 = .ok (.iadd, 1) := by decide +kernel
theorem dL_law_1536 : decode cL_law 1536 = .ok (.iaload, 1) := by decide +kernel
theorem dL_law_1537 : decode cL_law 1537 = .ok (.aload_n 3, 1) := by decide +kernel
theorem dL_law_1538 : decode cL_law 1538 = .ok (.invokestatic 212, 3) := by decide +kernel
theorem dL_law_1541 : decode cL_law 1541 = .ok (.istore 5, 2) := by decide +kernel
theorem dL_law_1543 : decode cL_law 1543 = .ok (.aload_n 2, 1) := by decide +kernel
theorem dL_law_1544 : decode cL_law 1544 = .ok (.aload_n 0, 1) := by decide +kernel
theorem dL_law_1545 : decode cL_law 1545 = .ok (.iload 4, 2) := by decide +kernel
theorem dL_law_1547 : decode cL_law 1547 = .ok (.iconst 1, 1) := by decide +kernel
theorem dL_law_1548 : decode cL_law 1548 = .ok (.iadd, 1) := by decide +kernel
theorem dL_law_1549 : decode cL_law 1549 = .ok (.iaload, 1) := by decide +kernel
theorem dL_law_1550 : decode cL_law 1550 = .ok (.invokevirtual 214, 3) := by decide +kernel
theorem dL_law_1553 : decode cL_law 1553 = .ok (.istore 6, 2) := by decide +kernel
theorem dL_law_1555 : decode cL_law 1555 = .ok (.aload_n 2, 1) := by decide +kernel
theorem dL_law_1556 : decode cL_law 1556 = .ok (.invokevirtual 152, 3) := by decide +kernel
theorem dL_law_1559 : decode cL_law 1559 = .ok (.iload 5, 2) := by decide +kernel
theorem dL_law_1561 : decode cL_law 1561 = .ok (.if_icmp .eq 5, 3) := by decide +kernel
theorem dL_law_1564 : decode cL_law 1564 = .ok (.iconst 0, 1) := by decide +kernel
theorem dL_law_1565 : decode cL_law 1565 = .ok (.ireturn, 1) := by decide +kernel
theorem dL_law_1566 : decode cL_law 1566 = .ok (.iload 5, 2) := by decide +kernel
theorem dL_law_1568 : decode cL_law 1568 = .ok (.ifCond .ne 15, 3) := by decide +kernel
theorem dL_law_1571 : decode cL_law 1571 = .ok (.aload_n 3, 1) := by decide +kernel
theorem dL_law_1572 : decode cL_law 1572 = .ok (.iconst 0, 1) := by decide +kernel
theorem dL_law_1573 : decode cL_law 1573 = .ok (.laload, 1) := by decide +kernel
theorem dL_law_1574 : decode cL_law 1574 = .ok (.iload 6, 2) := by decide +kernel
theorem dL_law_1576 : decode cL_law 1576 = .ok (.i2l, 1) := by decide +kernel
theorem dL_law_1577 : decode cL_law 1577 = .ok (.lcmp, 1) := by decide +kernel
theorem dL_law_1578 : decode cL_law 1578 = .ok (.ifCond .eq 5, 3) := by decide +kernel
theorem dL_law_1581 : decode cL_law 1581 = .ok (.iconst 0, 1) := by decide +kernel
theorem dL_law_1582 : decode cL_law 1582 = .ok (.ireturn, 1) := by decide +kernel
theorem dL_law_1583 : decode cL_law 1583 = .ok (.goto 1493, 3) := by decide +kernel
theorem dL_law_1586 : decode cL_law 1586 = .ok (.aload_n 1, 1) := by decide +kernel
theorem dL_law_1587 : decode cL_law 1587 = .ok (.aload_n 0, 1) := by decide +kernel
theorem dL_law_1588 : decode cL_law 1588 = .ok (.iload 4, 2) := by decide +kernel
theorem dL_law_1590 : decode cL_law 1590 = .ok (.iconst 1, 1) := by decide +kernel
theorem dL_law_1591 : decode cL_law 1591 = .ok (.iadd, 1) := by decide +kernel
theorem dL_law_1592 : decode cL_law 1592 = .ok (.iaload, 1) := by decide +kernel
theorem dL_law_1593 : decode cL_law 1593 = .ok (.aload_n 0, 1) := by decide +kernel
theorem dL_law_1594 : decode cL_law 1594 = .ok (.iload 4, 2) := by decide +kernel
theorem dL_law_1596 : decode cL_law 1596 = .ok (.iconst 2, 1) := by decide +kernel
theorem dL_law_1597 : decode cL_law 1597 = .ok (.iadd, 1) := by decide +kernel
theorem dL_law_1598 : decode cL_law 1598 = .ok (.iaload, 1) := by decide +kernel
theorem dL_law_1599 : decode cL_law 1599 = .ok (.aload_n 3, 1) := by decide +kernel
theorem dL_law_1600 : decode cL_law 1600 = .ok (.invokestatic 215, 3) := by decide +kernel
theorem dL_law_1603 : decode cL_law 1603 = .ok (.istore 5, 2) := by decide +kernel
theorem dL_law_1605 : decode cL_law 1605 = .ok (.aload_n 2, 1) := by decide +kernel
theorem dL_law_1606 : decode cL_law 1606 = .ok (.aload_n 0, 1) := by decide +kernel
theorem dL_law_1607 : decode cL_law 1607 = .ok (.iload 4, 2) := by decide +kernel
theorem dL_law_1609 : decode cL_law 1609 = .ok (.iconst 1, 1) := by decide +kernel
theorem dL_law_1610 : decode cL_law 1610 = .ok (.iadd, 1) := by decide +kernel
theorem dL_law_1611 : decode cL_law 1611 = .ok (.iaload, 1) := by decide +kernel
theorem dL_law_1612 : decode cL_law 1612 = .ok (.aload_n 0, 1) := by decide +kernel
theorem dL_law_1613 : decode cL_law 1613 = .ok (.iload 4, 2) := by decide +kernel
theorem dL_law_1615 : decode cL_law 1615 = .ok (.iconst 2, 1) := by decide +kernel
theorem dL_law_1616 : decode cL_law 1616 = .ok (.iadd, 1) := by decide +kernel
theorem dL_law_1617 : decode cL_law 1617 = .ok (.iaload, 1) := by decide +kernel
theorem dL_law_1618 : decode cL_law 1618 = .ok (.invokevirtual 217, 3) := by decide +kernel
theorem dL_law_1621 : decode cL_law 1621 = .ok (.istore 6, 2) := by decide +kernel
theorem dL_law_1623 : decode cL_law 1623 = .ok (.aload_n 2, 1) := by decide +kernel
theorem dL_law_1624 : decode cL_law 1624 = .ok (.invokevirtual 152, 3) := by decide +kernel
theorem dL_law_1627 : decode cL_law 1627 = .ok (.iload 5, 2) := by decide +kernel
theorem dL_law_1629 : decode cL_law 1629 = .ok (.if_icmp .eq 5, 3) := by decide +kernel
theorem dL_law_1632 : decode cL_law 1632 = .ok (.iconst 0, 1) := by decide +kernel
theorem dL_law_1633 : decode cL_law 1633 = .ok (.ireturn, 1) := by decide +kernel
theorem dL_law_1634 : decode cL_law 1634 = .ok (.iload 5, 2) := by decide +kernel
theorem dL_law_1636 : decode cL_law 1636 = .ok (.ifCond .ne 15, 3) := by decide +kernel
theorem dL_law_1639 : decode cL_law 1639 = .ok (.aload_n 3, 1) := by decide +kernel
theorem dL_law_1640 : decode cL_law 1640 = .ok (.iconst 0, 1) := by decide +kernel
theorem dL_law_1641 : decode cL_law 1641 = .ok (.laload, 1) := by decide +kernel
theorem dL_law_1642 : decode cL_law 1642 = .ok (.iload 6, 2) := by decide +kernel
theorem dL_law_1644 : decode cL_law 1644 = .ok (.i2l, 1) := by decide +kernel
theorem dL_law_1645 : decode cL_law 1645 = .ok (.lcmp, 1) := by decide +kernel
theorem dL_law_1646 : decode cL_law 1646 = .ok (.ifCond .eq 5, 3) := by decide +kernel
theorem dL_law_1649 : decode cL_law 1649 = .ok (.iconst 0, 1) := by decide +kernel
theorem dL_law_1650 : decode cL_law 1650 = .ok (.ireturn, 1) := by decide +kernel
theorem dL_law_1651 : decode cL_law 1651 = .ok (.goto 1425, 3) := by decide +kernel
theorem dL_law_1654 : decode cL_law 1654 = .ok (.aload_n 1, 1) := by decide +kernel
theorem dL_law_1655 : decode cL_law 1655 = .ok (.aload_n 0, 1) := by decide +kernel
theorem dL_law_1656 : decode cL_law 1656 = .ok (.iload 4, 2) := by decide +kernel
theorem dL_law_1658 : decode cL_law 1658 = .ok (.iconst 1, 1) := by decide +kernel
theorem dL_law_1659 : decode cL_law 1659 = .ok (.iadd, 1) := by decide +kernel
theorem dL_law_1660 : decode cL_law 1660 = .ok (.iaload, 1) := by decide +kernel
theorem dL_law_1661 : decode cL_law 1661 = .ok (.aload_n 0, 1) := by decide +kernel
theorem dL_law_1662 : decode cL_law 1662 = .ok (.iload 4, 2) := by decide +kernel
theorem dL_law_1664 : decode cL_law 1664 = .ok (.iconst 2, 1) := by decide +kernel
theorem dL_law_1665 : decode cL_law 1665 = .ok (.iadd, 1) := by decide +kernel
theorem dL_law_1666 : decode cL_law 1666 = .ok (.iaload, 1) := by decide +kernel
theorem dL_law_1667 : decode cL_law 1667 = .ok (.aload_n 0, 1) := by decide +kernel
theorem dL_law_1668 : decode cL_law 1668 = .ok (.iload 4, 2) := by decide +kernel
theorem dL_law_1670 : decode cL_law 1670 = .ok (.iconst 3, 1) := by decide +kernel
theorem dL_law_1671 : decode cL_law 1671 = .ok (.iadd, 1) := by decide +kernel
theorem dL_law_1672 : decode cL_law 1672 = .ok (.iaload, 1) := by decide +kernel
theorem dL_law_1673 : decode cL_law 1673 = .ok (.aload_n 0, 1) := by decide +kernel
theorem dL_law_1674 : decode cL_law 1674 = .ok (.iload 4, 2) := by decide +kernel
theorem dL_law_1676 : decode cL_law 1676 = .ok (.iconst 4, 1) := by decide +kernel
theorem dL_law_1677 : decode cL_law 1677 = .ok (.iadd, 1) := by decide +kernel
theorem dL_law_1678 : decode cL_law 1678 = .ok (.iaload, 1) := by decide +kernel
theorem dL_law_1679 : decode cL_law 1679 = .ok (.aload_n 0, 1) := by decide +kernel
theorem dL_law_1680 : decode cL_law 1680 = .ok (.iload 4, 2) := by decide +kernel
theorem dL_law_1682 : decode cL_law 1682 = .ok (.iconst 5, 1) := by decide +kernel
theorem dL_law_1683 : decode cL_law 1683 = .ok (.iadd, 1) := by decide +kernel
theorem dL_law_1684 : decode cL_law 1684 = .ok (.iaload, 1) := by decide +kernel
theorem dL_law_1685 : decode cL_law 1685 = .ok (.aload_n 3, 1) := by decide +kernel
theorem dL_law_1686 : decode cL_law 1686 = .ok (.invokestatic 218, 3) := by decide +kernel
theorem dL_law_1689 : decode cL_law 1689 = .ok (.istore 5, 2) := by decide +kernel
theorem dL_law_1691 : decode cL_law 1691 = .ok (.aload_n 2, 1) := by decide +kernel
theorem dL_law_1692 : decode cL_law 1692 = .ok (.aload_n 0, 1) := by decide +kernel
theorem dL_law_1693 : decode cL_law 1693 = .ok (.iload 4, 2) := by decide +kernel
theorem dL_law_1695 : decode cL_law 1695 = .ok (.iconst 1, 1) := by decide +kernel
theorem dL_law_1696 : decode cL_law 1696 = .ok (.iadd, 1) := by decide +kernel
theorem dL_law_1697 : decode cL_law 1697 = .ok (.iaload, 1) := by decide +kernel
theorem dL_law_1698 : decode cL_law 1698 = .ok (.aload_n 0, 1) := by decide +kernel
theorem dL_law_1699 : decode cL_law 1699 = .ok (.iload 4, 2) := by decide +kernel
theorem dL_law_1701 : decode cL_law 1701 = .ok (.iconst 2, 1) := by decide +kernel
theorem dL_law_1702 : decode cL_law 1702 = .ok (.iadd, 1) := by decide +kernel
theorem dL_law_1703 : decode cL_law 1703 = .ok (.iaload, 1) := by decide +kernel
theorem dL_law_1704 : decode cL_law 1704 = .ok (.aload_n 0, 1) := by decide +kernel
theorem dL_law_1705 : decode cL_law 1705 = .ok (.iload 4, 2) := by decide +kernel
theorem dL_law_1707 : decode cL_law 1707 = .ok (.iconst 3, 1) := by decide +kernel
theorem dL_law_1708 : decode cL_law 1708 = .ok (.iadd, 1) := by decide +kernel
theorem dL_law_1709 : decode cL_law 1709 = .ok (.iaload, 1) := by decide +kernel
theorem dL_law_1710 : decode cL_law 1710 = .ok (.aload_n 0, 1) := by decide +kernel
theorem dL_law_1711 : decode cL_law 1711 = .ok (.iload 4, 2) := by decide +kernel
theorem dL_law_1713 : decode cL_law 1713 = .ok (.iconst 4, 1) := by decide +kernel
theorem dL_law_1714 : decode cL_law 1714 = .ok (.iadd, 1) := by decide +kernel
theorem dL_law_1715 : decode cL_law 1715 = .ok (.iaload, 1) := by decide +kernel
theorem dL_law_1716 : decode cL_law 1716 = .ok (.aload_n 0, 1) := by decide +kernel
theorem dL_law_1717 : decode cL_law 1717 = .ok (.iload 4, 2) := by decide +kernel
theorem dL_law_1719 : decode cL_law 1719 = .ok (.iconst 5, 1) := by decide +kernel
theorem dL_law_1720 : decode cL_law 1720 = .ok (.iadd, 1) := by decide +kernel
theorem dL_law_1721 : decode cL_law 1721 = .ok (.iaload, 1) := by decide +kernel
theorem dL_law_1722 : decode cL_law 1722 = .ok (.invokevirtual 221, 3) := by decide +kernel
theorem dL_law_1725 : decode cL_law 1725 = .ok (.istore 6, 2) := by decide +kernel
theorem dL_law_1727 : decode cL_law 1727 = .ok (.aload_n 2, 1) := by decide +kernel
theorem dL_law_1728 : decode cL_law 1728 = .ok (.invokevirtual 152, 3) := by decide +kernel
theorem dL_law_1731 : decode cL_law 1731 = .ok (.iload 5, 2) := by decide +kernel
theorem dL_law_1733 : decode cL_law 1733 = .ok (.if_icmp .eq 5, 3) := by decide +kernel
theorem dL_law_1736 : decode cL_law 1736 = .ok (.iconst 0, 1) := by decide +kernel
theorem dL_law_1737 : decode cL_law 1737 = .ok (.ireturn, 1) := by decide +kernel
theorem dL_law_1738 : decode cL_law 1738 = .ok (.iload 5, 2) := by decide +kernel
theorem dL_law_1740 : decode cL_law 1740 = .ok (.ifCond .ne 15, 3) := by decide +kernel
theorem dL_law_1743 : decode cL_law 1743 = .ok (.aload_n 3, 1) := by decide +kernel
theorem dL_law_1744 : decode cL_law 1744 = .ok (.iconst 0, 1) := by decide +kernel
theorem dL_law_1745 : decode cL_law 1745 = .ok (.laload, 1) := by decide +kernel
theorem dL_law_1746 : decode cL_law 1746 = .ok (.iload 6, 2) := by decide +kernel
theorem dL_law_1748 : decode cL_law 1748 = .ok (.i2l, 1) := by decide +kernel
theorem dL_law_1749 : decode cL_law 1749 = .ok (.lcmp, 1) := by decide +kernel
theorem dL_law_1750 : decode cL_law 1750 = .ok (.ifCond .eq 5, 3) := by decide +kernel
theorem dL_law_1753 : decode cL_law 1753 = .ok (.iconst 0, 1) := by decide +kernel
theorem dL_law_1754 : decode cL_law 1754 = .ok (.ireturn, 1) := by decide +kernel
theorem dL_law_1755 : decode cL_law 1755 = .ok (.goto 1321, 3) := by decide +kernel
theorem dL_law_1758 : decode cL_law 1758 = .ok (.aload_n 1, 1) := by decide +kernel
theorem dL_law_1759 : decode cL_law 1759 = .ok (.aload_n 0, 1) := by decide +kernel
theorem dL_law_1760 : decode cL_law 1760 = .ok (.iload 4, 2) := by decide +kernel
theorem dL_law_1762 : decode cL_law 1762 = .ok (.iconst 1, 1) := by decide +kernel
theorem dL_law_1763 : decode cL_law 1763 = .ok (.iadd, 1) := by decide +kernel
theorem dL_law_1764 : decode cL_law 1764 = .ok (.iaload, 1) := by decide +kernel
theorem dL_law_1765 : decode cL_law 1765 = .ok (.aload_n 0, 1) := by decide +kernel
theorem dL_law_1766 : decode cL_law 1766 = .ok (.iload 4, 2) := by decide +kernel
theorem dL_law_1768 : decode cL_law 1768 = .ok (.iconst 2, 1) := by decide +kernel
theorem dL_law_1769 : decode cL_law 1769 = .ok (.iadd, 1) := by decide +kernel
theorem dL_law_1770 : decode cL_law 1770 = .ok (.iaload, 1) := by decide +kernel
theorem dL_law_1771 : decode cL_law 1771 = .ok (.aload_n 0, 1) := by decide +kernel
theorem dL_law_1772 : decode cL_law 1772 = .ok (.iload 4, 2) := by decide +kernel
theorem dL_law_1774 : decode cL_law 1774 = .ok (.iconst 3, 1) := by decide +kernel
theorem dL_law_1775 : decode cL_law 1775 = .ok (.iadd, 1) := by decide +kernel
theorem dL_law_1776 : decode cL_law 1776 = .ok (.iaload, 1) := by decide +kernel
theorem dL_law_1777 : decode cL_law 1777 = .ok (.aload_n 0, 1) := by decide +kernel
theorem dL_law_1778 : decode cL_law 1778 = .ok (.iload 4, 2) := by decide +kernel
theorem dL_law_1780 : decode cL_law 1780 = .ok (.iconst 4, 1) := by decide +kernel
theorem dL_law_1781 : decode cL_law 1781 = .ok (.iadd, 1) := by decide +kernel
theorem dL_law_1782 : decode cL_law 1782 = .ok (.iaload, 1) := by decide +kernel
theorem dL_law_1783 : decode cL_law 1783 = .ok (.aload_n 0, 1) := by decide +kernel
theorem dL_law_1784 : decode cL_law 1784 = .ok (.iload 4, 2) := by decide +kernel
theorem dL_law_1786 : decode cL_law 1786 = .ok (.iconst 5, 1) := by decide +kernel
theorem dL_law_1787 : decode cL_law 1787 = .ok (.iadd, 1) := by decide +kernel
theorem dL_law_1788 : decode cL_law 1788 = .ok (.iaload, 1) := by decide +kernel
theorem dL_law_1789 : decode cL_law 1789 = .ok (.aload_n 0, 1) := by decide +kernel
theorem dL_law_1790 : decode cL_law 1790 = .ok (.iload 4, 2) := by decide +kernel
theorem dL_law_1792 : decode cL_law 1792 = .ok (.bipush 6, 2) := by decide +kernel
theorem dL_law_1794 : decode cL_law 1794 = .ok (.iadd, 1) := by decide +kernel
theorem dL_law_1795 : decode cL_law 1795 = .ok (.iaload, 1) := by decide +kernel
theorem dL_law_1796 : decode cL_law 1796 = .ok (.aload_n 3, 1) := by decide +kernel
theorem dL_law_1797 : decode cL_law 1797 = .ok (.invokestatic 222, 3) := by decide +kernel
theorem dL_law_1800 : decode cL_law 1800 = .ok (.istore 5, 2) := by decide +kernel
theorem dL_law_1802 : decode cL_law 1802 = .ok (.aload_n 2, 1) := by decide +kernel
theorem dL_law_1803 : decode cL_law 1803 = .ok (.aload_n 0, 1) := by decide +kernel
theorem dL_law_1804 : decode cL_law 1804 = .ok (.iload 4, 2) := by decide +kernel
theorem dL_law_1806 : decode cL_law 1806 = .ok (.iconst 1, 1) := by decide +kernel
theorem dL_law_1807 : decode cL_law 1807 = .ok (.iadd, 1) := by decide +kernel
theorem dL_law_1808 : decode cL_law 1808 = .ok (.iaload, 1) := by decide +kernel
theorem dL_law_1809 : decode cL_law 1809 = .ok (.aload_n 0, 1) := by decide +kernel
theorem dL_law_1810 : decode cL_law 1810 = .ok (.iload 4, 2) := by decide +kernel
theorem dL_law_1812 : decode cL_law 1812 = .ok (.iconst 2, 1) := by decide +kernel
theorem dL_law_1813 : decode cL_law 1813 = .ok (.iadd, 1) := by decide +kernel
theorem dL_law_1814 : decode cL_law 1814 = .ok (.iaload, 1) := by decide +kernel
theorem dL_law_1815 : decode cL_law 1815 = .ok (.aload_n 0, 1) := by decide +kernel
theorem dL_law_1816 : decode cL_law 1816 = .ok (.iload 4, 2) := by decide +kernel
theorem dL_law_1818 : decode cL_law 1818 = .ok (.iconst 3, 1) := by decide +kernel
theorem dL_law_1819 : decode cL_law 1819 = .ok (.iadd, 1) := by decide +kernel
theorem dL_law_1820 : decode cL_law 1820 = .ok (.iaload, 1) := by decide +kernel
theorem dL_law_1821 : decode cL_law 1821 = .ok (.aload_n 0, 1) := by decide +kernel
theorem dL_law_1822 : decode cL_law 1822 = .ok (.iload 4, 2) := by decide +kernel
theorem dL_law_1824 : decode cL_law 1824 = .ok (.iconst 4, 1) := by decide +kernel
theorem dL_law_1825 : decode cL_law 1825 = .ok (.iadd, 1) := by decide +kernel
theorem dL_law_1826 : decode cL_law 1826 = .ok (.iaload, 1) := by decide +kernel
theorem dL_law_1827 : decode cL_law 1827 = .ok (.aload_n 0, 1) := by decide +kernel
theorem dL_law_1828 : decode cL_law 1828 = .ok (.iload 4, 2) := by decide +kernel
theorem dL_law_1830 : decode cL_law 1830 = .ok (.iconst 5, 1) := by decide +kernel
theorem dL_law_1831 : decode cL_law 1831 = .ok (.iadd, 1) := by decide +kernel
theorem dL_law_1832 : decode cL_law 1832 = .ok (.iaload, 1) := by decide +kernel
theorem dL_law_1833 : decode cL_law 1833 = .ok (.aload_n 0, 1) := by decide +kernel
theorem dL_law_1834 : decode cL_law 1834 = .ok (.iload 4, 2) := by decide +kernel
theorem dL_law_1836 : decode cL_law 1836 = .ok (.bipush 6, 2) := by decide +kernel
theorem dL_law_1838 : decode cL_law 1838 = .ok (.iadd, 1) := by decide +kernel
theorem dL_law_1839 : decode cL_law 1839 = .ok (.iaload, 1) := by decide +kernel
theorem dL_law_1840 : decode cL_law 1840 = .ok (.invokevirtual 225, 3) := by decide +kernel
theorem dL_law_1843 : decode cL_law 1843 = .ok (.istore 6, 2) := by decide +kernel
theorem dL_law_1845 : decode cL_law 1845 = .ok (.aload_n 2, 1) := by decide +kernel
theorem dL_law_1846 : decode cL_law 1846 = .ok (.invokevirtual 152, 3) := by decide +kernel
theorem dL_law_1849 : decode cL_law 1849 = .ok (.iload 5, 2) := by decide +kernel
theorem dL_law_1851 : decode cL_law 1851 = .ok (.if_icmp .eq 5, 3) := by decide +kernel
theorem dL_law_1854 : decode cL_law 1854 = .ok (.iconst 0, 1) := by decide +kernel
theorem dL_law_1855 : decode cL_law 1855 = .ok (.ireturn, 1) := by decide +kernel
theorem dL_law_1856 : decode cL_law 1856 = .ok (.iload 5, 2) := by decide +kernel
theorem dL_law_1858 : decode cL_law 1858 = .ok (.ifCond .ne 15, 3) := by decide +kernel
theorem dL_law_1861 : decode cL_law 1861 = .ok (.aload_n 3, 1) := by decide +kernel
theorem dL_law_1862 : decode cL_law 1862 = .ok (.iconst 0, 1) := by decide +kernel
theorem dL_law_1863 : decode cL_law 1863 = .ok (.laload, 1) := by decide +kernel
theorem dL_law_1864 : decode cL_law 1864 = .ok (.iload 6, 2) := by decide +kernel
theorem dL_law_1866 : decode cL_law 1866 = .ok (.i2l, 1) := by decide +kernel
theorem dL_law_1867 : decode cL_law 1867 = .ok (.lcmp, 1) := by decide +kernel
theorem dL_law_1868 : decode cL_law 1868 = .ok (.ifCond .eq 5, 3) := by decide +kernel
theorem dL_law_1871 : decode cL_law 1871 = .ok (.iconst 0, 1) := by decide +kernel
theorem dL_law_1872 : decode cL_law 1872 = .ok (.ireturn, 1) := by decide +kernel
theorem dL_law_1873 : decode cL_law 1873 = .ok (.goto 1203, 3) := by decide +kernel
theorem dL_law_1876 : decode cL_law 1876 = .ok (.aload_n 1, 1) := by decide +kernel
theorem dL_law_1877 : decode cL_law 1877 = .ok (.aload_n 0, 1) := by decide +kernel
theorem dL_law_1878 : decode cL_law 1878 = .ok (.iload 4, 2) := by decide +kernel
theorem dL_law_1880 : decode cL_law 1880 = .ok (.iconst 1, 1) := by decide +kernel
theorem dL_law_1881 : decode cL_law 1881 = .ok (.iadd, 1) := by decide +kernel
theorem dL_law_1882 : decode cL_law 1882 = .ok (.iaload, 1) := by decide +kernel
theorem dL_law_1883 : decode cL_law 1883 = .ok (.aload_n 0, 1) := by decide +kernel
theorem dL_law_1884 : decode cL_law 1884 = .ok (.iload 4, 2) := by decide +kernel
theorem dL_law_1886 : decode cL_law 1886 = .ok (.iconst 2, 1) := by decide +kernel
theorem dL_law_1887 : decode cL_law 1887 = .ok (.iadd, 1) := by decide +kernel
theorem dL_law_1888 : decode cL_law 1888 = .ok (.iaload, 1) := by decide +kernel
theorem dL_law_1889 : decode cL_law 1889 = .ok (.aload_n 0, 1) := by decide +kernel
theorem dL_law_1890 : decode cL_law 1890 = .ok (.iload 4, 2) := by decide +kernel
theorem dL_law_1892 : decode cL_law 1892 = .ok (.iconst 3, 1) := by decide +kernel
theorem dL_law_1893 : decode cL_law 1893 = .ok (.iadd, 1) := by decide +kernel
theorem dL_law_1894 : decode cL_law 1894 = .ok (.iaload, 1) := by decide +kernel
theorem dL_law_1895 : decode cL_law 1895 = .ok (.aload_n 0, 1) := by decide +kernel
theorem dL_law_1896 : decode cL_law 1896 = .ok (.iload 4, 2) := by decide +kernel
theorem dL_law_1898 : decode cL_law 1898 = .ok (.iconst 4, 1) := by decide +kernel
theorem dL_law_1899 : decode cL_law 1899 = .ok (.iadd, 1) := by decide +kernel
theorem dL_law_1900 : decode cL_law 1900 = .ok (.iaload, 1) := by decide +kernel
theorem dL_law_1901 : decode cL_law 1901 = .ok (.ifCond .eq 7, 3) := by decide +kernel
theorem dL_law_1904 : decode cL_law 1904 = .ok (.iconst 1, 1) := by decide +kernel
theorem dL_law_1905 : decode cL_law 1905 = .ok (.goto 4, 3) := by decide +kernel
theorem dL_law_1908 : decode cL_law 1908 = .ok (.iconst 0, 1) := by decide +kernel
theorem dL_law_1909 : decode cL_law 1909 = .ok (.aload_n 3, 1) := by decide +kernel
theorem dL_law_1910 : decode cL_law 1910 = .ok (.invokestatic 226, 3) := by decide +kernel
theorem dL_law_1913 : decode cL_law 1913 = .ok (.istore 5, 2) := by decide +kernel
theorem dL_law_1915 : decode cL_law 1915 = .ok (.aload_n 2, 1) := by decide +kernel
theorem dL_law_1916 : decode cL_law 1916 = .ok (.aload_n 0, 1) := by decide +kernel
theorem dL_law_1917 : decode cL_law 1917 = .ok (.iload 4, 2) := by decide +kernel
theorem dL_law_1919 : decode cL_law 1919 = .ok (.iconst 1, 1) := by decide +kernel
theorem dL_law_1920 : decode cL_law 1920 = .ok (.iadd, 1) := by decide +kernel
theorem dL_law_1921 : decode cL_law 1921 = .ok (.iaload, 1) := by decide +kernel
theorem dL_law_1922 : decode cL_law 1922 = .ok (.aload_n 0, 1) := by decide +kernel
theorem dL_law_1923 : decode cL_law 1923 = .ok (.iload 4, 2) := by decide +kernel
theorem dL_law_1925 : decode cL_law 1925 = .ok (.iconst 2, 1) := by decide +kernel
theorem dL_law_1926 : decode cL_law 1926 = .ok (.iadd, 1) := by decide +kernel
theorem dL_law_1927 : decode cL_law 1927 = .ok (.iaload, 1) := by decide +kernel
theorem dL_law_1928 : decode cL_law 1928 = .ok (.aload_n 0, 1) := by decide +kernel
theorem dL_law_1929 : decode cL_law 1929 = .ok (.iload 4, 2) := by decide +kernel
theorem dL_law_1931 : decode cL_law 1931 = .ok (.iconst 3, 1) := by decide +kernel
theorem dL_law_1932 : decode cL_law 1932 = .ok (.iadd, 1) := by decide +kernel
theorem dL_law_1933 : decode cL_law 1933 = .ok (.iaload, 1) := by decide +kernel
theorem dL_law_1934 : decode cL_law 1934 = .ok (.aload_n 0, 1) := by decide +kernel
theorem dL_law_1935 : decode cL_law 1935 = .ok (.iload 4, 2) := by decide +kernel
theorem dL_law_1937 : decode cL_law 1937 = .ok (.iconst 4, 1) := by decide +kernel
theorem dL_law_1938 : decode cL_law 1938 = .ok (.iadd, 1) := by decide +kernel
theorem dL_law_1939 : decode cL_law 1939 = .ok (.iaload, 1) := by decide +kernel
theorem dL_law_1940 : decode cL_law 1940 = .ok (.ifCond .eq 7, 3) := by decide +kernel
theorem dL_law_1943 : decode cL_law 1943 = .ok (.iconst 1, 1) := by decide +kernel
theorem dL_law_1944 : decode cL_law 1944 = .ok (.goto 4, 3) := by decide +kernel
theorem dL_law_1947 : decode cL_law 1947 = .ok (.iconst 0, 1) := by decide +kernel
theorem dL_law_1948 : decode cL_law 1948 = .ok (.invokevirtual 229, 3) := by decide +kernel
theorem dL_law_1951 : decode cL_law 1951 = .ok (.istore 6, 2) := by decide +kernel
theorem dL_law_1953 : decode cL_law 1953 = .ok (.aload_n 2, 1) := by decide +kernel
theorem dL_law_1954 : decode cL_law 1954 = .ok (.invokevirtual 152, 3) := by decide +kernel
theorem dL_law_1957 : decode cL_law 1957 = .ok (.iload 5, 2) := by decide +kernel
theorem dL_law_1959 : decode cL_law 1959 = .ok (.if_icmp .eq 5, 3) := by decide +kernel
theorem dL_law_1962 : decode cL_law 1962 = .ok (.iconst 0, 1) := by decide +kernel
theorem dL_law_1963 : decode cL_law 1963 = .ok (.ireturn, 1) := by decide +kernel
theorem dL_law_1964 : decode cL_law 1964 = .ok (.iload 5, 2) := by decide +kernel
theorem dL_law_1966 : decode cL_law 1966 = .ok (.ifCond .ne 15, 3) := by decide +kernel
theorem dL_law_1969 : decode cL_law 1969 = .ok (.aload_n 3, 1) := by decide +kernel
theorem dL_law_1970 : decode cL_law 1970 = .ok (.iconst 0, 1) := by decide +kernel
theorem dL_law_1971 : decode cL_law 1971 = .ok (.laload, 1) := by decide +kernel
theorem dL_law_1972 : decode cL_law 1972 = .ok (.iload 6, 2) := by decide +kernel
theorem dL_law_1974 : decode cL_law 1974 = .ok (.i2l, 1) := by decide +kernel
theorem dL_law_1975 : decode cL_law 1975 = .ok (.lcmp, 1) := by decide +kernel
theorem dL_law_1976 : decode cL_law 1976 = .ok (.ifCond .eq 5, 3) := by decide +kernel
theorem dL_law_1979 : decode cL_law 1979 = .ok (.iconst 0, 1) := by decide +kernel
theorem dL_law_1980 : decode cL_law 1980 = .ok (.ireturn, 1) := by decide +kernel
theorem dL_law_1981 : decode cL_law 1981 = .ok (.goto 1095, 3) := by decide +kernel
theorem dL_law_1984 : decode cL_law 1984 = .ok (.aload_n 1, 1) := by decide +kernel
theorem dL_law_1985 : decode cL_law 1985 = .ok (.aload_n 0, 1) := by decide +kernel
theorem dL_law_1986 : decode cL_law 1986 = .ok (.iload 4, 2) := by decide +kernel
theorem dL_law_1988 : decode cL_law 1988 = .ok (.iconst 1, 1) := by decide +kernel
theorem dL_law_1989 : decode cL_law 1989 = .ok (.iadd, 1) := by decide +kernel
theorem dL_law_1990 : decode cL_law 1990 = .ok (.iaload, 1) := by decide +kernel
theorem dL_law_1991 : decode cL_law 1991 = .ok (.aload_n 3, 1) := by decide +kernel
theorem dL_law_1992 : decode cL_law 1992 = .ok (.invokestatic 230, 3) := by decide +kernel
theorem dL_law_1995 : decode cL_law 1995 = .ok (.istore 5, 2) := by decide +kernel
theorem dL_law_1997 : decode cL_law 1997 = .ok (.aload_n 2, 1) := by decide +kernel
theorem dL_law_1998 : decode cL_law 1998 = .ok (.aload_n 0, 1) := by decide +kernel
theorem dL_law_1999 : decode cL_law 1999 = .ok (.iload 4, 2) := by decide +kernel
theorem dL_law_2001 : decode cL_law 2001 = .ok (.iconst 1, 1) := by decide +kernel
theorem dL_law_2002 : decode cL_law 2002 = .ok (.iadd, 1) := by decide +kernel
theorem dL_law_2003 : decode cL_law 2003 = .ok (.iaload, 1) := by decide +kernel
theorem dL_law_2004 : decode cL_law 2004 = .ok (.invokevirtual 232, 3) := by decide +kernel
theorem dL_law_2007 : decode cL_law 2007 = .ok (.istore 6, 2) := by decide +kernel
theorem dL_law_2009 : decode cL_law 2009 = .ok (.aload_n 2, 1) := by decide +kernel
theorem dL_law_2010 : decode cL_law 2010 = .ok (.invokevirtual 152, 3) := by decide +kernel
theorem dL_law_2013 : decode cL_law 2013 = .ok (.iload 5, 2) := by decide +kernel
theorem dL_law_2015 : decode cL_law 2015 = .ok (.if_icmp .eq 5, 3) := by decide +kernel
theorem dL_law_2018 : decode cL_law 2018 = .ok (.iconst 0, 1) := by decide +kernel
theorem dL_law_2019 : decode cL_law 2019 = .ok (.ireturn, 1) := by decide +kernel
theorem dL_law_2020 : decode cL_law 2020 = .ok (.iload 5, 2) := by decide +kernel
theorem dL_law_2022 : decode cL_law 2022 = .ok (.ifCond .ne 15, 3) := by decide +kernel
theorem dL_law_2025 : decode cL_law 2025 = .ok (.aload_n 3, 1) := by decide +kernel
theorem dL_law_2026 : decode cL_law 2026 = .ok (.iconst 0, 1) := by decide +kernel
theorem dL_law_2027 : decode cL_law 2027 = .ok (.laload, 1) := by decide +kernel
theorem dL_law_2028 : decode cL_law 2028 = .ok (.iload 6, 2) := by decide +kernel
theorem dL_law_2030 : decode cL_law 2030 = .ok (.i2l, 1) := by decide +kernel
theorem dL_law_2031 : decode cL_law 2031 = .ok (.lcmp, 1) := by decide +kernel
theorem dL_law_2032 : decode cL_law 2032 = .ok (.ifCond .eq 5, 3) := by decide +kernel
theorem dL_law_2035 : decode cL_law 2035 = .ok (.iconst 0, 1) := by decide +kernel
theorem dL_law_2036 : decode cL_law 2036 = .ok (.ireturn, 1) := by decide +kernel
theorem dL_law_2037 : decode cL_law 2037 = .ok (.goto 1039, 3) := by decide +kernel
theorem dL_law_2040 : decode cL_law 2040 = .ok (.aload_n 1, 1) := by decide +kernel
theorem dL_law_2041 : decode cL_law 2041 = .ok (.aload_n 0, 1) := by decide +kernel
theorem dL_law_2042 : decode cL_law 2042 = .ok (.iload 4, 2) := by decide +kernel
theorem dL_law_2044 : decode cL_law 2044 = .ok (.iconst 1, 1) := by decide +kernel
theorem dL_law_2045 : decode cL_law 2045 = .ok (.iadd, 1) := by decide +kernel
theorem dL_law_2046 : decode cL_law 2046 = .ok (.iaload, 1) := by decide +kernel
theorem dL_law_2047 : decode cL_law 2047 = .ok (.aload_n 0, 1) := by decide +kernel
theorem dL_law_2048 : decode cL_law 2048 = .ok (.iload 4, 2) := by decide +kernel
theorem dL_law_2050 : decode cL_law 2050 = .ok (.iconst 2, 1) := by decide +kernel
theorem dL_law_2051 : decode cL_law 2051 = .ok (.iadd, 1) := by decide +kernel
theorem dL_law_2052 : decode cL_law 2052 = .ok (.iaload, 1) := by decide +kernel
theorem dL_law_2053 : decode cL_law 2053 = .ok (.aload_n 0, 1) := by decide +kernel
theorem dL_law_2054 : decode cL_law 2054 = .ok (.iload 4, 2) := by decide +kernel
theorem dL_law_2056 : decode cL_law 2056 = .ok (.iconst 3, 1) := by decide +kernel
theorem dL_law_2057 : decode cL_law 2057 = .ok (.iadd, 1) := by decide +kernel
theorem dL_law_2058 : decode cL_law 2058 = .ok (.iaload, 1) := by decide +kernel
theorem dL_law_2059 : decode cL_law 2059 = .ok (.aload_n 0, 1) := by decide +kernel
theorem dL_law_2060 : decode cL_law 2060 = .ok (.iload 4, 2) := by decide +kernel
theorem dL_law_2062 : decode cL_law 2062 = .ok (.iconst 4, 1) := by decide +kernel
theorem dL_law_2063 : decode cL_law 2063 = .ok (.iadd, 1) := by decide +kernel
theorem dL_law_2064 : decode cL_law 2064 = .ok (.iaload, 1) := by decide +kernel
theorem dL_law_2065 : decode cL_law 2065 = .ok (.aload_n 3, 1) := by decide +kernel
theorem dL_law_2066 : decode cL_law 2066 = .ok (.invokestatic 233, 3) := by decide +kernel
theorem dL_law_2069 : decode cL_law 2069 = .ok (.istore 5, 2) := by decide +kernel
theorem dL_law_2071 : decode cL_law 2071 = .ok (.aload_n 2, 1) := by decide +kernel
theorem dL_law_2072 : decode cL_law 2072 = .ok (.aload_n 0, 1) := by decide +kernel
theorem dL_law_2073 : decode cL_law 2073 = .ok (.iload 4, 2) := by decide +kernel
theorem dL_law_2075 : decode cL_law 2075 = .ok (.iconst 1, 1) := by decide +kernel
theorem dL_law_2076 : decode cL_law 2076 = .ok (.iadd, 1) := by decide +kernel
theorem dL_law_2077 : decode cL_law 2077 = .ok (.iaload, 1) := by decide +kernel
theorem dL_law_2078 : decode cL_law 2078 = .ok (.aload_n 0, 1) := by decide +kernel
theorem dL_law_2079 : decode cL_law 2079 = .ok (.iload 4, 2) := by decide +kernel
theorem dL_law_2081 : decode cL_law 2081 = .ok (.iconst 2, 1) := by decide +kernel
theorem dL_law_2082 : decode cL_law 2082 = .ok (.iadd, 1) := by decide +kernel
theorem dL_law_2083 : decode cL_law 2083 = .ok (.iaload, 1) := by decide +kernel
theorem dL_law_2084 : decode cL_law 2084 = .ok (.aload_n 0, 1) := by decide +kernel
theorem dL_law_2085 : decode cL_law 2085 = .ok (.iload 4, 2) := by decide +kernel
theorem dL_law_2087 : decode cL_law 2087 = .ok (.iconst 3, 1) := by decide +kernel
theorem dL_law_2088 : decode cL_law 2088 = .ok (.iadd, 1) := by decide +kernel
theorem dL_law_2089 : decode cL_law 2089 = .ok (.iaload, 1) := by decide +kernel
theorem dL_law_2090 : decode cL_law 2090 = .ok (.aload_n 0, 1) := by decide +kernel
theorem dL_law_2091 : decode cL_law 2091 = .ok (.iload 4, 2) := by decide +kernel
theorem dL_law_2093 : decode cL_law 2093 = .ok (.iconst 4, 1) := by decide +kernel
theorem dL_law_2094 : decode cL_law 2094 = .ok (.iadd, 1) := by decide +kernel
theorem dL_law_2095 : decode cL_law 2095 = .ok (.iaload, 1) := by decide +kernel
theorem dL_law_2096 : decode cL_law 2096 = .ok (.invokevirtual 235, 3) := by decide +kernel
theorem dL_law_2099 : decode cL_law 2099 = .ok (.istore 6, 2) := by decide +kernel
theorem dL_law_2101 : decode cL_law 2101 = .ok (.aload_n 2, 1) := by decide +kernel
theorem dL_law_2102 : decode cL_law 2102 = .ok (.invokevirtual 152, 3) := by decide +kernel
theorem dL_law_2105 : decode cL_law 2105 = .ok (.iload 5, 2) := by decide +kernel
theorem dL_law_2107 : decode cL_law 2107 = .ok (.if_icmp .eq 5, 3) := by decide +kernel
theorem dL_law_2110 : decode cL_law 2110 = .ok (.iconst 0, 1) := by decide +kernel
theorem dL_law_2111 : decode cL_law 2111 = .ok (.ireturn, 1) := by decide +kernel
theorem dL_law_2112 : decode cL_law 2112 = .ok (.iload 5, 2) := by decide +kernel
theorem dL_law_2114 : decode cL_law 2114 = .ok (.ifCond .ne 15, 3) := by decide +kernel
theorem dL_law_2117 : decode cL_law 2117 = .ok (.aload_n 3, 1) := by decide +kernel
theorem dL_law_2118 : decode cL_law 2118 = .ok (.iconst 0, 1) := by decide +kernel
theorem dL_law_2119 : decode cL_law 2119 = .ok (.laload, 1) := by decide +kernel
theorem dL_law_2120 : decode cL_law 2120 = .ok (.iload 6, 2) := by decide +kernel
theorem dL_law_2122 : decode cL_law 2122 = .ok (.i2l, 1) := by decide +kernel
theorem dL_law_2123 : decode cL_law 2123 = .ok (.lcmp, 1) := by decide +kernel
theorem dL_law_2124 : decode cL_law 2124 = .ok (.ifCond .eq 5, 3) := by decide +kernel
theorem dL_law_2127 : decode cL_law 2127 = .ok (.iconst 0, 1) := by decide +kernel
theorem dL_law_2128 : decode cL_law 2128 = .ok (.ireturn, 1) := by decide +kernel
theorem dL_law_2129 : decode cL_law 2129 = .ok (.goto 947, 3) := by decide +kernel
theorem dL_law_2132 : decode cL_law 2132 = .ok (.aload_n 1, 1) := by decide +kernel
theorem dL_law_2133 : decode cL_law 2133 = .ok (.aload_n 0, 1) := by decide +kernel
theorem dL_law_2134 : decode cL_law 2134 = .ok (.iload 4, 2) := by decide +kernel
theorem dL_law_2136 : decode cL_law 2136 = .ok (.iconst 1, 1) := by decide +kernel
theorem dL_law_2137 : decode cL_law 2137 = .ok (.iadd, 1) := by decide +kernel
theorem dL_law_2138 : decode cL_law 2138 = .ok (.iaload, 1) := by decide +kernel
theorem dL_law_2139 : decode cL_law 2139 = .ok (.aload_n 0, 1) := by decide +kernel
theorem dL_law_2140 : decode cL_law 2140 = .ok (.iload 4, 2) := by decide +kernel
theorem dL_law_2142 : decode cL_law 2142 = .ok (.iconst 2, 1) := by decide +kernel
theorem dL_law_2143 : decode cL_law 2143 = .ok (.iadd, 1) := by decide +kernel
theorem dL_law_2144 : decode cL_law 2144 = .ok (.iaload, 1) := by decide +kernel
theorem dL_law_2145 : decode cL_law 2145 = .ok (.aload_n 0, 1) := by decide +kernel
theorem dL_law_2146 : decode cL_law 2146 = .ok (.iload 4, 2) := by decide +kernel
theorem dL_law_2148 : decode cL_law 2148 = .ok (.iconst 3, 1) := by decide +kernel
theorem dL_law_2149 : decode cL_law 2149 = .ok (.iadd, 1) := by decide +kernel
theorem dL_law_2150 : decode cL_law 2150 = .ok (.iaload, 1) := by decide +kernel
theorem dL_law_2151 : decode cL_law 2151 = .ok (.aload_n 3, 1) := by decide +kernel
theorem dL_law_2152 : decode cL_law 2152 = .ok (.invokestatic 236, 3) := by decide +kernel
theorem dL_law_2155 : decode cL_law 2155 = .ok (.istore 5, 2) := by decide +kernel
theorem dL_law_2157 : decode cL_law 2157 = .ok (.aload_n 2, 1) := by decide +kernel
theorem dL_law_2158 : decode cL_law 2158 = .ok (.aload_n 0, 1) := by decide +kernel
theorem dL_law_2159 : decode cL_law 2159 = .ok (.iload 4, 2) := by decide +kernel
theorem dL_law_2161 : decode cL_law 2161 = .ok (.iconst 1, 1) := by decide +kernel
theorem dL_law_2162 : decode cL_law 2162 = .ok (.iadd, 1) := by decide +kernel
theorem dL_law_2163 : decode cL_law 2163 = .ok (.iaload, 1) := by decide +kernel
theorem dL_law_2164 : decode cL_law 2164 = .ok (.aload_n 0, 1) := by decide +kernel
theorem dL_law_2165 : decode cL_law 2165 = .ok (.iload 4, 2) := by decide +kernel
theorem dL_law_2167 : decode cL_law 2167 = .ok (.iconst 2, 1) := by decide +kernel
theorem dL_law_2168 : decode cL_law 2168 = .ok (.iadd, 1) := by decide +kernel
theorem dL_law_2169 : decode cL_law 2169 = .ok (.iaload, 1) := by decide +kernel
theorem dL_law_2170 : decode cL_law 2170 = .ok (.aload_n 0, 1) := by decide +kernel
theorem dL_law_2171 : decode cL_law 2171 = .ok (.iload 4, 2) := by decide +kernel
theorem dL_law_2173 : decode cL_law 2173 = .ok (.iconst 3, 1) := by decide +kernel
theorem dL_law_2174 : decode cL_law 2174 = .ok (.iadd, 1) := by decide +kernel
theorem dL_law_2175 : decode cL_law 2175 = .ok (.iaload, 1) := by decide +kernel
theorem dL_law_2176 : decode cL_law 2176 = .ok (.invokevirtual 238, 3) := by decide +kernel
theorem dL_law_2179 : decode cL_law 2179 = .ok (.istore 6, 2) := by decide +kernel
theorem dL_law_2181 : decode cL_law 2181 = .ok (.aload_n 2, 1) := by decide +kernel
theorem dL_law_2182 : decode cL_law 2182 = .ok (.invokevirtual 152, 3) := by decide +kernel
theorem dL_law_2185 : decode cL_law 2185 = .ok (.iload 5, 2) := by decide +kernel
theorem dL_law_2187 : decode cL_law 2187 = .ok (.if_icmp .eq 5, 3) := by decide +kernel
theorem dL_law_2190 : decode cL_law 2190 = .ok (.iconst 0, 1) := by decide +kernel
theorem dL_law_2191 : decode cL_law 2191 = .ok (.ireturn, 1) := by decide +kernel
theorem dL_law_2192 : decode cL_law 2192 = .ok (.iload 5, 2) := by decide +kernel
theorem dL_law_2194 : decode cL_law 2194 = .ok (.ifCond .ne 15, 3) := by decide +kernel
theorem dL_law_2197 : decode cL_law 2197 = .ok (.aload_n 3, 1) := by decide +kernel
theorem dL_law_2198 : decode cL_law 2198 = .ok (.iconst 0, 1) := by decide +kernel
theorem dL_law_2199 : decode cL_law 2199 = .ok (.laload, 1) := by decide +kernel
theorem dL_law_2200 : decode cL_law 2200 = .ok (.iload 6, 2) := by decide +kernel
theorem dL_law_2202 : decode cL_law 2202 = .ok (.i2l, 1) := by decide +kernel
theorem dL_law_2203 : decode cL_law 2203 = .ok (.lcmp, 1) := by decide +kernel
theorem dL_law_2204 : decode cL_law 2204 = .ok (.ifCond .eq 5, 3) := by decide +kernel
theorem dL_law_2207 : decode cL_law 2207 = .ok (.iconst 0, 1) := by decide +kernel
theorem dL_law_2208 : decode cL_law 2208 = .ok (.ireturn, 1) := by decide +kernel
theorem dL_law_2209 : decode cL_law 2209 = .ok (.goto 867, 3) := by decide +kernel
theorem dL_law_2212 : decode cL_law 2212 = .ok (.aload_n 1, 1) := by decide +kernel
theorem dL_law_2213 : decode cL_law 2213 = .ok (.aload_n 0, 1) := by decide +kernel
theorem dL_law_2214 : decode cL_law 2214 = .ok (.iload 4, 2) := by decide +kernel
theorem dL_law_2216 : decode cL_law 2216 = .ok (.iconst 1, 1) := by decide +kernel
theorem dL_law_2217 : decode cL_law 2217 = .ok (.iadd, 1) := by decide +kernel
theorem dL_law_2218 : decode cL_law 2218 = .ok (.iaload, 1) := by decide +kernel
theorem dL_law_2219 : decode cL_law 2219 = .ok (.aload_n 0, 1) := by decide +kernel
theorem dL_law_2220 : decode cL_law 2220 = .ok (.iload 4, 2) := by decide +kernel
theorem dL_law_2222 : decode cL_law 2222 = .ok (.iconst 2, 1) := by decide +kernel
theorem dL_law_2223 : decode cL_law 2223 = .ok (.iadd, 1) := by decide +kernel
theorem dL_law_2224 : decode cL_law 2224 = .ok (.iaload, 1) := by decide +kernel
theorem dL_law_2225 : decode cL_law 2225 = .ok (.aload_n 3, 1) := by decide +kernel
theorem dL_law_2226 : decode cL_law 2226 = .ok (.invokestatic 239, 3) := by decide +kernel
theorem dL_law_2229 : decode cL_law 2229 = .ok (.istore 5, 2) := by decide +kernel
theorem dL_law_2231 : decode cL_law 2231 = .ok (.aload_n 2, 1) := by decide +kernel
theorem dL_law_2232 : decode cL_law 2232 = .ok (.aload_n 0, 1) := by decide +kernel
theorem dL_law_2233 : decode cL_law 2233 = .ok (.iload 4, 2) := by decide +kernel
theorem dL_law_2235 : decode cL_law 2235 = .ok (.iconst 1, 1) := by decide +kernel
theorem dL_law_2236 : decode cL_law 2236 = .ok (.iadd, 1) := by decide +kernel
theorem dL_law_2237 : decode cL_law 2237 = .ok (.iaload, 1) := by decide +kernel
theorem dL_law_2238 : decode cL_law 2238 = .ok (.aload_n 0, 1) := by decide +kernel
theorem dL_law_2239 : decode cL_law 2239 = .ok (.iload 4, 2) := by decide +kernel
theorem dL_law_2241 : decode cL_law 2241 = .ok (.iconst 2, 1) := by decide +kernel
theorem dL_law_2242 : decode cL_law 2242 = .ok (.iadd, 1) := by decide +kernel
theorem dL_law_2243 : decode cL_law 2243 = .ok (.iaload, 1) := by decide +kernel
theorem dL_law_2244 : decode cL_law 2244 = .ok (.invokevirtual 241, 3) := by decide +kernel
theorem dL_law_2247 : decode cL_law 2247 = .ok (.istore 6, 2) := by decide +kernel
theorem dL_law_2249 : decode cL_law 2249 = .ok (.aload_n 2, 1) := by decide +kernel
theorem dL_law_2250 : decode cL_law 2250 = .ok (.invokevirtual 152, 3) := by decide +kernel
theorem dL_law_2253 : decode cL_law 2253 = .ok (.iload 5, 2) := by decide +kernel
theorem dL_law_2255 : decode cL_law 2255 = .ok (.if_icmp .eq 5, 3) := by decide +kernel
theorem dL_law_2258 : decode cL_law 2258 = .ok (.iconst 0, 1) := by decide +kernel
theorem dL_law_2259 : decode cL_law 2259 = .ok (.ireturn, 1) := by decide +kernel
theorem dL_law_2260 : decode cL_law 2260 = .ok (.iload 5, 2) := by decide +kernel
theorem dL_law_2262 : decode cL_law 2262 = .ok (.ifCond .ne 15, 3) := by decide +kernel
theorem dL_law_2265 : decode cL_law 2265 = .ok (.aload_n 3, 1) := by decide +kernel
theorem dL_law_2266 : decode cL_law 2266 = .ok (.iconst 0, 1) := by decide +kernel
theorem dL_law_2267 : decode cL_law 2267 = .ok (.laload, 1) := by decide +kernel
theorem dL_law_2268 : decode cL_law 2268 = .ok (.iload 6, 2) := by decide +kernel
theorem dL_law_2270 : decode cL_law 2270 = .ok (.i2l, 1) := by decide +kernel
theorem dL_law_2271 : decode cL_law 2271 = .ok (.lcmp, 1) := by decide +kernel
theorem dL_law_2272 : decode cL_law 2272 = .ok (.ifCond .eq 5, 3) := by decide +kernel
theorem dL_law_2275 : decode cL_law 2275 = .ok (.iconst 0, 1) := by decide +kernel
theorem dL_law_2276 : decode cL_law 2276 = .ok (.ireturn, 1) := by decide +kernel
theorem dL_law_2277 : decode cL_law 2277 = .ok (.goto 799, 3) := by decide +kernel
theorem dL_law_2280 : decode cL_law 2280 = .ok (.aload_n 1, 1) := by decide +kernel
theorem dL_law_2281 : decode cL_law 2281 = .ok (.aload_n 0, 1) := by decide +kernel
theorem dL_law_2282 : decode cL_law 2282 = .ok (.iload 4, 2) := by decide +kernel
theorem dL_law_2284 : decode cL_law 2284 = .ok (.iconst 1, 1) := by decide +kernel
theorem dL_law_2285 : decode cL_law 2285 = .ok (.iadd, 1) := by decide +kernel
theorem dL_law_2286 : decode cL_law 2286 = .ok (.iaload, 1) := by decide +kernel
theorem dL_law_2287 : decode cL_law 2287 = .ok (.aload_n 0, 1) := by decide +kernel
theorem dL_law_2288 : decode cL_law 2288 = .ok (.iload 4, 2) := by decide +kernel
theorem dL_law_2290 : decode cL_law 2290 = .ok (.iconst 2, 1) := by decide +kernel
theorem dL_law_2291 : decode cL_law 2291 = .ok (.iadd, 1) := by decide +kernel
theorem dL_law_2292 : decode cL_law 2292 = .ok (.iaload, 1) := by decide +kernel
theorem dL_law_2293 : decode cL_law 2293 = .ok (.aload_n 3, 1) := by decide +kernel
theorem dL_law_2294 : decode cL_law 2294 = .ok (.invokestatic 242, 3) := by decide +kernel
theorem dL_law_2297 : decode cL_law 2297 = .ok (.istore 5, 2) := by decide +kernel
theorem dL_law_2299 : decode cL_law 2299 = .ok (.aload_n 2, 1) := by decide +kernel
theorem dL_law_2300 : decode cL_law 2300 = .ok (.aload_n 0, 1) := by decide +kernel
theorem dL_law_2301 : decode cL_law 2301 = .ok (.iload 4, 2) := by decide +kernel
theorem dL_law_2303 : decode cL_law 2303 = .ok (.iconst 1, 1) := by decide +kernel
theorem dL_law_2304 : decode cL_law 2304 = .ok (.iadd, 1) := by decide +kernel
theorem dL_law_2305 : decode cL_law 2305 = .ok (.iaload, 1) := by decide +kernel
theorem dL_law_2306 : decode cL_law 2306 = .ok (.aload_n 0, 1) := by decide +kernel
theorem dL_law_2307 : decode cL_law 2307 = .ok (.iload 4, 2) := by decide +kernel
theorem dL_law_2309 : decode cL_law 2309 = .ok (.iconst 2, 1) := by decide +kernel
theorem dL_law_2310 : decode cL_law 2310 = .ok (.iadd, 1) := by decide +kernel
theorem dL_law_2311 : decode cL_law 2311 = .ok (.iaload, 1) := by decide +kernel
theorem dL_law_2312 : decode cL_law 2312 = .ok (.invokevirtual 244, 3) := by decide +kernel
theorem dL_law_2315 : decode cL_law 2315 = .ok (.istore 6, 2) := by decide +kernel
theorem dL_law_2317 : decode cL_law 2317 = .ok (.aload_n 2, 1) := by decide +kernel
theorem dL_law_2318 : decode cL_law 2318 = .ok (.invokevirtual 152, 3) := by decide +kernel
theorem dL_law_2321 : decode cL_law 2321 = .ok (.iload 5, 2) := by decide +kernel
theorem dL_law_2323 : decode cL_law 2323 = .ok (.if_icmp .eq 5, 3) := by decide +kernel
theorem dL_law_2326 : decode cL_law 2326 = .ok (.iconst 0, 1) := by decide +kernel
theorem dL_law_2327 : decode cL_law 2327 = .ok (.ireturn, 1) := by decide +kernel
theorem dL_law_2328 : decode cL_law 2328 = .ok (.iload 5, 2) := by decide +kernel
theorem dL_law_2330 : decode cL_law 2330 = .ok (.ifCond .ne 15, 3) := by decide +kernel
theorem dL_law_2333 : decode cL_law 2333 = .ok (.aload_n 3, 1) := by decide +kernel
theorem dL_law_2334 : decode cL_law 2334 = .ok (.iconst 0, 1) := by decide +kernel
theorem dL_law_2335 : decode cL_law 2335 = .ok (.laload, 1) := by decide +kernel
theorem dL_law_2336 : decode cL_law 2336 = .ok (.iload 6, 2) := by decide +kernel
theorem dL_law_2338 : decode cL_law 2338 = .ok (.i2l, 1) := by decide +kernel
theorem dL_law_2339 : decode cL_law 2339 = .ok (.lcmp, 1) := by decide +kernel
theorem dL_law_2340 : decode cL_law 2340 = .ok (.ifCond .eq 5, 3) := by decide +kernel
theorem dL_law_2343 : decode cL_law 2343 = .ok (.iconst 0, 1) := by decide +kernel
theorem dL_law_2344 : decode cL_law 2344 = .ok (.ireturn, 1) := by decide +kernel
theorem dL_law_2345 : decode cL_law 2345 = .ok (.goto 731, 3) := by decide +kernel
theorem dL_law_2348 : decode cL_law 2348 = .ok (.aload_n 1, 1) := by decide +kernel
theorem dL_law_2349 : decode cL_law 2349 = .ok (.aload_n 0, 1) := by decide +kernel
theorem dL_law_2350 : decode cL_law 2350 = .ok (.iload 4, 2) := by decide +kernel
theorem dL_law_2352 : decode cL_law 2352 = .ok (.iconst 1, 1) := by decide +kernel
theorem dL_law_2353 : decode cL_law 2353 = .ok (.iadd, 1) := by decide +kernel
theorem dL_law_2354 : decode cL_law 2354 = .ok (.iaload, 1) := by decide +kernel
theorem dL_law_2355 : decode cL_law 2355 = .ok (.aload_n 0, 1) := by decide +kernel
theorem dL_law_2356 : decode cL_law 2356 = .ok (.iload 4, 2) := by decide +kernel
theorem dL_law_2358 : decode cL_law 2358 = .ok (.iconst 2, 1) := by decide +kernel
theorem dL_law_2359 : decode cL_law 2359 = .ok (.iadd, 1) := by decide +kernel
theorem dL_law_2360 : decode cL_law 2360 = .ok (.iaload, 1) := by decide +kernel
theorem dL_law_2361 : decode cL_law 2361 = .ok (.aload_n 0, 1) := by decide +kernel
theorem dL_law_2362 : decode cL_law 2362 = .ok (.iload 4, 2) := by decide +kernel
theorem dL_law_2364 : decode cL_law 2364 = .ok (.iconst 3, 1) := by decide +kernel
theorem dL_law_2365 : decode cL_law 2365 = .ok (.iadd, 1) := by decide +kernel
theorem dL_law_2366 : decode cL_law 2366 = .ok (.iaload, 1) := by decide +kernel
theorem dL_law_2367 : decode cL_law 2367 = .ok (.aload_n 3, 1) := by decide +kernel
theorem dL_law_2368 : decode cL_law 2368 = .ok (.invokestatic 245, 3) := by decide +kernel
theorem dL_law_2371 : decode cL_law 2371 = .ok (.istore 5, 2) := by decide +kernel
theorem dL_law_2373 : decode cL_law 2373 = .ok (.aload_n 2, 1) := by decide +kernel
theorem dL_law_2374 : decode cL_law 2374 = .ok (.aload_n 0, 1) := by decide +kernel
theorem dL_law_2375 : decode cL_law 2375 = .ok (.iload 4, 2) := by decide +kernel
theorem dL_law_2377 : decode cL_law 2377 = .ok (.iconst 1, 1) := by decide +kernel
theorem dL_law_2378 : decode cL_law 2378 = .ok (.iadd, 1) := by decide +kernel
theorem dL_law_2379 : decode cL_law 2379 = .ok (.iaload, 1) := by decide +kernel
theorem dL_law_2380 : decode cL_law 2380 = .ok (.aload_n 0, 1) := by decide +kernel
theorem dL_law_2381 : decode cL_law 2381 = .ok (.iload 4, 2) := by decide +kernel
theorem dL_law_2383 : decode cL_law 2383 = .ok (.iconst 2, 1) := by decide +kernel
theorem dL_law_2384 : decode cL_law 2384 = .ok (.iadd, 1) := by decide +kernel
theorem dL_law_2385 : decode cL_law 2385 = .ok (.iaload, 1) := by decide +kernel
theorem dL_law_2386 : decode cL_law 2386 = .ok (.aload_n 0, 1) := by decide +kernel
theorem dL_law_2387 : decode cL_law 2387 = .ok (.iload 4, 2) := by decide +kernel
theorem dL_law_2389 : decode cL_law 2389 = .ok (.iconst 3, 1) := by decide +kernel
theorem dL_law_2390 : decode cL_law 2390 = .ok (.iadd, 1) := by decide +kernel
theorem dL_law_2391 : decode cL_law 2391 = .ok (.iaload, 1) := by decide +kernel
theorem dL_law_2392 : decode cL_law 2392 = .ok (.invokevirtual 247, 3) := by decide +kernel
theorem dL_law_2395 : decode cL_law 2395 = .ok (.istore 6, 2) := by decide +kernel
theorem dL_law_2397 : decode cL_law 2397 = .ok (.aload_n 2, 1) := by decide +kernel
theorem dL_law_2398 : decode cL_law 2398 = .ok (.invokevirtual 152, 3) := by decide +kernel
theorem dL_law_2401 : decode cL_law 2401 = .ok (.iload 5, 2) := by decide +kernel
theorem dL_law_2403 : decode cL_law 2403 = .ok (.if_icmp .eq 5, 3) := by decide +kernel
theorem dL_law_2406 : decode cL_law 2406 = .ok (.iconst 0, 1) := by decide +kernel
theorem dL_law_2407 : decode cL_law 2407 = .ok (.ireturn, 1) := by decide +kernel
theorem dL_law_2408 : decode cL_law 2408 = .ok (.iload 5, 2) := by decide +kernel
theorem dL_law_2410 : decode cL_law 2410 = .ok (.ifCond .ne 15, 3) := by decide +kernel
theorem dL_law_2413 : decode cL_law 2413 = .ok (.aload_n 3, 1) := by decide +kernel
theorem dL_law_2414 : decode cL_law 2414 = .ok (.iconst 0, 1) := by decide +kernel
theorem dL_law_2415 : decode cL_law 2415 = .ok (.laload, 1) := by decide +kernel
theorem dL_law_2416 : decode cL_law 2416 = .ok (.iload 6, 2) := by decide +kernel
theorem dL_law_2418 : decode cL_law 2418 = .ok (.i2l, 1) := by decide +kernel
theorem dL_law_2419 : decode cL_law 2419 = .ok (.lcmp, 1) := by decide +kernel
theorem dL_law_2420 : decode cL_law 2420 = .ok (.ifCond .eq 5, 3) := by decide +kernel
theorem dL_law_2423 : decode cL_law 2423 = .ok (.iconst 0, 1) := by decide +kernel
theorem dL_law_2424 : decode cL_law 2424 = .ok (.ireturn, 1) := by decide +kernel
theorem dL_law_2425 : decode cL_law 2425 = .ok (.goto 651, 3) := by decide +kernel
theorem dL_law_2428 : decode cL_law 2428 = .ok (.aload_n 1, 1) := by decide +kernel
theorem dL_law_2429 : decode cL_law 2429 = .ok (.aload_n 0, 1) := by decide +kernel
theorem dL_law_2430 : decode cL_law 2430 = .ok (.iload 4, 2) := by decide +kernel
theorem dL_law_2432 : decode cL_law 2432 = .ok (.iconst 1, 1) := by decide +kernel
theorem dL_law_2433 : decode cL_law 2433 = .ok (.iadd, 1) := by decide +kernel
theorem dL_law_2434 : decode cL_law 2434 = .ok (.iaload, 1) := by decide +kernel
theorem dL_law_2435 : decode cL_law 2435 = .ok (.aload_n 0, 1) := by decide +kernel
theorem dL_law_2436 : decode cL_law 2436 = .ok (.iload 4, 2) := by decide +kernel
theorem dL_law_2438 : decode cL_law 2438 = .ok (.iconst 2, 1) := by decide +kernel
theorem dL_law_2439 : decode cL_law 2439 = .ok (.iadd, 1) := by decide +kernel
theorem dL_law_2440 : decode cL_law 2440 = .ok (.iaload, 1) := by decide +kernel
theorem dL_law_2441 : decode cL_law 2441 = .ok (.aload_n 3, 1) := by decide +kernel
theorem dL_law_2442 : decode cL_law 2442 = .ok (.invokestatic 248, 3) := by decide +kernel
theorem dL_law_2445 : decode cL_law 2445 = .ok (.istore 5, 2) := by decide +kernel
theorem dL_law_2447 : decode cL_law 2447 = .ok (.aload_n 2, 1) := by decide +kernel
theorem dL_law_2448 : decode cL_law 2448 = .ok (.aload_n 0, 1) := by decide +kernel
theorem dL_law_2449 : decode cL_law 2449 = .ok (.iload 4, 2) := by decide +kernel
theorem dL_law_2451 : decode cL_law 2451 = .ok (.iconst 1, 1) := by decide +kernel
theorem dL_law_2452 : decode cL_law 2452 = .ok (.iadd, 1) := by decide +kernel
theorem dL_law_2453 : decode cL_law 2453 = .ok (.iaload, 1) := by decide +kernel
theorem dL_law_2454 : decode cL_law 2454 = .ok (.aload_n 0, 1) := by decide +kernel
theorem dL_law_2455 : decode cL_law 2455 = .ok (.iload 4, 2) := by decide +kernel
theorem dL_law_2457 : decode cL_law 2457 = .ok (.iconst 2, 1) := by decide +kernel
theorem dL_law_2458 : decode cL_law 2458 = .ok (.iadd, 1) := by decide +kernel
theorem dL_law_2459 : decode cL_law 2459 = .ok (.iaload, 1) := by decide +kernel
theorem dL_law_2460 : decode cL_law 2460 = .ok (.invokevirtual 250, 3) := by decide +kernel
theorem dL_law_2463 : decode cL_law 2463 = .ok (.istore 6, 2) := by decide +kernel
theorem dL_law_2465 : decode cL_law 2465 = .ok (.aload_n 2, 1) := by decide +kernel
theorem dL_law_2466 : decode cL_law 2466 = .ok (.invokevirtual 152, 3) := by decide +kernel
theorem dL_law_2469 : decode cL_law 2469 = .ok (.iload 5, 2) := by decide +kernel
theorem dL_law_2471 : decode cL_law 2471 = .ok (.if_icmp .eq 5, 3) := by decide +kernel
theorem dL_law_2474 : decode cL_law 2474 = .ok (.iconst 0, 1) := by decide +kernel
theorem dL_law_2475 : decode cL_law 2475 = .ok (.ireturn, 1) := by decide +kernel
theorem dL_law_2476 : decode cL_law 2476 = .ok (.iload 5, 2) := by decide +kernel
theorem dL_law_2478 : decode cL_law 2478 = .ok (.ifCond .ne 15, 3) := by decide +kernel
theorem dL_law_2481 : decode cL_law 2481 = .ok (.aload_n 3, 1) := by decide +kernel
theorem dL_law_2482 : decode cL_law 2482 = .ok (.iconst 0, 1) := by decide +kernel
theorem dL_law_2483 : decode cL_law 2483 = .ok (.laload, 1) := by decide +kernel
theorem dL_law_2484 : decode cL_law 2484 = .ok (.iload 6, 2) := by decide +kernel
theorem dL_law_2486 : decode cL_law 2486 = .ok (.i2l, 1) := by decide +kernel
theorem dL_law_2487 : decode cL_law 2487 = .ok (.lcmp, 1) := by decide +kernel
theorem dL_law_2488 : decode cL_law 2488 = .ok (.ifCond .eq 5, 3) := by decide +kernel
theorem dL_law_2491 : decode cL_law 2491 = .ok (.iconst 0, 1) := by decide +kernel
theorem dL_law_2492 : decode cL_law 2492 = .ok (.ireturn, 1) := by decide +kernel
theorem dL_law_2493 : decode cL_law 2493 = .ok (.goto 583, 3) := by decide +kernel
theorem dL_law_2496 : decode cL_law 2496 = .ok (.aload_n 1, 1) := by decide +kernel
theorem dL_law_2497 : decode cL_law 2497 = .ok (.aload_n 0, 1) := by decide +kernel
theorem dL_law_2498 : decode cL_law 2498 = .ok (.iload 4, 2) := by decide +kernel
theorem dL_law_2500 : decode cL_law 2500 = .ok (.iconst 1, 1) := by decide +kernel
theorem dL_law_2501 : decode cL_law 2501 = .ok (.iadd, 1) := by decide +kernel
theorem dL_law_2502 : decode cL_law 2502 = .ok (.iaload, 1) := by decide +kernel
theorem dL_law_2503 : decode cL_law 2503 = .ok (.aload_n 3, 1) := by decide +kernel
theorem dL_law_2504 : decode cL_law 2504 = .ok (.invokestatic 251, 3) := by decide +kernel
theorem dL_law_2507 : decode cL_law 2507 = .ok (.istore 5, 2) := by decide +kernel
theorem dL_law_2509 : decode cL_law 2509 = .ok (.aload_n 2, 1) := by decide +kernel
theorem dL_law_2510 : decode cL_law 2510 = .ok (.aload_n 0, 1) := by decide +kernel
theorem dL_law_2511 : decode cL_law 2511 = .ok (.iload 4, 2) := by decide +kernel
theorem dL_law_2513 : decode cL_law 2513 = .ok (.iconst 1, 1) := by decide +kernel
theorem dL_law_2514 : decode cL_law 2514 = .ok (.iadd, 1) := by decide +kernel
theorem dL_law_2515 : decode cL_law 2515 = .ok (.iaload, 1) := by decide +kernel
theorem dL_law_2516 : decode cL_law 2516 = .ok (.invokevirtual 253, 3) := by decide +kernel
theorem dL_law_2519 : decode cL_law 2519 = .ok (.istore 6, 2) := by decide +kernel
theorem dL_law_2521 : decode cL_law 2521 = .ok (.aload_n 2, 1) := by decide +kernel
theorem dL_law_2522 : decode cL_law 2522 = .ok (.invokevirtual 152, 3) := by decide +kernel
theorem dL_law_2525 : decode cL_law 2525 = .ok (.iload 5, 2) := by decide +kernel
theorem dL_law_2527 : decode cL_law 2527 = .ok (.if_icmp .eq 5, 3) := by decide +kernel
theorem dL_law_2530 : decode cL_law 2530 = .ok (.iconst 0, 1) := by decide +kernel
theorem dL_law_2531 : decode cL_law 2531 = .ok (.ireturn, 1) := by decide +kernel
theorem dL_law_2532 : decode cL_law 2532 = .ok (.iload 5, 2) := by decide +kernel
theorem dL_law_2534 : decode cL_law 2534 = .ok (.ifCond .ne 15, 3) := by decide +kernel
theorem dL_law_2537 : decode cL_law 2537 = .ok (.aload_n 3, 1) := by decide +kernel
theorem dL_law_2538 : decode cL_law 2538 = .ok (.iconst 0, 1) := by decide +kernel
theorem dL_law_2539 : decode cL_law 2539 = .ok (.laload, 1) := by decide +kernel
theorem dL_law_2540 : decode cL_law 2540 = .ok (.iload 6, 2) := by decide +kernel
theorem dL_law_2542 : decode cL_law 2542 = .ok (.i2l, 1) := by decide +kernel
theorem dL_law_2543 : decode cL_law 2543 = .ok (.lcmp, 1) := by decide +kernel
theorem dL_law_2544 : decode cL_law 2544 = .ok (.ifCond .eq 5, 3) := by decide +kernel
theorem dL_law_2547 : decode cL_law 2547 = .ok (.iconst 0, 1) := by decide +kernel
theorem dL_law_2548 : decode cL_law 2548 = .ok (.ireturn, 1) := by decide +kernel
theorem dL_law_2549 : decode cL_law 2549 = .ok (.goto 527, 3) := by decide +kernel
theorem dL_law_2552 : decode cL_law 2552 = .ok (.aload_n 1, 1) := by decide +kernel
theorem dL_law_2553 : decode cL_law 2553 = .ok (.aload_n 0, 1) := by decide +kernel
theorem dL_law_2554 : decode cL_law 2554 = .ok (.iload 4, 2) := by decide +kernel
theorem dL_law_2556 : decode cL_law 2556 = .ok (.iconst 1, 1) := by decide +kernel
theorem dL_law_2557 : decode cL_law 2557 = .ok (.iadd, 1) := by decide +kernel
theorem dL_law_2558 : decode cL_law 2558 = .ok (.iaload, 1) := by decide +kernel
theorem dL_law_2559 : decode cL_law 2559 = .ok (.aload_n 0, 1) := by decide +kernel
theorem dL_law_2560 : decode cL_law 2560 = .ok (.iload 4, 2) := by decide +kernel
theorem dL_law_2562 : decode cL_law 2562 = .ok (.iconst 2, 1) := by decide +kernel
theorem dL_law_2563 : decode cL_law 2563 = .ok (.iadd, 1) := by decide +kernel
theorem dL_law_2564 : decode cL_law 2564 = .ok (.iaload, 1) := by decide +kernel
theorem dL_law_2565 : decode cL_law 2565 = .ok (.aload_n 3, 1) := by decide +kernel
theorem dL_law_2566 : decode cL_law 2566 = .ok (.invokestatic 254, 3) := by decide +kernel
theorem dL_law_2569 : decode cL_law 2569 = .ok (.istore 5, 2) := by decide +kernel
theorem dL_law_2571 : decode cL_law 2571 = .ok (.aload_n 2, 1) := by decide +kernel
theorem dL_law_2572 : decode cL_law 2572 = .ok (.aload_n 0, 1) := by decide +kernel
theorem dL_law_2573 : decode cL_law 2573 = .ok (.iload 4, 2) := by decide +kernel
theorem dL_law_2575 : decode cL_law 2575 = .ok (.iconst 1, 1) := by decide +kernel
theorem dL_law_2576 : decode cL_law 2576 = .ok (.iadd, 1) := by decide +kernel
theorem dL_law_2577 : decode cL_law 2577 = .ok (.iaload, 1) := by decide +kernel
theorem dL_law_2578 : decode cL_law 2578 = .ok (.aload_n 0, 1) := by decide +kernel
theorem dL_law_2579 : decode cL_law 2579 = .ok (.iload 4, 2) := by decide +kernel
theorem dL_law_2581 : decode cL_law 2581 = .ok (.iconst 2, 1) := by decide +kernel
theorem dL_law_2582 : decode cL_law 2582 = .ok (.iadd, 1) := by decide +kernel
theorem dL_law_2583 : decode cL_law 2583 = .ok (.iaload, 1) := by decide +kernel
theorem dL_law_2584 : decode cL_law 2584 = .ok (.invokevirtual 256, 3) := by decide +kernel
theorem dL_law_2587 : decode cL_law 2587 = .ok (.istore 6, 2) := by decide +kernel
theorem dL_law_2589 : decode cL_law 2589 = .ok (.aload_n 2, 1) := by decide +kernel
theorem dL_law_2590 : decode cL_law 2590 = .ok (.invokevirtual 152, 3) := by decide +kernel
theorem dL_law_2593 : decode cL_law 2593 = .ok (.iload 5, 2) := by decide +kernel
theorem dL_law_2595 : decode cL_law 2595 = .ok (.if_icmp .eq 5, 3) := by decide +kernel
theorem dL_law_2598 : decode cL_law 2598 = .ok (.iconst 0, 1) := by decide +kernel
theorem dL_law_2599 : decode cL_law 2599 = .ok (.ireturn, 1) := by decide +kernel
theorem dL_law_2600 : decode cL_law 2600 = .ok (.iload 5, 2) := by decide +kernel
theorem dL_law_2602 : decode cL_law 2602 = .ok (.ifCond .ne 15, 3) := by decide +kernel
theorem dL_law_2605 : decode cL_law 2605 = .ok (.aload_n 3, 1) := by decide +kernel
theorem dL_law_2606 : decode cL_law 2606 = .ok (.iconst 0, 1) := by decide +kernel
theorem dL_law_2607 : decode cL_law 2607 = .ok (.laload, 1) := by decide +kernel
theorem dL_law_2608 : decode cL_law 2608 = .ok (.iload 6, 2) := by decide +kernel
theorem dL_law_2610 : decode cL_law 2610 = .ok (.i2l, 1) := by decide +kernel
theorem dL_law_2611 : decode cL_law 2611 = .ok (.lcmp, 1) := by decide +kernel
theorem dL_law_2612 : decode cL_law 2612 = .ok (.ifCond .eq 5, 3) := by decide +kernel
theorem dL_law_2615 : decode cL_law 2615 = .ok (.iconst 0, 1) := by decide +kernel
theorem dL_law_2616 : decode cL_law 2616 = .ok (.ireturn, 1) := by decide +kernel
theorem dL_law_2617 : decode cL_law 2617 = .ok (.goto 459, 3) := by decide +kernel
theorem dL_law_2620 : decode cL_law 2620 = .ok (.aload_n 1, 1) := by decide +kernel
theorem dL_law_2621 : decode cL_law 2621 = .ok (.aload_n 0, 1) := by decide +kernel
theorem dL_law_2622 : decode cL_law 2622 = .ok (.iload 4, 2) := by decide +kernel
theorem dL_law_2624 : decode cL_law 2624 = .ok (.iconst 1, 1) := by decide +kernel
theorem dL_law_2625 : decode cL_law 2625 = .ok (.iadd, 1) := by decide +kernel
theorem dL_law_2626 : decode cL_law 2626 = .ok (.iaload, 1) := by decide +kernel
theorem dL_law_2627 : decode cL_law 2627 = .ok (.aload_n 3, 1) := by decide +kernel
theorem dL_law_2628 : decode cL_law 2628 = .ok (.invokestatic 257, 3) := by decide +kernel
theorem dL_law_2631 : decode cL_law 2631 = .ok (.istore 5, 2) := by decide +kernel
theorem dL_law_2633 : decode cL_law 2633 = .ok (.aload_n 2, 1) := by decide +kernel
theorem dL_law_2634 : decode cL_law 2634 = .ok (.aload_n 0, 1) := by decide +kernel
theorem dL_law_2635 : decode cL_law 2635 = .ok (.iload 4, 2) := by decide +kernel
theorem dL_law_2637 : decode cL_law 2637 = .ok (.iconst 1, 1) := by decide +kernel
theorem dL_law_2638 : decode cL_law 2638 = .ok (.iadd, 1) := by decide +kernel
theorem dL_law_2639 : decode cL_law 2639 = .ok (.iaload, 1) := by decide +kernel
theorem dL_law_2640 : decode cL_law 2640 = .ok (.invokevirtual 259, 3) := by decide +kernel
theorem dL_law_2643 : decode cL_law 2643 = .ok (.istore 6, 2) := by decide +kernel
theorem dL_law_2645 : decode cL_law 2645 = .ok (.aload_n 2, 1) := by decide +kernel
theorem dL_law_2646 : decode cL_law 2646 = .ok (.invokevirtual 152, 3) := by decide +kernel
theorem dL_law_2649 : decode cL_law 2649 = .ok (.iload 5, 2) := by decide +kernel
theorem dL_law_2651 : decode cL_law 2651 = .ok (.if_icmp .eq 5, 3) := by decide +kernel
theorem dL_law_2654 : decode cL_law 2654 = .ok (.iconst 0, 1) := by decide +kernel
theorem dL_law_2655 : decode cL_law 2655 = .ok (.ireturn, 1) := by decide +kernel
theorem dL_law_2656 : decode cL_law 2656 = .ok (.iload 5, 2) := by decide +kernel
theorem dL_law_2658 : decode cL_law 2658 = .ok (.ifCond .ne 15, 3) := by decide +kernel
theorem dL_law_2661 : decode cL_law 2661 = .ok (.aload_n 3, 1) := by decide +kernel
theorem dL_law_2662 : decode cL_law 2662 = .ok (.iconst 0, 1) := by decide +kernel
theorem dL_law_2663 : decode cL_law 2663 = .ok (.laload, 1) := by decide +kernel
theorem dL_law_2664 : decode cL_law 2664 = .ok (.iload 6, 2) := by decide +kernel
theorem dL_law_2666 : decode cL_law 2666 = .ok (.i2l, 1) := by decide +kernel
theorem dL_law_2667 : decode cL_law 2667 = .ok (.lcmp, 1) := by decide +kernel
theorem dL_law_2668 : decode cL_law 2668 = .ok (.ifCond .eq 5, 3) := by decide +kernel
theorem dL_law_2671 : decode cL_law 2671 = .ok (.iconst 0, 1) := by decide +kernel
theorem dL_law_2672 : decode cL_law 2672 = .ok (.ireturn, 1) := by decide +kernel
theorem dL_law_2673 : decode cL_law 2673 = .ok (.goto 403, 3) := by decide +kernel
theorem dL_law_2676 : decode cL_law 2676 = .ok (.aload_n 1, 1) := by decide +kernel
theorem dL_law_2677 : decode cL_law 2677 = .ok (.aload_n 0, 1) := by decide +kernel
theorem dL_law_2678 : decode cL_law 2678 = .ok (.iload 4, 2) := by decide +kernel
theorem dL_law_2680 : decode cL_law 2680 = .ok (.iconst 1, 1) := by decide +kernel
theorem dL_law_2681 : decode cL_law 2681 = .ok (.iadd, 1) := by decide +kernel
theorem dL_law_2682 : decode cL_law 2682 = .ok (.iaload, 1) := by decide +kernel
theorem dL_law_2683 : decode cL_law 2683 = .ok (.aload_n 0, 1) := by decide +kernel
theorem dL_law_2684 : decode cL_law 2684 = .ok (.iload 4, 2) := by decide +kernel
theorem dL_law_2686 : decode cL_law 2686 = .ok (.iconst 2, 1) := by decide +kernel
theorem dL_law_2687 : decode cL_law 2687 = .ok (.iadd, 1) := by decide +kernel
theorem dL_law_2688 : decode cL_law 2688 = .ok (.iaload, 1) := by decide +kernel
theorem dL_law_2689 : decode cL_law 2689 = .ok (.aload_n 3, 1) := by decide +kernel
theorem dL_law_2690 : decode cL_law 2690 = .ok (.invokestatic 260, 3) := by decide +kernel
theorem dL_law_2693 : decode cL_law 2693 = .ok (.istore 5, 2) := by decide +kernel
theorem dL_law_2695 : decode cL_law 2695 = .ok (.aload_n 2, 1) := by decide +kernel
theorem dL_law_2696 : decode cL_law 2696 = .ok (.aload_n 0, 1) := by decide +kernel
theorem dL_law_2697 : decode cL_law 2697 = .ok (.iload 4, 2) := by decide +kernel
theorem dL_law_2699 : decode cL_law 2699 = .ok (.iconst 1, 1) := by decide +kernel
theorem dL_law_2700 : decode cL_law 2700 = .ok (.iadd, 1) := by decide +kernel
theorem dL_law_2701 : decode cL_law 2701 = .ok (.iaload, 1) := by decide +kernel
theorem dL_law_2702 : decode cL_law 2702 = .ok (.aload_n 0, 1) := by decide +kernel
theorem dL_law_2703 : decode cL_law 2703 = .ok (.iload 4, 2) := by decide +kernel
theorem dL_law_2705 : decode cL_law 2705 = .ok (.iconst 2, 1) := by decide +kernel
theorem dL_law_2706 : decode cL_law 2706 = .ok (.iadd, 1) := by decide +kernel
theorem dL_law_2707 : decode cL_law 2707 = .ok (.iaload, 1) := by decide +kernel
theorem dL_law_2708 : decode cL_law 2708 = .ok (.invokevirtual 262, 3) := by decide +kernel
theorem dL_law_2711 : decode cL_law 2711 = .ok (.istore 6, 2) := by decide +kernel
theorem dL_law_2713 : decode cL_law 2713 = .ok (.aload_n 2, 1) := by decide +kernel
theorem dL_law_2714 : decode cL_law 2714 = .ok (.invokevirtual 152, 3) := by decide +kernel
theorem dL_law_2717 : decode cL_law 2717 = .ok (.iload 5, 2) := by decide +kernel
theorem dL_law_2719 : decode cL_law 2719 = .ok (.if_icmp .eq 5, 3) := by decide +kernel
theorem dL_law_2722 : decode cL_law 2722 = .ok (.iconst 0, 1) := by decide +kernel
theorem dL_law_2723 : decode cL_law 2723 = .ok (.ireturn, 1) := by decide +kernel
theorem dL_law_2724 : decode cL_law 2724 = .ok (.iload 5, 2) := by decide +kernel
theorem dL_law_2726 : decode cL_law 2726 = .ok (.ifCond .ne 15, 3) := by decide +kernel
theorem dL_law_2729 : decode cL_law 2729 = .ok (.aload_n 3, 1) := by decide +kernel
theorem dL_law_2730 : decode cL_law 2730 = .ok (.iconst 0, 1) := by decide +kernel
theorem dL_law_2731 : decode cL_law 2731 = .ok (.laload, 1) := by decide +kernel
theorem dL_law_2732 : decode cL_law 2732 = .ok (.iload 6, 2) := by decide +kernel
theorem dL_law_2734 : decode cL_law 2734 = .ok (.i2l, 1) := by decide +kernel
theorem dL_law_2735 : decode cL_law 2735 = .ok (.lcmp, 1) := by decide +kernel
theorem dL_law_2736 : decode cL_law 2736 = .ok (.ifCond .eq 5, 3) := by decide +kernel
theorem dL_law_2739 : decode cL_law 2739 = .ok (.iconst 0, 1) := by decide +kernel
theorem dL_law_2740 : decode cL_law 2740 = .ok (.ireturn, 1) := by decide +kernel
theorem dL_law_2741 : decode cL_law 2741 = .ok (.goto 335, 3) := by decide +kernel
theorem dL_law_2744 : decode cL_law 2744 = .ok (.aload_n 1, 1) := by decide +kernel
theorem dL_law_2745 : decode cL_law 2745 = .ok (.aload_n 0, 1) := by decide +kernel
theorem dL_law_2746 : decode cL_law 2746 = .ok (.iload 4, 2) := by decide +kernel
theorem dL_law_2748 : decode cL_law 2748 = .ok (.iconst 1, 1) := by decide +kernel
theorem dL_law_2749 : decode cL_law 2749 = .ok (.iadd, 1) := by decide +kernel
theorem dL_law_2750 : decode cL_law 2750 = .ok (.iaload, 1) := by decide +kernel
theorem dL_law_2751 : decode cL_law 2751 = .ok (.ifCond .eq 7, 3) := by decide +kernel
theorem dL_law_2754 : decode cL_law 2754 = .ok (.iconst 1, 1) := by decide +kernel
theorem dL_law_2755 : decode cL_law 2755 = .ok (.goto 4, 3) := by decide +kernel
theorem dL_law_2758 : decode cL_law 2758 = .ok (.iconst 0, 1) := by decide +kernel
theorem dL_law_2759 : decode cL_law 2759 = .ok (.aload_n 0, 1) := by decide +kernel
theorem dL_law_2760 : decode cL_law 2760 = .ok (.iload 4, 2) := by decide +kernel
theorem dL_law_2762 : decode cL_law 2762 = .ok (.iconst 2, 1) := by decide +kernel
theorem dL_law_2763 : decode cL_law 2763 = .ok (.iadd, 1) := by decide +kernel
theorem dL_law_2764 : decode cL_law 2764 = .ok (.iaload, 1) := by decide +kernel
theorem dL_law_2765 : decode cL_law 2765 = .ok (.aload_n 0, 1) := by decide +kernel
theorem dL_law_2766 : decode cL_law 2766 = .ok (.iload 4, 2) := by decide +kernel
theorem dL_law_2768 : decode cL_law 2768 = .ok (.iconst 3, 1) := by decide +kernel
theorem dL_law_2769 : decode cL_law 2769 = .ok (.iadd, 1) := by decide +kernel
theorem dL_law_2770 : decode cL_law 2770 = .ok (.iaload, 1) := by decide +kernel
theorem dL_law_2771 : decode cL_law 2771 = .ok (.aload_n 3, 1) := by decide +kernel
theorem dL_law_2772 : decode cL_law 2772 = .ok (.invokestatic 263, 3) := by decide +kernel
theorem dL_law_2775 : decode cL_law 2775 = .ok (.istore 5, 2) := by decide +kernel
theorem dL_law_2777 : decode cL_law 2777 = .ok (.aload_n 2, 1) := by decide +kernel
theorem dL_law_2778 : decode cL_law 2778 = .ok (.aload_n 0, 1) := by decide +kernel
theorem dL_law_2779 : decode cL_law 2779 = .ok (.iload 4, 2) := by decide +kernel
theorem dL_law_2781 : decode cL_law 2781 = .ok (.iconst 1, 1) := by decide +kernel
theorem dL_law_2782 : decode cL_law 2782 = .ok (.iadd, 1) := by decide +kernel
theorem dL_law_2783 : decode cL_law 2783 = .ok (.iaload, 1) := by decide +kernel
theorem dL_law_2784 : decode cL_law 2784 = .ok (.ifCond .eq 7, 3) := by decide +kernel
theorem dL_law_2787 : decode cL_law 2787 = .ok (.iconst 1, 1) := by decide +kernel
theorem dL_law_2788 : decode cL_law 2788 = .ok (.goto 4, 3) := by decide +kernel
theorem dL_law_2791 : decode cL_law 2791 = .ok (.iconst 0, 1) := by decide +kernel
theorem dL_law_2792 : decode cL_law 2792 = .ok (.aload_n 0, 1) := by decide +kernel
theorem dL_law_2793 : decode cL_law 2793 = .ok (.iload 4, 2) := by decide +kernel
theorem dL_law_2795 : decode cL_law 2795 = .ok (.iconst 2, 1) := by decide +kernel
theorem dL_law_2796 : decode cL_law 2796 = .ok (.iadd, 1) := by decide +kernel
theorem dL_law_2797 : decode cL_law 2797 = .ok (.iaload, 1) := by decide +kernel
theorem dL_law_2798 : decode cL_law 2798 = .ok (.aload_n 0, 1) := by decide +kernel
theorem dL_law_2799 : decode cL_law 2799 = .ok (.iload 4, 2) := by decide +kernel
theorem dL_law_2801 : decode cL_law 2801 = .ok (.iconst 3, 1) := by decide +kernel
theorem dL_law_2802 : decode cL_law 2802 = .ok (.iadd, 1) := by decide +kernel
theorem dL_law_2803 : decode cL_law 2803 = .ok (.iaload, 1) := by decide +kernel
theorem dL_law_2804 : decode cL_law 2804 = .ok (.invokevirtual 266, 3) := by decide +kernel
theorem dL_law_2807 : decode cL_law 2807 = .ok (.istore 6, 2) := by decide +kernel
theorem dL_law_2809 : decode cL_law 2809 = .ok (.aload_n 2, 1) := by decide +kernel
theorem dL_law_2810 : decode cL_law 2810 = .ok (.invokevirtual 152, 3) := by decide +kernel
theorem dL_law_2813 : decode cL_law 2813 = .ok (.iload 5, 2) := by decide +kernel
theorem dL_law_2815 : decode cL_law 2815 = .ok (.if_icmp .eq 5, 3) := by decide +kernel
theorem dL_law_2818 : decode cL_law 2818 = .ok (.iconst 0, 1) := by decide +kernel
theorem dL_law_2819 : decode cL_law 2819 = .ok (.ireturn, 1) := by decide +kernel
theorem dL_law_2820 : decode cL_law 2820 = .ok (.iload 5, 2) := by decide +kernel
theorem dL_law_2822 : decode cL_law 2822 = .ok (.ifCond .ne 15, 3) := by decide +kernel
theorem dL_law_2825 : decode cL_law 2825 = .ok (.aload_n 3, 1) := by decide +kernel
theorem dL_law_2826 : decode cL_law 2826 = .ok (.iconst 0, 1) := by decide +kernel
theorem dL_law_2827 : decode cL_law 2827 = .ok (.laload, 1) := by decide +kernel
theorem dL_law_2828 : decode cL_law 2828 = .ok (.iload 6, 2) := by decide +kernel
theorem dL_law_2830 : decode cL_law 2830 = .ok (.i2l, 1) := by decide +kernel
theorem dL_law_2831 : decode cL_law 2831 = .ok (.lcmp, 1) := by decide +kernel
theorem dL_law_2832 : decode cL_law 2832 = .ok (.ifCond .eq 5, 3) := by decide +kernel
theorem dL_law_2835 : decode cL_law 2835 = .ok (.iconst 0, 1) := by decide +kernel
theorem dL_law_2836 : decode cL_law 2836 = .ok (.ireturn, 1) := by decide +kernel
theorem dL_law_2837 : decode cL_law 2837 = .ok (.goto 239, 3) := by decide +kernel
theorem dL_law_2840 : decode cL_law 2840 = .ok (.aload_n 1, 1) := by decide +kernel
theorem dL_law_2841 : decode cL_law 2841 = .ok (.aload_n 0, 1) := by decide +kernel
theorem dL_law_2842 : decode cL_law 2842 = .ok (.iload 4, 2) := by decide +kernel
theorem dL_law_2844 : decode cL_law 2844 = .ok (.iconst 1, 1) := by decide +kernel
theorem dL_law_2845 : decode cL_law 2845 = .ok (.iadd, 1) := by decide +kernel
theorem dL_law_2846 : decode cL_law 2846 = .ok (.iaload, 1) := by decide +kernel
theorem dL_law_2847 : decode cL_law 2847 = .ok (.aload_n 0, 1) := by decide +kernel
theorem dL_law_2848 : decode cL_law 2848 = .ok (.iload 4, 2) := by decide +kernel
theorem dL_law_2850 : decode cL_law 2850 = .ok (.iconst 2, 1) := by decide +kernel
theorem dL_law_2851 : decode cL_law 2851 = .ok (.iadd, 1) := by decide +kernel
theorem dL_law_2852 : decode cL_law 2852 = .ok (.iaload, 1) := by decide +kernel
theorem dL_law_2853 : decode cL_law 2853 = .ok (.aload_n 0, 1) := by decide +kernel
theorem dL_law_2854 : decode cL_law 2854 = .ok (.iload 4, 2) := by decide +kernel
theorem dL_law_2856 : decode cL_law 2856 = .ok (.iconst 3, 1) := by decide +kernel
theorem dL_law_2857 : decode cL_law 2857 = .ok (.iadd, 1) := by decide +kernel
theorem dL_law_2858 : decode cL_law 2858 = .ok (.iaload, 1) := by decide +kernel
theorem dL_law_2859 : decode cL_law 2859 = .ok (.aload_n 3, 1) := by decide +kernel
theorem dL_law_2860 : decode cL_law 2860 = .ok (.invokestatic 267, 3) := by decide +kernel
theorem dL_law_2863 : decode cL_law 2863 = .ok (.istore 5, 2) := by decide +kernel
theorem dL_law_2865 : decode cL_law 2865 = .ok (.aload_n 2, 1) := by decide +kernel
theorem dL_law_2866 : decode cL_law 2866 = .ok (.aload_n 0, 1) := by decide +kernel
theorem dL_law_2867 : decode cL_law 2867 = .ok (.iload 4, 2) := by decide +kernel
theorem dL_law_2869 : decode cL_law 2869 = .ok (.iconst 1, 1) := by decide +kernel
theorem dL_law_2870 : decode cL_law 2870 = .ok (.iadd, 1) := by decide +kernel
theorem dL_law_2871 : decode cL_law 2871 = .ok (.iaload, 1) := by decide +kernel
theorem dL_law_2872 : decode cL_law 2872 = .ok (.aload_n 0, 1) := by decide +kernel
theorem dL_law_2873 : decode cL_law 2873 = .ok (.iload 4, 2) := by decide +kernel
theorem dL_law_2875 : decode cL_law 2875 = .ok (.iconst 2, 1) := by decide +kernel
theorem dL_law_2876 : decode cL_law 2876 = .ok (.iadd, 1) := by decide +kernel
theorem dL_law_2877 : decode cL_law 2877 = .ok (.iaload, 1) := by decide +kernel
theorem dL_law_2878 : decode cL_law 2878 = .ok (.aload_n 0, 1) := by decide +kernel
theorem dL_law_2879 : decode cL_law 2879 = .ok (.iload 4, 2) := by decide +kernel
theorem dL_law_2881 : decode cL_law 2881 = .ok (.iconst 3, 1) := by decide +kernel
theorem dL_law_2882 : decode cL_law 2882 = .ok (.iadd, 1) := by decide +kernel
theorem dL_law_2883 : decode cL_law 2883 = .ok (.iaload, 1) := by decide +kernel
theorem dL_law_2884 : decode cL_law 2884 = .ok (.invokevirtual 269, 3) := by decide +kernel
theorem dL_law_2887 : decode cL_law 2887 = .ok (.istore 6, 2) := by decide +kernel
theorem dL_law_2889 : decode cL_law 2889 = .ok (.aload_n 2, 1) := by decide +kernel
theorem dL_law_2890 : decode cL_law 2890 = .ok (.invokevirtual 152, 3) := by decide +kernel
theorem dL_law_2893 : decode cL_law 2893 = .ok (.iload 5, 2) := by decide +kernel
theorem dL_law_2895 : decode cL_law 2895 = .ok (.if_icmp .eq 5, 3) := by decide +kernel
theorem dL_law_2898 : decode cL_law 2898 = .ok (.iconst 0, 1) := by decide +kernel
theorem dL_law_2899 : decode cL_law 2899 = .ok (.ireturn, 1) := by decide +kernel
theorem dL_law_2900 : decode cL_law 2900 = .ok (.iload 5, 2) := by decide +kernel
theorem dL_law_2902 : decode cL_law 2902 = .ok (.ifCond .ne 15, 3) := by decide +kernel
theorem dL_law_2905 : decode cL_law 2905 = .ok (.aload_n 3, 1) := by decide +kernel
theorem dL_law_2906 : decode cL_law 2906 = .ok (.iconst 0, 1) := by decide +kernel
theorem dL_law_2907 : decode cL_law 2907 = .ok (.laload, 1) := by decide +kernel
theorem dL_law_2908 : decode cL_law 2908 = .ok (.iload 6, 2) := by decide +kernel
theorem dL_law_2910 : decode cL_law 2910 = .ok (.i2l, 1) := by decide +kernel
theorem dL_law_2911 : decode cL_law 2911 = .ok (.lcmp, 1) := by decide +kernel
theorem dL_law_2912 : decode cL_law 2912 = .ok (.ifCond .eq 5, 3) := by decide +kernel
theorem dL_law_2915 : decode cL_law 2915 = .ok (.iconst 0, 1) := by decide +kernel
theorem dL_law_2916 : decode cL_law 2916 = .ok (.ireturn, 1) := by decide +kernel
theorem dL_law_2917 : decode cL_law 2917 = .ok (.goto 159, 3) := by decide +kernel
theorem dL_law_2920 : decode cL_law 2920 = .ok (.aload_n 1, 1) := by decide +kernel
theorem dL_law_2921 : decode cL_law 2921 = .ok (.aload_n 0, 1) := by decide +kernel
theorem dL_law_2922 : decode cL_law 2922 = .ok (.iload 4, 2) := by decide +kernel
theorem dL_law_2924 : decode cL_law 2924 = .ok (.iconst 1, 1) := by decide +kernel
theorem dL_law_2925 : decode cL_law 2925 = .ok (.iadd, 1) := by decide +kernel
theorem dL_law_2926 : decode cL_law 2926 = .ok (.iaload, 1) := by decide +kernel
theorem dL_law_2927 : decode cL_law 2927 = .ok (.invokevirtual 270, 3) := by decide +kernel
theorem dL_law_2930 : decode cL_law 2930 = .ok (.aload_n 2, 1) := by decide +kernel
theorem dL_law_2931 : decode cL_law 2931 = .ok (.aload_n 0, 1) := by decide +kernel
theorem dL_law_2932 : decode cL_law 2932 = .ok (.iload 4, 2) := by decide +kernel
theorem dL_law_2934 : decode cL_law 2934 = .ok (.iconst 1, 1) := by decide +kernel
theorem dL_law_2935 : decode cL_law 2935 = .ok (.iadd, 1) := by decide +kernel
theorem dL_law_2936 : decode cL_law 2936 = .ok (.iaload, 1) := by decide +kernel
theorem dL_law_2937 : decode cL_law 2937 = .ok (.invokevirtual 273, 3) := by decide +kernel
theorem dL_law_2940 : decode cL_law 2940 = .ok (.if_icmp .eq 136, 3) := by decide +kernel
theorem dL_law_2943 : decode cL_law 2943 = .ok (.iconst 0, 1) := by decide +kernel
theorem dL_law_2944 : decode cL_law 2944 = .ok (.ireturn, 1) := by decide +kernel
theorem dL_law_2945 : decode cL_law 2945 = .ok (.aload_n 1, 1) := by decide +kernel
theorem dL_law_2946 : decode cL_law 2946 = .ok (.aload_n 0, 1) := by decide +kernel
theorem dL_law_2947 : decode cL_law 2947 = .ok (.iload 4, 2) := by decide +kernel
theorem dL_law_2949 : decode cL_law 2949 = .ok (.iconst 1, 1) := by decide +kernel
theorem dL_law_2950 : decode cL_law 2950 = .ok (.iadd, 1) := by decide +kernel
theorem dL_law_2951 : decode cL_law 2951 = .ok (.iaload, 1) := by decide +kernel
theorem dL_law_2952 : decode cL_law 2952 = .ok (.invokevirtual 274, 3) := by decide +kernel
theorem dL_law_2955 : decode cL_law 2955 = .ok (.aload_n 2, 1) := by decide +kernel
theorem dL_law_2956 : decode cL_law 2956 = .ok (.aload_n 0, 1) := by decide +kernel
theorem dL_law_2957 : decode cL_law 2957 = .ok (.iload 4, 2) := by decide +kernel
theorem dL_law_2959 : decode cL_law 2959 = .ok (.iconst 1, 1) := by decide +kernel
theorem dL_law_2960 : decode cL_law 2960 = .ok (.iadd, 1) := by decide +kernel
theorem dL_law_2961 : decode cL_law 2961 = .ok (.iaload, 1) := by decide +kernel
theorem dL_law_2962 : decode cL_law 2962 = .ok (.invokevirtual 277, 3) := by decide +kernel
theorem dL_law_2965 : decode cL_law 2965 = .ok (.if_icmp .eq 111, 3) := by decide +kernel
theorem dL_law_2968 : decode cL_law 2968 = .ok (.iconst 0, 1) := by decide +kernel
theorem dL_law_2969 : decode cL_law 2969 = .ok (.ireturn, 1) := by decide +kernel
theorem dL_law_2970 : decode cL_law 2970 = .ok (.aload_n 1, 1) := by decide +kernel
theorem dL_law_2971 : decode cL_law 2971 = .ok (.aload_n 0, 1) := by decide +kernel
theorem dL_law_2972 : decode cL_law 2972 = .ok (.iload 4, 2) := by decide +kernel
theorem dL_law_2974 : decode cL_law 2974 = .ok (.iconst 1, 1) := by decide +kernel
theorem dL_law_2975 : decode cL_law 2975 = .ok (.iadd, 1) := by decide +kernel
theorem dL_law_2976 : decode cL_law 2976 = .ok (.iaload, 1) := by decide +kernel
theorem dL_law_2977 : decode cL_law 2977 = .ok (.aload_n 3, 1) := by decide +kernel
theorem dL_law_2978 : decode cL_law 2978 = .ok (.invokestatic 278, 3) := by decide +kernel
theorem dL_law_2981 : decode cL_law 2981 = .ok (.istore 5, 2) := by decide +kernel
theorem dL_law_2983 : decode cL_law 2983 = .ok (.aload_n 2, 1) := by decide +kernel
theorem dL_law_2984 : decode cL_law 2984 = .ok (.aload_n 0, 1) := by decide +kernel
theorem dL_law_2985 : decode cL_law 2985 = .ok (.iload 4, 2) := by decide +kernel
theorem dL_law_2987 : decode cL_law 2987 = .ok (.iconst 1, 1) := by decide +kernel
theorem dL_law_2988 : decode cL_law 2988 = .ok (.iadd, 1) := by decide +kernel
theorem dL_law_2989 : decode cL_law 2989 = .ok (.iaload, 1) := by decide +kernel
theorem dL_law_2990 : decode cL_law 2990 = .ok (.invokevirtual 280, 3) := by decide +kernel
theorem dL_law_2993 : decode cL_law 2993 = .ok (.istore 6, 2) := by decide +kernel
theorem dL_law_2995 : decode cL_law 2995 = .ok (.aload_n 2, 1) := by decide +kernel
theorem dL_law_2996 : decode cL_law 2996 = .ok (.invokevirtual 152, 3) := by decide +kernel
theorem dL_law_2999 : decode cL_law 2999 = .ok (.iload 5, 2) := by decide +kernel
theorem dL_law_3001 : decode cL_law 3001 = .ok (.if_icmp .eq 5, 3) := by decide +kernel
theorem dL_law_3004 : decode cL_law 3004 = .ok (.iconst 0, 1) := by decide +kernel
theorem dL_law_3005 : decode cL_law 3005 = .ok (.ireturn, 1) := by decide +kernel
theorem dL_law_3006 : decode cL_law 3006 = .ok (.iload 5, 2) := by decide +kernel
theorem dL_law_3008 : decode cL_law 3008 = .ok (.ifCond .ne 15, 3) := by decide +kernel
theorem dL_law_3011 : decode cL_law 3011 = .ok (.aload_n 3, 1) := by decide +kernel
theorem dL_law_3012 : decode cL_law 3012 = .ok (.iconst 0, 1) := by decide +kernel
theorem dL_law_3013 : decode cL_law 3013 = .ok (.laload, 1) := by decide +kernel
theorem dL_law_3014 : decode cL_law 3014 = .ok (.iload 6, 2) := by decide +kernel
theorem dL_law_3016 : decode cL_law 3016 = .ok (.i2l, 1) := by decide +kernel
theorem dL_law_3017 : decode cL_law 3017 = .ok (.lcmp, 1) := by decide +kernel
theorem dL_law_3018 : decode cL_law 3018 = .ok (.ifCond .eq 5, 3) := by decide +kernel
theorem dL_law_3021 : decode cL_law 3021 = .ok (.iconst 0, 1) := by decide +kernel
theorem dL_law_3022 : decode cL_law 3022 = .ok (.ireturn, 1) := by decide +kernel
theorem dL_law_3023 : decode cL_law 3023 = .ok (.goto 53, 3) := by decide +kernel
theorem dL_law_3026 : decode cL_law 3026 = .ok (.aload_n 1, 1) := by decide +kernel
theorem dL_law_3027 : decode cL_law 3027 = .ok (.aload_n 0, 1) := by decide +kernel
theorem dL_law_3028 : decode cL_law 3028 = .ok (.iload 4, 2) := by decide +kernel
theorem dL_law_3030 : decode cL_law 3030 = .ok (.iconst 1, 1) := by decide +kernel
theorem dL_law_3031 : decode cL_law 3031 = .ok (.iadd, 1) := by decide +kernel
theorem dL_law_3032 : decode cL_law 3032 = .ok (.iaload, 1) := by decide +kernel
theorem dL_law_3033 : decode cL_law 3033 = .ok (.invokevirtual 281, 3) := by decide +kernel
theorem dL_law_3036 : decode cL_law 3036 = .ok (.aload_n 2, 1) := by decide +kernel
theorem dL_law_3037 : decode cL_law 3037 = .ok (.aload_n 0, 1) := by decide +kernel
theorem dL_law_3038 : decode cL_law 3038 = .ok (.iload 4, 2) := by decide +kernel
theorem dL_law_3040 : decode cL_law 3040 = .ok (.iconst 1, 1) := by decide +kernel
theorem dL_law_3041 : decode cL_law 3041 = .ok (.iadd, 1) := by decide +kernel
theorem dL_law_3042 : decode cL_law 3042 = .ok (.iaload, 1) := by decide +kernel
theorem dL_law_3043 : decode cL_law 3043 = .ok (.invokevirtual 284, 3) := by decide +kernel
theorem dL_law_3046 : decode cL_law 3046 = .ok (.if_icmp .eq 30, 3) := by decide +kernel
theorem dL_law_3049 : decode cL_law 3049 = .ok (.iconst 0, 1) := by decide +kernel
theorem dL_law_3050 : decode cL_law 3050 = .ok (.ireturn, 1) := by decide +kernel
theorem dL_law_3051 : decode cL_law 3051 = .ok (.aload_n 1, 1) := by decide +kernel
theorem dL_law_3052 : decode cL_law 3052 = .ok (.aload_n 0, 1) := by decide +kernel
theorem dL_law_3053 : decode cL_law 3053 = .ok (.iload 4, 2) := by decide +kernel
theorem dL_law_3055 : decode cL_law 3055 = .ok (.iconst 1, 1) := by decide +kernel
theorem dL_law_3056 : decode cL_law 3056 = .ok (.iadd, 1) := by decide +kernel
theorem dL_law_3057 : decode cL_law 3057 = .ok (.iaload, 1) := by decide +kernel
theorem dL_law_3058 : decode cL_law 3058 = .ok (.invokevirtual 285, 3) := by decide +kernel
theorem dL_law_3061 : decode cL_law 3061 = .ok (.aload_n 2, 1) := by decide +kernel
theorem dL_law_3062 : decode cL_law 3062 = .ok (.aload_n 0, 1) := by decide +kernel
theorem dL_law_3063 : decode cL_law 3063 = .ok (.iload 4, 2) := by decide +kernel
theorem dL_law_3065 : decode cL_law 3065 = .ok (.iconst 1, 1) := by decide +kernel
theorem dL_law_3066 : decode cL_law 3066 = .ok (.iadd, 1) := by decide +kernel
theorem dL_law_3067 : decode cL_law 3067 = .ok (.iaload, 1) := by decide +kernel
theorem dL_law_3068 : decode cL_law 3068 = .ok (.invokevirtual 288, 3) := by decide +kernel
theorem dL_law_3071 : decode cL_law 3071 = .ok (.if_icmp .eq 5, 3) := by decide +kernel
theorem dL_law_3074 : decode cL_law 3074 = .ok (.iconst 0, 1) := by decide +kernel
theorem dL_law_3075 : decode cL_law 3075 = .ok (.ireturn, 1) := by decide +kernel
theorem dL_law_3076 : decode cL_law 3076 = .ok (.iinc 4 7, 3) := by decide +kernel
theorem dL_law_3079 : decode cL_law 3079 = .ok (.goto (-3056), 3) := by decide +kernel
theorem dL_law_3082 : decode cL_law 3082 = .ok (.iconst 1, 1) := by decide +kernel
theorem dL_law_3083 : decode cL_law 3083 = .ok (.ireturn, 1) := by decide +kernel
