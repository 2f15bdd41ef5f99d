theorem dL_read_0 : decode cL_read 0 = .ok (.aload_n 1, 1) := by decide +kernel
theorem dL_read_1 : decode cL_read 1 = .ok (.iconst 0, 1) := by decide +kernel
theorem dL_read_2 : decode cL_read 2 = .ok (.aload_n 0, 1) := by decide +kernel
theorem dL_read_3 : decode cL_read 3 = .ok (.invokevirtual 7, 3) := by decide +kernel
theorem dL_read_6 : decode cL_read 6 = .ok (.i2l, 1) := by decide +kernel
theorem dL_read_7 : decode cL_read 7 = .ok (.lastore, 1) := by decide +kernel
theorem dL_read_8 : decode cL_read 8 = .ok (.goto 6, 3) := by decide +kernel
theorem dL_read_11 : decode cL_read 11 = .ok (.astore_n 2, 1) := by decide +kernel
theorem dL_read_12 : decode cL_read 12 = .ok (.iconst 1, 1) := by decide +kernel
theorem dL_read_13 : decode cL_read 13 = .ok (.ireturn, 1) := by decide +kernel
theorem dL_read_14 : decode cL_read 14 = .ok (.iconst 0, 1) := by decide +kernel
theorem dL_read_15 : decode cL_read 15 = .ok (.ireturn, 1) := by decide +kernel
theorem dL_cell_0 : decode cL_cell 0 = .ok (.aload_n 3, 1) := by decide +kernel
theorem dL_cell_1 : decode cL_cell 1 = .ok (.iconst 0, 1) := by decide +kernel
theorem dL_cell_2 : decode cL_cell 2 = .ok (.aload_n 0, 1) := by decide +kernel
theorem dL_cell_3 : decode cL_cell 3 = .ok (.iload_n 1, 1) := by decide +kernel
theorem dL_cell_4 : decode cL_cell 4 = .ok (.iload_n 2, 1) := by decide +kernel
theorem dL_cell_5 : decode cL_cell 5 = .ok (.invokevirtual 15, 3) := by decide +kernel
theorem dL_cell_8 : decode cL_cell 8 = .ok (.i2l, 1) := by decide +kernel
theorem dL_cell_9 : decode cL_cell 9 = .ok (.lastore, 1) := by decide +kernel
theorem dL_cell_10 : decode cL_cell 10 = .ok (.goto 11, 3) := by decide +kernel
theorem dL_cell_13 : decode cL_cell 13 = .ok (.astore 4, 2) := by decide +kernel
theorem dL_cell_15 : decode cL_cell 15 = .ok (.iconst 1, 1) := by decide +kernel
theorem dL_cell_16 : decode cL_cell 16 = .ok (.ireturn, 1) := by decide +kernel
theorem dL_cell_17 : decode cL_cell 17 = .ok (.astore 4, 2) := by decide +kernel
theorem dL_cell_19 : decode cL_cell 19 = .ok (.iconst 2, 1) := by decide +kernel
theorem dL_cell_20 : decode cL_cell 20 = .ok (.ireturn, 1) := by decide +kernel
theorem dL_cell_21 : decode cL_cell 21 = .ok (.iconst 0, 1) := by decide +kernel
theorem dL_cell_22 : decode cL_cell 22 = .ok (.ireturn, 1) := by decide +kernel
theorem dL_zone_0 : decode cL_zone 0 = .ok (.aload_n 3, 1) := by decide +kernel
theorem dL_zone_1 : decode cL_zone 1 = .ok (.iconst 0, 1) := by decide +kernel
theorem dL_zone_2 : decode cL_zone 2 = .ok (.aload_n 0, 1) := by decide +kernel
theorem dL_zone_3 : decode cL_zone 3 = .ok (.iload_n 1, 1) := by decide +kernel
theorem dL_zone_4 : decode cL_zone 4 = .ok (.iload_n 2, 1) := by decide +kernel
theorem dL_zone_5 : decode cL_zone 5 = .ok (.invokevirtual 23, 3) := by decide +kernel
theorem dL_zone_8 : decode cL_zone 8 = .ok (.i2l, 1) := by decide +kernel
theorem dL_zone_9 : decode cL_zone 9 = .ok (.lastore, 1) := by decide +kernel
theorem dL_zone_10 : decode cL_zone 10 = .ok (.goto 11, 3) := by decide +kernel
theorem dL_zone_13 : decode cL_zone 13 = .ok (.astore 4, 2) := by decide +kernel
theorem dL_zone_15 : decode cL_zone 15 = .ok (.iconst 1, 1) := by decide +kernel
theorem dL_zone_16 : decode cL_zone 16 = .ok (.ireturn, 1) := by decide +kernel
theorem dL_zone_17 : decode cL_zone 17 = .ok (.astore 4, 2) := by decide +kernel
theorem dL_zone_19 : decode cL_zone 19 = .ok (.iconst 2, 1) := by decide +kernel
theorem dL_zone_20 : decode cL_zone 20 = .ok (.ireturn, 1) := by decide +kernel
theorem dL_zone_21 : decode cL_zone 21 = .ok (.iconst 0, 1) := by decide +kernel
theorem dL_zone_22 : decode cL_zone 22 = .ok (.ireturn, 1) := by decide +kernel
theorem dL_name_0 : decode cL_name 0 = .ok (.aload_n 3, 1) := by decide +kernel
theorem dL_name_1 : decode cL_name 1 = .ok (.iconst 0, 1) := by decide +kernel
theorem dL_name_2 : decode cL_name 2 = .ok (.aload_n 0, 1) := by decide +kernel
theorem dL_name_3 : decode cL_name 3 = .ok (.iload_n 1, 1) := by decide +kernel
theorem dL_name_4 : decode cL_name 4 = .ok (.iload_n 2, 1) := by decide +kernel
theorem dL_name_5 : decode cL_name 5 = .ok (.invokevirtual 26, 3) := by decide +kernel
theorem dL_name_8 : decode cL_name 8 = .ok (.i2l, 1) := by decide +kernel
theorem dL_name_9 : decode cL_name 9 = .ok (.lastore, 1) := by decide +kernel
theorem dL_name_10 : decode cL_name 10 = .ok (.goto 7, 3) := by decide +kernel
theorem dL_name_13 : decode cL_name 13 = .ok (.astore 4, 2) := by decide +kernel
theorem dL_name_15 : decode cL_name 15 = .ok (.iconst 1, 1) := by decide +kernel
theorem dL_name_16 : decode cL_name 16 = .ok (.ireturn, 1) := by decide +kernel
theorem dL_name_17 : decode cL_name 17 = .ok (.iconst 0, 1) := by decide +kernel
theorem dL_name_18 : decode cL_name 18 = .ok (.ireturn, 1) := by decide +kernel
theorem dL_people_0 : decode cL_people 0 = .ok (.aload 4, 2) := by decide +kernel
theorem dL_people_2 : decode cL_people 2 = .ok (.iconst 0, 1) := by decide +kernel
theorem dL_people_3 : decode cL_people 3 = .ok (.aload_n 0, 1) := by decide +kernel
theorem dL_people_4 : decode cL_people 4 = .ok (.iload_n 1, 1) := by decide +kernel
theorem dL_people_5 : decode cL_people 5 = .ok (.iload_n 2, 1) := by decide +kernel
theorem dL_people_6 : decode cL_people 6 = .ok (.iload_n 3, 1) := by decide +kernel
theorem dL_people_7 : decode cL_people 7 = .ok (.invokevirtual 29, 3) := by decide +kernel
theorem dL_people_10 : decode cL_people 10 = .ok (.i2l, 1) := by decide +kernel
theorem dL_people_11 : decode cL_people 11 = .ok (.lastore, 1) := by decide +kernel
theorem dL_people_12 : decode cL_people 12 = .ok (.goto 11, 3) := by decide +kernel
theorem dL_people_15 : decode cL_people 15 = .ok (.astore 5, 2) := by decide +kernel
theorem dL_people_17 : decode cL_people 17 = .ok (.iconst 1, 1) := by decide +kernel
theorem dL_people_18 : decode cL_people 18 = .ok (.ireturn, 1) := by decide +kernel
theorem dL_people_19 : decode cL_people 19 = .ok (.astore 5, 2) := by decide +kernel
theorem dL_people_21 : decode cL_people 21 = .ok (.iconst 2, 1) := by decide +kernel
theorem dL_people_22 : decode cL_people 22 = .ok (.ireturn, 1) := by decide +kernel
theorem dL_people_23 : decode cL_people 23 = .ok (.iconst 0, 1) := by decide +kernel
theorem dL_people_24 : decode cL_people 24 = .ok (.ireturn, 1) := by decide +kernel
theorem dL_lives_0 : decode cL_lives 0 = .ok (.aload_n 3, 1) := by decide +kernel
theorem dL_lives_1 : decode cL_lives 1 = .ok (.iconst 0, 1) := by decide +kernel
theorem dL_lives_2 : decode cL_lives 2 = .ok (.aload_n 0, 1) := by decide +kernel
theorem dL_lives_3 : decode cL_lives 3 = .ok (.iload_n 1, 1) := by decide +kernel
theorem dL_lives_4 : decode cL_lives 4 = .ok (.iload_n 2, 1) := by decide +kernel
theorem dL_lives_5 : decode cL_lives 5 = .ok (.invokevirtual 33, 3) := by decide +kernel
theorem dL_lives_8 : decode cL_lives 8 = .ok (.i2l, 1) := by decide +kernel
theorem dL_lives_9 : decode cL_lives 9 = .ok (.lastore, 1) := by decide +kernel
theorem dL_lives_10 : decode cL_lives 10 = .ok (.goto 7, 3) := by decide +kernel
theorem dL_lives_13 : decode cL_lives 13 = .ok (.astore 4, 2) := by decide +kernel
theorem dL_lives_15 : decode cL_lives 15 = .ok (.iconst 1, 1) := by decide +kernel
theorem dL_lives_16 : decode cL_lives 16 = .ok (.ireturn, 1) := by decide +kernel
theorem dL_lives_17 : decode cL_lives 17 = .ok (.iconst 0, 1) := by decide +kernel
theorem dL_lives_18 : decode cL_lives 18 = .ok (.ireturn, 1) := by decide +kernel
theorem dL_flood_0 : decode cL_flood 0 = .ok (.aload_n 3, 1) := by decide +kernel
theorem dL_flood_1 : decode cL_flood 1 = .ok (.iconst 0, 1) := by decide +kernel
theorem dL_flood_2 : decode cL_flood 2 = .ok (.aload_n 0, 1) := by decide +kernel
theorem dL_flood_3 : decode cL_flood 3 = .ok (.iload_n 1, 1) := by decide +kernel
theorem dL_flood_4 : decode cL_flood 4 = .ok (.iload_n 2, 1) := by decide +kernel
theorem dL_flood_5 : decode cL_flood 5 = .ok (.invokevirtual 36, 3) := by decide +kernel
theorem dL_flood_8 : decode cL_flood 8 = .ok (.ifCond .eq 7, 3) := by decide +kernel
theorem dL_flood_11 : decode cL_flood 11 = .ok (.lconst 1, 1) := by decide +kernel
theorem dL_flood_12 : decode cL_flood 12 = .ok (.goto 4, 3) := by decide +kernel
theorem dL_flood_15 : decode cL_flood 15 = .ok (.lconst 0, 1) := by decide +kernel
theorem dL_flood_16 : decode cL_flood 16 = .ok (.lastore, 1) := by decide +kernel
theorem dL_flood_17 : decode cL_flood 17 = .ok (.goto 7, 3) := by decide +kernel
theorem dL_flood_20 : decode cL_flood 20 = .ok (.astore 4, 2) := by decide +kernel
theorem dL_flood_22 : decode cL_flood 22 = .ok (.iconst 1, 1) := by decide +kernel
theorem dL_flood_23 : decode cL_flood 23 = .ok (.ireturn, 1) := by decide +kernel
theorem dL_flood_24 : decode cL_flood 24 = .ok (.iconst 0, 1) := by decide +kernel
theorem dL_flood_25 : decode cL_flood 25 = .ok (.ireturn, 1) := by decide +kernel
theorem dL_unit_0 : decode cL_unit 0 = .ok (.aload_n 2, 1) := by decide +kernel
theorem dL_unit_1 : decode cL_unit 1 = .ok (.iconst 0, 1) := by decide +kernel
theorem dL_unit_2 : decode cL_unit 2 = .ok (.aload_n 0, 1) := by decide +kernel
theorem dL_unit_3 : decode cL_unit 3 = .ok (.iload_n 1, 1) := by decide +kernel
theorem dL_unit_4 : decode cL_unit 4 = .ok (.invokevirtual 40, 3) := by decide +kernel
theorem dL_unit_7 : decode cL_unit 7 = .ok (.i2l, 1) := by decide +kernel
theorem dL_unit_8 : decode cL_unit 8 = .ok (.lastore, 1) := by decide +kernel
theorem dL_unit_9 : decode cL_unit 9 = .ok (.goto 6, 3) := by decide +kernel
theorem dL_unit_12 : decode cL_unit 12 = .ok (.astore_n 3, 1) := by decide +kernel
theorem dL_unit_13 : decode cL_unit 13 = .ok (.iconst 1, 1) := by decide +kernel
theorem dL_unit_14 : decode cL_unit 14 = .ok (.ireturn, 1) := by decide +kernel
theorem dL_unit_15 : decode cL_unit 15 = .ok (.iconst 0, 1) := by decide +kernel
theorem dL_unit_16 : decode cL_unit 16 = .ok (.ireturn, 1) := by decide +kernel
theorem dL_factor_0 : decode cL_factor 0 = .ok (.aload_n 2, 1) := by decide +kernel
theorem dL_factor_1 : decode cL_factor 1 = .ok (.iconst 0, 1) := by decide +kernel
theorem dL_factor_2 : decode cL_factor 2 = .ok (.aload_n 0, 1) := by decide +kernel
theorem dL_factor_3 : decode cL_factor 3 = .ok (.iload_n 1, 1) := by decide +kernel
theorem dL_factor_4 : decode cL_factor 4 = .ok (.invokevirtual 44, 3) := by decide +kernel
theorem dL_factor_7 : decode cL_factor 7 = .ok (.i2l, 1) := by decide +kernel
theorem dL_factor_8 : decode cL_factor 8 = .ok (.lastore, 1) := by decide +kernel
theorem dL_factor_9 : decode cL_factor 9 = .ok (.goto 6, 3) := by decide +kernel
theorem dL_factor_12 : decode cL_factor 12 = .ok (.astore_n 3, 1) := by decide +kernel
theorem dL_factor_13 : decode cL_factor 13 = .ok (.iconst 1, 1) := by decide +kernel
theorem dL_factor_14 : decode cL_factor 14 = .ok (.ireturn, 1) := by decide +kernel
theorem dL_factor_15 : decode cL_factor 15 = .ok (.iconst 0, 1) := by decide +kernel
theorem dL_factor_16 : decode cL_factor 16 = .ok (.ireturn, 1) := by decide +kernel
theorem dL_order_0 : decode cL_order 0 = .ok (.aload_n 3, 1) := by decide +kernel
theorem dL_order_1 : decode cL_order 1 = .ok (.iconst 0, 1) := by decide +kernel
theorem dL_order_2 : decode cL_order 2 = .ok (.aload_n 0, 1) := by decide +kernel
theorem dL_order_3 : decode cL_order 3 = .ok (.iload_n 1, 1) := by decide +kernel
theorem dL_order_4 : decode cL_order 4 = .ok (.iload_n 2, 1) := by decide +kernel
theorem dL_order_5 : decode cL_order 5 = .ok (.invokevirtual 47, 3) := by decide +kernel
theorem dL_order_8 : decode cL_order 8 = .ok (.i2l, 1) := by decide +kernel
theorem dL_order_9 : decode cL_order 9 = .ok (.lastore, 1) := by decide +kernel
theorem dL_order_10 : decode cL_order 10 = .ok (.goto 7, 3) := by decide +kernel
theorem dL_order_13 : decode cL_order 13 = .ok (.astore 4, 2) := by decide +kernel
theorem dL_order_15 : decode cL_order 15 = .ok (.iconst 1, 1) := by decide +kernel
theorem dL_order_16 : decode cL_order 16 = .ok (.ireturn, 1) := by decide +kernel
theorem dL_order_17 : decode cL_order 17 = .ok (.iconst 0, 1) := by decide +kernel
theorem dL_order_18 : decode cL_order 18 = .ok (.ireturn, 1) := by decide +kernel
theorem dL_stands_0 : decode cL_stands 0 = .ok (.aload_n 2, 1) := by decide +kernel
theorem dL_stands_1 : decode cL_stands 1 = .ok (.iconst 0, 1) := by decide +kernel
theorem dL_stands_2 : decode cL_stands 2 = .ok (.aload_n 0, 1) := by decide +kernel
theorem dL_stands_3 : decode cL_stands 3 = .ok (.iload_n 1, 1) := by decide +kernel
theorem dL_stands_4 : decode cL_stands 4 = .ok (.invokevirtual 50, 3) := by decide +kernel
theorem dL_stands_7 : decode cL_stands 7 = .ok (.i2l, 1) := by decide +kernel
theorem dL_stands_8 : decode cL_stands 8 = .ok (.lastore, 1) := by decide +kernel
theorem dL_stands_9 : decode cL_stands 9 = .ok (.goto 6, 3) := by decide +kernel
theorem dL_stands_12 : decode cL_stands 12 = .ok (.astore_n 3, 1) := by decide +kernel
theorem dL_stands_13 : decode cL_stands 13 = .ok (.iconst 1, 1) := by decide +kernel
theorem dL_stands_14 : decode cL_stands 14 = .ok (.ireturn, 1) := by decide +kernel
theorem dL_stands_15 : decode cL_stands 15 = .ok (.iconst 0, 1) := by decide +kernel
theorem dL_stands_16 : decode cL_stands 16 = .ok (.ireturn, 1) := by decide +kernel
theorem dL_dots_0 : decode cL_dots 0 = .ok (.aload 4, 2) := by decide +kernel
theorem dL_dots_2 : decode cL_dots 2 = .ok (.iconst 0, 1) := by decide +kernel
theorem dL_dots_3 : decode cL_dots 3 = .ok (.aload_n 0, 1) := by decide +kernel
theorem dL_dots_4 : decode cL_dots 4 = .ok (.iload_n 1, 1) := by decide +kernel
theorem dL_dots_5 : decode cL_dots 5 = .ok (.iload_n 2, 1) := by decide +kernel
theorem dL_dots_6 : decode cL_dots 6 = .ok (.iload_n 3, 1) := by decide +kernel
theorem dL_dots_7 : decode cL_dots 7 = .ok (.invokevirtual 53, 3) := by decide +kernel
theorem dL_dots_10 : decode cL_dots 10 = .ok (.i2l, 1) := by decide +kernel
theorem dL_dots_11 : decode cL_dots 11 = .ok (.lastore, 1) := by decide +kernel
theorem dL_dots_12 : decode cL_dots 12 = .ok (.goto 7, 3) := by decide +kernel
theorem dL_dots_15 : decode cL_dots 15 = .ok (.astore 5, 2) := by decide +kernel
theorem dL_dots_17 : decode cL_dots 17 = .ok (.iconst 1, 1) := by decide +kernel
theorem dL_dots_18 : decode cL_dots 18 = .ok (.ireturn, 1) := by decide +kernel
theorem dL_dots_19 : decode cL_dots 19 = .ok (.iconst 0, 1) := by decide +kernel
theorem dL_dots_20 : decode cL_dots 20 = .ok (.ireturn, 1) := by decide +kernel
theorem dL_carried_0 : decode cL_carried 0 = .ok (.aload 4, 2) := by decide +kernel
theorem dL_carried_2 : decode cL_carried 2 = .ok (.iconst 0, 1) := by decide +kernel
theorem dL_carried_3 : decode cL_carried 3 = .ok (.aload_n 0, 1) := by decide +kernel
theorem dL_carried_4 : decode cL_carried 4 = .ok (.iload_n 1, 1) := by decide +kernel
theorem dL_carried_5 : decode cL_carried 5 = .ok (.iload_n 2, 1) := by decide +kernel
theorem dL_carried_6 : decode cL_carried 6 = .ok (.iload_n 3, 1) := by decide +kernel
theorem dL_carried_7 : decode cL_carried 7 = .ok (.invokevirtual 56, 3) := by decide +kernel
theorem dL_carried_10 : decode cL_carried 10 = .ok (.i2l, 1) := by decide +kernel
theorem dL_carried_11 : decode cL_carried 11 = .ok (.lastore, 1) := by decide +kernel
theorem dL_carried_12 : decode cL_carried 12 = .ok (.goto 7, 3) := by decide +kernel
theorem dL_carried_15 : decode cL_carried 15 = .ok (.astore 5, 2) := by decide +kernel
theorem dL_carried_17 : decode cL_carried 17 = .ok (.iconst 1, 1) := by decide +kernel
theorem dL_carried_18 : decode cL_carried 18 = .ok (.ireturn, 1) := by decide +kernel
theorem dL_carried_19 : decode cL_carried 19 = .ok (.iconst 0, 1) := by decide +kernel
theorem dL_carried_20 : decode cL_carried 20 = .ok (.ireturn, 1) := by decide +kernel
theorem dL_left_0 : decode cL_left 0 = .ok (.aload_n 3, 1) := by decide +kernel
theorem dL_left_1 : decode cL_left 1 = .ok (.iconst 0, 1) := by decide +kernel
theorem dL_left_2 : decode cL_left 2 = .ok (.aload_n 0, 1) := by decide +kernel
theorem dL_left_3 : decode cL_left 3 = .ok (.iload_n 1, 1) := by decide +kernel
theorem dL_left_4 : decode cL_left 4 = .ok (.iload_n 2, 1) := by decide +kernel
theorem dL_left_5 : decode cL_left 5 = .ok (.invokevirtual 59, 3) := by decide +kernel
theorem dL_left_8 : decode cL_left 8 = .ok (.i2l, 1) := by decide +kernel
theorem dL_left_9 : decode cL_left 9 = .ok (.lastore, 1) := by decide +kernel
theorem dL_left_10 : decode cL_left 10 = .ok (.goto 7, 3) := by decide +kernel
theorem dL_left_13 : decode cL_left 13 = .ok (.astore 4, 2) := by decide +kernel
theorem dL_left_15 : decode cL_left 15 = .ok (.iconst 1, 1) := by decide +kernel
theorem dL_left_16 : decode cL_left 16 = .ok (.ireturn, 1) := by decide +kernel
theorem dL_left_17 : decode cL_left 17 = .ok (.iconst 0, 1) := by decide +kernel
theorem dL_left_18 : decode cL_left 18 = .ok (.ireturn, 1) := by decide +kernel
theorem dL_all_0 : decode cL_all 0 = .ok (.aload_n 3, 1) := by decide +kernel
theorem dL_all_1 : decode cL_all 1 = .ok (.iconst 0, 1) := by decide +kernel
theorem dL_all_2 : decode cL_all 2 = .ok (.aload_n 0, 1) := by decide +kernel
theorem dL_all_3 : decode cL_all 3 = .ok (.iload_n 1, 1) := by decide +kernel
theorem dL_all_4 : decode cL_all 4 = .ok (.iload_n 2, 1) := by decide +kernel
theorem dL_all_5 : decode cL_all 5 = .ok (.invokevirtual 62, 3) := by decide +kernel
theorem dL_all_8 : decode cL_all 8 = .ok (.i2l, 1) := by decide +kernel
theorem dL_all_9 : decode cL_all 9 = .ok (.lastore, 1) := by decide +kernel
theorem dL_all_10 : decode cL_all 10 = .ok (.goto 7, 3) := by decide +kernel
theorem dL_all_13 : decode cL_all 13 = .ok (.astore 4, 2) := by decide +kernel
theorem dL_all_15 : decode cL_all 15 = .ok (.iconst 1, 1) := by decide +kernel
theorem dL_all_16 : decode cL_all 16 = .ok (.ireturn, 1) := by decide +kernel
theorem dL_all_17 : decode cL_all 17 = .ok (.iconst 0, 1) := by decide +kernel
theorem dL_all_18 : decode cL_all 18 = .ok (.ireturn, 1) := by decide +kernel
theorem dL_dot_0 : decode cL_dot 0 = .ok (.aload 5, 2) := by decide +kernel
theorem dL_dot_2 : decode cL_dot 2 = .ok (.iconst 0, 1) := by decide +kernel
theorem dL_dot_3 : decode cL_dot 3 = .ok (.aload_n 0, 1) := by decide +kernel
theorem dL_dot_4 : decode cL_dot 4 = .ok (.iload_n 1, 1) := by decide +kernel
theorem dL_dot_5 : decode cL_dot 5 = .ok (.iload_n 2, 1) := by decide +kernel
theorem dL_dot_6 : decode cL_dot 6 = .ok (.iload_n 3, 1) := by decide +kernel
theorem dL_dot_7 : decode cL_dot 7 = .ok (.iload 4, 2) := by decide +kernel
theorem dL_dot_9 : decode cL_dot 9 = .ok (.invokevirtual 65, 3) := by decide +kernel
theorem dL_dot_12 : decode cL_dot 12 = .ok (.i2l, 1) := by decide +kernel
theorem dL_dot_13 : decode cL_dot 13 = .ok (.lastore, 1) := by decide +kernel
theorem dL_dot_14 : decode cL_dot 14 = .ok (.goto 11, 3) := by decide +kernel
theorem dL_dot_17 : decode cL_dot 17 = .ok (.astore 6, 2) := by decide +kernel
theorem dL_dot_19 : decode cL_dot 19 = .ok (.iconst 1, 1) := by decide +kernel
theorem dL_dot_20 : decode cL_dot 20 = .ok (.ireturn, 1) := by decide +kernel
theorem dL_dot_21 : decode cL_dot 21 = .ok (.astore 6, 2) := by decide +kernel
theorem dL_dot_23 : decode cL_dot 23 = .ok (.iconst 2, 1) := by decide +kernel
theorem dL_dot_24 : decode cL_dot 24 = .ok (.ireturn, 1) := by decide +kernel
theorem dL_dot_25 : decode cL_dot 25 = .ok (.iconst 0, 1) := by decide +kernel
theorem dL_dot_26 : decode cL_dot 26 = .ok (.ireturn, 1) := by decide +kernel
theorem dL_crowd_0 : decode cL_crowd 0 = .ok (.aload 4, 2) := by decide +kernel
theorem dL_crowd_2 : decode cL_crowd 2 = .ok (.iconst 0, 1) := by decide +kernel
theorem dL_crowd_3 : decode cL_crowd 3 = .ok (.aload_n 0, 1) := by decide +kernel
theorem dL_crowd_4 : decode cL_crowd 4 = .ok (.iload_n 1, 1) := by decide +kernel
theorem dL_crowd_5 : decode cL_crowd 5 = .ok (.iload_n 2, 1) := by decide +kernel
theorem dL_crowd_6 : decode cL_crowd 6 = .ok (.iload_n 3, 1) := by decide +kernel
theorem dL_crowd_7 : decode cL_crowd 7 = .ok (.invokevirtual 69, 3) := by decide +kernel
theorem dL_crowd_10 : decode cL_crowd 10 = .ok (.i2l, 1) := by decide +kernel
theorem dL_crowd_11 : decode cL_crowd 11 = .ok (.lastore, 1) := by decide +kernel
theorem dL_crowd_12 : decode cL_crowd 12 = .ok (.goto 7, 3) := by decide +kernel
theorem dL_crowd_15 : decode cL_crowd 15 = .ok (.astore 5, 2) := by decide +kernel
theorem dL_crowd_17 : decode cL_crowd 17 = .ok (.iconst 1, 1) := by decide +kernel
theorem dL_crowd_18 : decode cL_crowd 18 = .ok (.ireturn, 1) := by decide +kernel
theorem dL_crowd_19 : decode cL_crowd 19 = .ok (.iconst 0, 1) := by decide +kernel
theorem dL_crowd_20 : decode cL_crowd 20 = .ok (.ireturn, 1) := by decide +kernel
theorem dL_apart_0 : decode cL_apart 0 = .ok (.aload_n 2, 1) := by decide +kernel
theorem dL_apart_1 : decode cL_apart 1 = .ok (.iconst 0, 1) := by decide +kernel
theorem dL_apart_2 : decode cL_apart 2 = .ok (.aload_n 0, 1) := by decide +kernel
theorem dL_apart_3 : decode cL_apart 3 = .ok (.iload_n 1, 1) := by decide +kernel
theorem dL_apart_4 : decode cL_apart 4 = .ok (.invokevirtual 72, 3) := by decide +kernel
theorem dL_apart_7 : decode cL_apart 7 = .ok (.i2l, 1) := by decide +kernel
theorem dL_apart_8 : decode cL_apart 8 = .ok (.lastore, 1) := by decide +kernel
theorem dL_apart_9 : decode cL_apart 9 = .ok (.goto 6, 3) := by decide +kernel
theorem dL_apart_12 : decode cL_apart 12 = .ok (.astore_n 3, 1) := by decide +kernel
theorem dL_apart_13 : decode cL_apart 13 = .ok (.iconst 1, 1) := by decide +kernel
theorem dL_apart_14 : decode cL_apart 14 = .ok (.ireturn, 1) := by decide +kernel
theorem dL_apart_15 : decode cL_apart 15 = .ok (.iconst 0, 1) := by decide +kernel
theorem dL_apart_16 : decode cL_apart 16 = .ok (.ireturn, 1) := by decide +kernel
theorem dL_off_0 : decode cL_off 0 = .ok (.aload_n 3, 1) := by decide +kernel
theorem dL_off_1 : decode cL_off 1 = .ok (.iconst 0, 1) := by decide +kernel
theorem dL_off_2 : decode cL_off 2 = .ok (.aload_n 0, 1) := by decide +kernel
theorem dL_off_3 : decode cL_off 3 = .ok (.iload_n 1, 1) := by decide +kernel
theorem dL_off_4 : decode cL_off 4 = .ok (.iload_n 2, 1) := by decide +kernel
theorem dL_off_5 : decode cL_off 5 = .ok (.invokevirtual 75, 3) := by decide +kernel
theorem dL_off_8 : decode cL_off 8 = .ok (.i2l, 1) := by decide +kernel
theorem dL_off_9 : decode cL_off 9 = .ok (.lastore, 1) := by decide +kernel
theorem dL_off_10 : decode cL_off 10 = .ok (.goto 7, 3) := by decide +kernel
theorem dL_off_13 : decode cL_off 13 = .ok (.astore 4, 2) := by decide +kernel
theorem dL_off_15 : decode cL_off 15 = .ok (.iconst 1, 1) := by decide +kernel
theorem dL_off_16 : decode cL_off 16 = .ok (.ireturn, 1) := by decide +kernel
theorem dL_off_17 : decode cL_off 17 = .ok (.iconst 0, 1) := by decide +kernel
theorem dL_off_18 : decode cL_off 18 = .ok (.ireturn, 1) := by decide +kernel
theorem dL_move_0 : decode cL_move 0 = .ok (.aload 6, 2) := by decide +kernel
theorem dL_move_2 : decode cL_move 2 = .ok (.iconst 0, 1) := by decide +kernel
theorem dL_move_3 : decode cL_move 3 = .ok (.aload_n 0, 1) := by decide +kernel
theorem dL_move_4 : decode cL_move 4 = .ok (.iload_n 1, 1) := by decide +kernel
theorem dL_move_5 : decode cL_move 5 = .ok (.iload_n 2, 1) := by decide +kernel
theorem dL_move_6 : decode cL_move 6 = .ok (.iload_n 3, 1) := by decide +kernel
theorem dL_move_7 : decode cL_move 7 = .ok (.iload 4, 2) := by decide +kernel
theorem dL_move_9 : decode cL_move 9 = .ok (.iload 5, 2) := by decide +kernel
theorem dL_move_11 : decode cL_move 11 = .ok (.invokevirtual 78, 3) := by decide +kernel
theorem dL_move_14 : decode cL_move 14 = .ok (.i2l, 1) := by decide +kernel
theorem dL_move_15 : decode cL_move 15 = .ok (.lastore, 1) := by decide +kernel
theorem dL_move_16 : decode cL_move 16 = .ok (.goto 11, 3) := by decide +kernel
theorem dL_move_19 : decode cL_move 19 = .ok (.astore 7, 2) := by decide +kernel
theorem dL_move_21 : decode cL_move 21 = .ok (.iconst 1, 1) := by decide +kernel
theorem dL_move_22 : decode cL_move 22 = .ok (.ireturn, 1) := by decide +kernel
theorem dL_move_23 : decode cL_move 23 = .ok (.astore 7, 2) := by decide +kernel
theorem dL_move_25 : decode cL_move 25 = .ok (.iconst 2, 1) := by decide +kernel
theorem dL_move_26 : decode cL_move 26 = .ok (.ireturn, 1) := by decide +kernel
theorem dL_move_27 : decode cL_move 27 = .ok (.iconst 0, 1) := by decide +kernel
theorem dL_move_28 : decode cL_move 28 = .ok (.ireturn, 1) := by decide +kernel
theorem dL_tries_0 : decode cL_tries 0 = .ok (.aload 7, 2) := by decide +kernel
theorem dL_tries_2 : decode cL_tries 2 = .ok (.iconst 0, 1) := by decide +kernel
theorem dL_tries_3 : decode cL_tries 3 = .ok (.aload_n 0, 1) := by decide +kernel
theorem dL_tries_4 : decode cL_tries 4 = .ok (.iload_n 1, 1) := by decide +kernel
theorem dL_tries_5 : decode cL_tries 5 = .ok (.iload_n 2, 1) := by decide +kernel
theorem dL_tries_6 : decode cL_tries 6 = .ok (.iload_n 3, 1) := by decide +kernel
theorem dL_tries_7 : decode cL_tries 7 = .ok (.iload 4, 2) := by decide +kernel
theorem dL_tries_9 : decode cL_tries 9 = .ok (.iload 5, 2) := by decide +kernel
theorem dL_tries_11 : decode cL_tries 11 = .ok (.iload 6, 2) := by decide +kernel
theorem dL_tries_13 : decode cL_tries 13 = .ok (.invokevirtual 82, 3) := by decide +kernel
theorem dL_tries_16 : decode cL_tries 16 = .ok (.i2l, 1) := by decide +kernel
theorem dL_tries_17 : decode cL_tries 17 = .ok (.lastore, 1) := by decide +kernel
theorem dL_tries_18 : decode cL_tries 18 = .ok (.goto 11, 3) := by decide +kernel
theorem dL_tries_21 : decode cL_tries 21 = .ok (.astore 8, 2) := by decide +kernel
theorem dL_tries_23 : decode cL_tries 23 = .ok (.iconst 1, 1) := by decide +kernel
theorem dL_tries_24 : decode cL_tries 24 = .ok (.ireturn, 1) := by decide +kernel
theorem dL_tries_25 : decode cL_tries 25 = .ok (.astore 8, 2) := by decide +kernel
theorem dL_tries_27 : decode cL_tries 27 = .ok (.iconst 2, 1) := by decide +kernel
theorem dL_tries_28 : decode cL_tries 28 = .ok (.ireturn, 1) := by decide +kernel
theorem dL_tries_29 : decode cL_tries 29 = .ok (.iconst 0, 1) := by decide +kernel
theorem dL_tries_30 : decode cL_tries 30 = .ok (.ireturn, 1) := by decide +kernel
theorem dL_run_0 : decode cL_run 0 = .ok (.aload 5, 2) := by decide +kernel
theorem dL_run_2 : decode cL_run 2 = .ok (.iconst 0, 1) := by decide +kernel
theorem dL_run_3 : decode cL_run 3 = .ok (.aload_n 0, 1) := by decide +kernel
theorem dL_run_4 : decode cL_run 4 = .ok (.iload_n 1, 1) := by decide +kernel
theorem dL_run_5 : decode cL_run 5 = .ok (.iload_n 2, 1) := by decide +kernel
theorem dL_run_6 : decode cL_run 6 = .ok (.iload_n 3, 1) := by decide +kernel
theorem dL_run_7 : decode cL_run 7 = .ok (.iload 4, 2) := by decide +kernel
theorem dL_run_9 : decode cL_run 9 = .ok (.invokevirtual 86, 3) := by decide +kernel
theorem dL_run_12 : decode cL_run 12 = .ok (.i2l, 1) := by decide +kernel
theorem dL_run_13 : decode cL_run 13 = .ok (.lastore, 1) := by decide +kernel
theorem dL_run_14 : decode cL_run 14 = .ok (.goto 7, 3) := by decide +kernel
theorem dL_run_17 : decode cL_run 17 = .ok (.astore 6, 2) := by decide +kernel
theorem dL_run_19 : decode cL_run 19 = .ok (.iconst 1, 1) := by decide +kernel
theorem dL_run_20 : decode cL_run 20 = .ok (.ireturn, 1) := by decide +kernel
theorem dL_run_21 : decode cL_run 21 = .ok (.iconst 0, 1) := by decide +kernel
theorem dL_run_22 : decode cL_run 22 = .ok (.ireturn, 1) := by decide +kernel
theorem dL_part_0 : decode cL_part 0 = .ok (.aload_n 2, 1) := by decide +kernel
theorem dL_part_1 : decode cL_part 1 = .ok (.iconst 0, 1) := by decide +kernel
theorem dL_part_2 : decode cL_part 2 = .ok (.aload_n 0, 1) := by decide +kernel
theorem dL_part_3 : decode cL_part 3 = .ok (.iload_n 1, 1) := by decide +kernel
theorem dL_part_4 : decode cL_part 4 = .ok (.invokevirtual 90, 3) := by decide +kernel
theorem dL_part_7 : decode cL_part 7 = .ok (.i2l, 1) := by decide +kernel
theorem dL_part_8 : decode cL_part 8 = .ok (.lastore, 1) := by decide +kernel
theorem dL_part_9 : decode cL_part 9 = .ok (.goto 6, 3) := by decide +kernel
theorem dL_part_12 : decode cL_part 12 = .ok (.astore_n 3, 1) := by decide +kernel
theorem dL_part_13 : decode cL_part 13 = .ok (.iconst 1, 1) := by decide +kernel
theorem dL_part_14 : decode cL_part 14 = .ok (.ireturn, 1) := by decide +kernel
theorem dL_part_15 : decode cL_part 15 = .ok (.iconst 0, 1) := by decide +kernel
theorem dL_part_16 : decode cL_part 16 = .ok (.ireturn, 1) := by decide +kernel
theorem dL_measure_0 : decode cL_measure 0 = .ok (.aload 5, 2) := by decide +kernel
theorem dL_measure_2 : decode cL_measure 2 = .ok (.iconst 0, 1) := by decide +kernel
theorem dL_measure_3 : decode cL_measure 3 = .ok (.aload_n 0, 1) := by decide +kernel
theorem dL_measure_4 : decode cL_measure 4 = .ok (.iload_n 1, 1) := by decide +kernel
theorem dL_measure_5 : decode cL_measure 5 = .ok (.iload_n 2, 1) := by decide +kernel
theorem dL_measure_6 : decode cL_measure 6 = .ok (.iload_n 3, 1) := by decide +kernel
theorem dL_measure_7 : decode cL_measure 7 = .ok (.iload 4, 2) := by decide +kernel
theorem dL_measure_9 : decode cL_measure 9 = .ok (.invokevirtual 93, 3) := by decide +kernel
theorem dL_measure_12 : decode cL_measure 12 = .ok (.i2l, 1) := by decide +kernel
theorem dL_measure_13 : decode cL_measure 13 = .ok (.lastore, 1) := by decide +kernel
theorem dL_measure_14 : decode cL_measure 14 = .ok (.goto 15, 3) := by decide +kernel
theorem dL_measure_17 : decode cL_measure 17 = .ok (.astore 6, 2) := by decide +kernel
theorem dL_measure_19 : decode cL_measure 19 = .ok (.iconst 1, 1) := by decide +kernel
theorem dL_measure_20 : decode cL_measure 20 = .ok (.ireturn, 1) := by decide +kernel
theorem dL_measure_21 : decode cL_measure 21 = .ok (.astore 6, 2) := by decide +kernel
theorem dL_measure_23 : decode cL_measure 23 = .ok (.iconst 2, 1) := by decide +kernel
theorem dL_measure_24 : decode cL_measure 24 = .ok (.ireturn, 1) := by decide +kernel
theorem dL_measure_25 : decode cL_measure 25 = .ok (.astore 6, 2) := by decide +kernel
theorem dL_measure_27 : decode cL_measure 27 = .ok (.iconst 3, 1) := by decide +kernel
theorem dL_measure_28 : decode cL_measure 28 = .ok (.ireturn, 1) := by decide +kernel
theorem dL_measure_29 : decode cL_measure 29 = .ok (.iconst 0, 1) := by decide +kernel
theorem dL_measure_30 : decode cL_measure 30 = .ok (.ireturn, 1) := by decide +kernel
theorem dL_best_0 : decode cL_best 0 = .ok (.aload 4, 2) := by decide +kernel
theorem dL_best_2 : decode cL_best 2 = .ok (.iconst 0, 1) := by decide +kernel
theorem dL_best_3 : decode cL_best 3 = .ok (.aload_n 0, 1) := by decide +kernel
theorem dL_best_4 : decode cL_best 4 = .ok (.iload_n 1, 1) := by decide +kernel
theorem dL_best_5 : decode cL_best 5 = .ok (.iload_n 2, 1) := by decide +kernel
theorem dL_best_6 : decode cL_best 6 = .ok (.iload_n 3, 1) := by decide +kernel
theorem dL_best_7 : decode cL_best 7 = .ok (.invokevirtual 96, 3) := by decide +kernel
theorem dL_best_10 : decode cL_best 10 = .ok (.i2l, 1) := by decide +kernel
theorem dL_best_11 : decode cL_best 11 = .ok (.lastore, 1) := by decide +kernel
theorem dL_best_12 : decode cL_best 12 = .ok (.goto 15, 3) := by decide +kernel
theorem dL_best_15 : decode cL_best 15 = .ok (.astore 5, 2) := by decide +kernel
theorem dL_best_17 : decode cL_best 17 = .ok (.iconst 1, 1) := by decide +kernel
theorem dL_best_18 : decode cL_best 18 = .ok (.ireturn, 1) := by decide +kernel
theorem dL_best_19 : decode cL_best 19 = .ok (.astore 5, 2) := by decide +kernel
theorem dL_best_21 : decode cL_best 21 = .ok (.iconst 2, 1) := by decide +kernel
theorem dL_best_22 : decode cL_best 22 = .ok (.ireturn, 1) := by decide +kernel
theorem dL_best_23 : decode cL_best 23 = .ok (.astore 5, 2) := by decide +kernel
theorem dL_best_25 : decode cL_best 25 = .ok (.iconst 3, 1) := by decide +kernel
theorem dL_best_26 : decode cL_best 26 = .ok (.ireturn, 1) := by decide +kernel
theorem dL_best_27 : decode cL_best 27 = .ok (.iconst 0, 1) := by decide +kernel
theorem dL_best_28 : decode cL_best 28 = .ok (.ireturn, 1) := by decide +kernel
theorem dL_nearest_0 : decode cL_nearest 0 = .ok (.aload_n 3, 1) := by decide +kernel
theorem dL_nearest_1 : decode cL_nearest 1 = .ok (.iconst 0, 1) := by decide +kernel
theorem dL_nearest_2 : decode cL_nearest 2 = .ok (.aload_n 0, 1) := by decide +kernel
theorem dL_nearest_3 : decode cL_nearest 3 = .ok (.iload_n 1, 1) := by decide +kernel
theorem dL_nearest_4 : decode cL_nearest 4 = .ok (.iload_n 2, 1) := by decide +kernel
theorem dL_nearest_5 : decode cL_nearest 5 = .ok (.invokevirtual 99, 3) := by decide +kernel
theorem dL_nearest_8 : decode cL_nearest 8 = .ok (.i2l, 1) := by decide +kernel
theorem dL_nearest_9 : decode cL_nearest 9 = .ok (.lastore, 1) := by decide +kernel
theorem dL_nearest_10 : decode cL_nearest 10 = .ok (.goto 7, 3) := by decide +kernel
theorem dL_nearest_13 : decode cL_nearest 13 = .ok (.astore 4, 2) := by decide +kernel
theorem dL_nearest_15 : decode cL_nearest 15 = .ok (.iconst 1, 1) := by decide +kernel
theorem dL_nearest_16 : decode cL_nearest 16 = .ok (.ireturn, 1) := by decide +kernel
theorem dL_nearest_17 : decode cL_nearest 17 = .ok (.iconst 0, 1) := by decide +kernel
theorem dL_nearest_18 : decode cL_nearest 18 = .ok (.ireturn, 1) := by decide +kernel
theorem dL_served_0 : decode cL_served 0 = .ok (.aload_n 3, 1) := by decide +kernel
theorem dL_served_1 : decode cL_served 1 = .ok (.iconst 0, 1) := by decide +kernel
theorem dL_served_2 : decode cL_served 2 = .ok (.aload_n 0, 1) := by decide +kernel
theorem dL_served_3 : decode cL_served 3 = .ok (.iload_n 1, 1) := by decide +kernel
theorem dL_served_4 : decode cL_served 4 = .ok (.iload_n 2, 1) := by decide +kernel
theorem dL_served_5 : decode cL_served 5 = .ok (.invokevirtual 102, 3) := by decide +kernel
theorem dL_served_8 : decode cL_served 8 = .ok (.i2l, 1) := by decide +kernel
theorem dL_served_9 : decode cL_served 9 = .ok (.lastore, 1) := by decide +kernel
theorem dL_served_10 : decode cL_served 10 = .ok (.goto 7, 3) := by decide +kernel
theorem dL_served_13 : decode cL_served 13 = .ok (.astore 4, 2) := by decide +kernel
theorem dL_served_15 : decode cL_served 15 = .ok (.iconst 1, 1) := by decide +kernel
theorem dL_served_16 : decode cL_served 16 = .ok (.ireturn, 1) := by decide +kernel
theorem dL_served_17 : decode cL_served 17 = .ok (.iconst 0, 1) := by decide +kernel
theorem dL_served_18 : decode cL_served 18 = .ok (.ireturn, 1) := by decide +kernel
theorem dL_thinned_0 : decode cL_thinned 0 = .ok (.aload 4, 2) := by decide +kernel
theorem dL_thinned_2 : decode cL_thinned 2 = .ok (.iconst 0, 1) := by decide +kernel
theorem dL_thinned_3 : decode cL_thinned 3 = .ok (.aload_n 0, 1) := by decide +kernel
theorem dL_thinned_4 : decode cL_thinned 4 = .ok (.iload_n 1, 1) := by decide +kernel
theorem dL_thinned_5 : decode cL_thinned 5 = .ok (.iload_n 2, 1) := by decide +kernel
theorem dL_thinned_6 : decode cL_thinned 6 = .ok (.iload_n 3, 1) := by decide +kernel
theorem dL_thinned_7 : decode cL_thinned 7 = .ok (.invokevirtual 105, 3) := by decide +kernel
theorem dL_thinned_10 : decode cL_thinned 10 = .ok (.i2l, 1) := by decide +kernel
theorem dL_thinned_11 : decode cL_thinned 11 = .ok (.lastore, 1) := by decide +kernel
theorem dL_thinned_12 : decode cL_thinned 12 = .ok (.goto 11, 3) := by decide +kernel
theorem dL_thinned_15 : decode cL_thinned 15 = .ok (.astore 5, 2) := by decide +kernel
theorem dL_thinned_17 : decode cL_thinned 17 = .ok (.iconst 1, 1) := by decide +kernel
theorem dL_thinned_18 : decode cL_thinned 18 = .ok (.ireturn, 1) := by decide +kernel
theorem dL_thinned_19 : decode cL_thinned 19 = .ok (.astore 5, 2) := by decide +kernel
theorem dL_thinned_21 : decode cL_thinned 21 = .ok (.iconst 2, 1) := by decide +kernel
theorem dL_thinned_22 : decode cL_thinned 22 = .ok (.ireturn, 1) := by decide +kernel
theorem dL_thinned_23 : decode cL_thinned 23 = .ok (.iconst 0, 1) := by decide +kernel
theorem dL_thinned_24 : decode cL_thinned 24 = .ok (.ireturn, 1) := by decide +kernel
theorem dL_tour_0 : decode cL_tour 0 = .ok (.aload_n 3, 1) := by decide +kernel
theorem dL_tour_1 : decode cL_tour 1 = .ok (.iconst 0, 1) := by decide +kernel
theorem dL_tour_2 : decode cL_tour 2 = .ok (.aload_n 0, 1) := by decide +kernel
theorem dL_tour_3 : decode cL_tour 3 = .ok (.iload_n 1, 1) := by decide +kernel
theorem dL_tour_4 : decode cL_tour 4 = .ok (.iload_n 2, 1) := by decide +kernel
theorem dL_tour_5 : decode cL_tour 5 = .ok (.invokevirtual 108, 3) := by decide +kernel
theorem dL_tour_8 : decode cL_tour 8 = .ok (.i2l, 1) := by decide +kernel
theorem dL_tour_9 : decode cL_tour 9 = .ok (.lastore, 1) := by decide +kernel
theorem dL_tour_10 : decode cL_tour 10 = .ok (.goto 7, 3) := by decide +kernel
theorem dL_tour_13 : decode cL_tour 13 = .ok (.astore 4, 2) := by decide +kernel
theorem dL_tour_15 : decode cL_tour 15 = .ok (.iconst 1, 1) := by decide +kernel
theorem dL_tour_16 : decode cL_tour 16 = .ok (.ireturn, 1) := by decide +kernel
theorem dL_tour_17 : decode cL_tour 17 = .ok (.iconst 0, 1) := by decide +kernel
theorem dL_tour_18 : decode cL_tour 18 = .ok (.ireturn, 1) := by decide +kernel
theorem dL_way_0 : decode cL_way 0 = .ok (.aload_n 2, 1) := by decide +kernel
theorem dL_way_1 : decode cL_way 1 = .ok (.iconst 0, 1) := by decide +kernel
theorem dL_way_2 : decode cL_way 2 = .ok (.aload_n 0, 1) := by decide +kernel
theorem dL_way_3 : decode cL_way 3 = .ok (.iload_n 1, 1) := by decide +kernel
theorem dL_way_4 : decode cL_way 4 = .ok (.invokevirtual 111, 3) := by decide +kernel
theorem dL_way_7 : decode cL_way 7 = .ok (.i2l, 1) := by decide +kernel
theorem dL_way_8 : decode cL_way 8 = .ok (.lastore, 1) := by decide +kernel
theorem dL_way_9 : decode cL_way 9 = .ok (.goto 6, 3) := by decide +kernel
theorem dL_way_12 : decode cL_way 12 = .ok (.astore_n 3, 1) := by decide +kernel
theorem dL_way_13 : decode cL_way 13 = .ok (.iconst 1, 1) := by decide +kernel
theorem dL_way_14 : decode cL_way 14 = .ok (.ireturn, 1) := by decide +kernel
theorem dL_way_15 : decode cL_way 15 = .ok (.iconst 0, 1) := by decide +kernel
theorem dL_way_16 : decode cL_way 16 = .ok (.ireturn, 1) := by decide +kernel
theorem dL_hull_0 : decode cL_hull 0 = .ok (.aload_n 3, 1) := by decide +kernel
theorem dL_hull_1 : decode cL_hull 1 = .ok (.iconst 0, 1) := by decide +kernel
theorem dL_hull_2 : decode cL_hull 2 = .ok (.aload_n 0, 1) := by decide +kernel
theorem dL_hull_3 : decode cL_hull 3 = .ok (.iload_n 1, 1) := by decide +kernel
theorem dL_hull_4 : decode cL_hull 4 = .ok (.iload_n 2, 1) := by decide +kernel
theorem dL_hull_5 : decode cL_hull 5 = .ok (.invokevirtual 114, 3) := by decide +kernel
theorem dL_hull_8 : decode cL_hull 8 = .ok (.i2l, 1) := by decide +kernel
theorem dL_hull_9 : decode cL_hull 9 = .ok (.lastore, 1) := by decide +kernel
theorem dL_hull_10 : decode cL_hull 10 = .ok (.goto 7, 3) := by decide +kernel
theorem dL_hull_13 : decode cL_hull 13 = .ok (.astore 4, 2) := by decide +kernel
theorem dL_hull_15 : decode cL_hull 15 = .ok (.iconst 1, 1) := by decide +kernel
theorem dL_hull_16 : decode cL_hull 16 = .ok (.ireturn, 1) := by decide +kernel
theorem dL_hull_17 : decode cL_hull 17 = .ok (.iconst 0, 1) := by decide +kernel
theorem dL_hull_18 : decode cL_hull 18 = .ok (.ireturn, 1) := by decide +kernel
theorem dL_area_0 : decode cL_area 0 = .ok (.aload_n 2, 1) := by decide +kernel
theorem dL_area_1 : decode cL_area 1 = .ok (.iconst 0, 1) := by decide +kernel
theorem dL_area_2 : decode cL_area 2 = .ok (.aload_n 0, 1) := by decide +kernel
theorem dL_area_3 : decode cL_area 3 = .ok (.iload_n 1, 1) := by decide +kernel
theorem dL_area_4 : decode cL_area 4 = .ok (.invokevirtual 117, 3) := by decide +kernel
theorem dL_area_7 : decode cL_area 7 = .ok (.i2l, 1) := by decide +kernel
theorem dL_area_8 : decode cL_area 8 = .ok (.lastore, 1) := by decide +kernel
theorem dL_area_9 : decode cL_area 9 = .ok (.goto 6, 3) := by decide +kernel
theorem dL_area_12 : decode cL_area 12 = .ok (.astore_n 3, 1) := by decide +kernel
theorem dL_area_13 : decode cL_area 13 = .ok (.iconst 1, 1) := by decide +kernel
theorem dL_area_14 : decode cL_area 14 = .ok (.ireturn, 1) := by decide +kernel
theorem dL_area_15 : decode cL_area 15 = .ok (.iconst 0, 1) := by decide +kernel
theorem dL_area_16 : decode cL_area 16 = .ok (.ireturn, 1) := by decide +kernel
theorem dL_middle_0 : decode cL_middle 0 = .ok (.aload_n 3, 1) := by decide +kernel
theorem dL_middle_1 : decode cL_middle 1 = .ok (.iconst 0, 1) := by decide +kernel
theorem dL_middle_2 : decode cL_middle 2 = .ok (.aload_n 0, 1) := by decide +kernel
theorem dL_middle_3 : decode cL_middle 3 = .ok (.iload_n 1, 1) := by decide +kernel
theorem dL_middle_4 : decode cL_middle 4 = .ok (.iload_n 2, 1) := by decide +kernel
theorem dL_middle_5 : decode cL_middle 5 = .ok (.invokevirtual 120, 3) := by decide +kernel
theorem dL_middle_8 : decode cL_middle 8 = .ok (.i2l, 1) := by decide +kernel
theorem dL_middle_9 : decode cL_middle 9 = .ok (.lastore, 1) := by decide +kernel
theorem dL_middle_10 : decode cL_middle 10 = .ok (.goto 7, 3) := by decide +kernel
theorem dL_middle_13 : decode cL_middle 13 = .ok (.astore 4, 2) := by decide +kernel
theorem dL_middle_15 : decode cL_middle 15 = .ok (.iconst 1, 1) := by decide +kernel
theorem dL_middle_16 : decode cL_middle 16 = .ok (.ireturn, 1) := by decide +kernel
theorem dL_middle_17 : decode cL_middle 17 = .ok (.iconst 0, 1) := by decide +kernel
theorem dL_middle_18 : decode cL_middle 18 = .ok (.ireturn, 1) := by decide +kernel
theorem dL_line_0 : decode cL_line 0 = .ok (.aload 4, 2) := by decide +kernel
theorem dL_line_2 : decode cL_line 2 = .ok (.iconst 0, 1) := by decide +kernel
theorem dL_line_3 : decode cL_line 3 = .ok (.aload_n 0, 1) := by decide +kernel
theorem dL_line_4 : decode cL_line 4 = .ok (.iload_n 1, 1) := by decide +kernel
theorem dL_line_5 : decode cL_line 5 = .ok (.iload_n 2, 1) := by decide +kernel
theorem dL_line_6 : decode cL_line 6 = .ok (.iload_n 3, 1) := by decide +kernel
theorem dL_line_7 : decode cL_line 7 = .ok (.invokevirtual 123, 3) := by decide +kernel
theorem dL_line_10 : decode cL_line 10 = .ok (.i2l, 1) := by decide +kernel
theorem dL_line_11 : decode cL_line 11 = .ok (.lastore, 1) := by decide +kernel
theorem dL_line_12 : decode cL_line 12 = .ok (.goto 7, 3) := by decide +kernel
theorem dL_line_15 : decode cL_line 15 = .ok (.astore 5, 2) := by decide +kernel
theorem dL_line_17 : decode cL_line 17 = .ok (.iconst 1, 1) := by decide +kernel
theorem dL_line_18 : decode cL_line 18 = .ok (.ireturn, 1) := by decide +kernel
theorem dL_line_19 : decode cL_line 19 = .ok (.iconst 0, 1) := by decide +kernel
theorem dL_line_20 : decode cL_line 20 = .ok (.ireturn, 1) := by decide +kernel
theorem dL_joined_0 : decode cL_joined 0 = .ok (.aload 4, 2) := by decide +kernel
theorem dL_joined_2 : decode cL_joined 2 = .ok (.iconst 0, 1) := by decide +kernel
theorem dL_joined_3 : decode cL_joined 3 = .ok (.aload_n 0, 1) := by decide +kernel
theorem dL_joined_4 : decode cL_joined 4 = .ok (.iload_n 1, 1) := by decide +kernel
theorem dL_joined_5 : decode cL_joined 5 = .ok (.iload_n 2, 1) := by decide +kernel
theorem dL_joined_6 : decode cL_joined 6 = .ok (.iload_n 3, 1) := by decide +kernel
theorem dL_joined_7 : decode cL_joined 7 = .ok (.invokevirtual 127, 3) := by decide +kernel
theorem dL_joined_10 : decode cL_joined 10 = .ok (.i2l, 1) := by decide +kernel
theorem dL_joined_11 : decode cL_joined 11 = .ok (.lastore, 1) := by decide +kernel
theorem dL_joined_12 : decode cL_joined 12 = .ok (.goto 11, 3) := by decide +kernel
theorem dL_joined_15 : decode cL_joined 15 = .ok (.astore 5, 2) := by decide +kernel
theorem dL_joined_17 : decode cL_joined 17 = .ok (.iconst 1, 1) := by decide +kernel
theorem dL_joined_18 : decode cL_joined 18 = .ok (.ireturn, 1) := by decide +kernel
theorem dL_joined_19 : decode cL_joined 19 = .ok (.astore 5, 2) := by decide +kernel
theorem dL_joined_21 : decode cL_joined 21 = .ok (.iconst 2, 1) := by decide +kernel
theorem dL_joined_22 : decode cL_joined 22 = .ok (.ireturn, 1) := by decide +kernel
theorem dL_joined_23 : decode cL_joined 23 = .ok (.iconst 0, 1) := by decide +kernel
theorem dL_joined_24 : decode cL_joined 24 = .ok (.ireturn, 1) := by decide +kernel
theorem dL_write_0 : decode cL_write 0 = .ok (.aload_n 2, 1) := by decide +kernel
theorem dL_write_1 : decode cL_write 1 = .ok (.iconst 0, 1) := by decide +kernel
theorem dL_write_2 : decode cL_write 2 = .ok (.aload_n 0, 1) := by decide +kernel
theorem dL_write_3 : decode cL_write 3 = .ok (.iload_n 1, 1) := by decide +kernel
theorem dL_write_4 : decode cL_write 4 = .ok (.invokevirtual 130, 3) := by decide +kernel
theorem dL_write_7 : decode cL_write 7 = .ok (.i2l, 1) := by decide +kernel
theorem dL_write_8 : decode cL_write 8 = .ok (.lastore, 1) := by decide +kernel
theorem dL_write_9 : decode cL_write 9 = .ok (.goto 6, 3) := by decide +kernel
theorem dL_write_12 : decode cL_write 12 = .ok (.astore_n 3, 1) := by decide +kernel
theorem dL_write_13 : decode cL_write 13 = .ok (.iconst 1, 1) := by decide +kernel
theorem dL_write_14 : decode cL_write 14 = .ok (.ireturn, 1) := by decide +kernel
theorem dL_write_15 : decode cL_write 15 = .ok (.iconst 0, 1) := by decide +kernel
theorem dL_write_16 : decode cL_write 16 = .ok (.ireturn, 1) := by decide +kernel
