theorem dX0_init_0 : decode cX0_init 0 = .ok (.aload_n 0, 1) := by decide +kernel
theorem dX0_init_1 : decode cX0_init 1 = .ok (.invokespecial 3, 3) := by decide +kernel
theorem dX0_init_4 : decode cX0_init 4 = .ok (.aload_n 0, 1) := by decide +kernel
theorem dX0_init_5 : decode cX0_init 5 = .ok (.bipush 11, 2) := by decide +kernel
theorem dX0_init_7 : decode cX0_init 7 = .ok (.newarray .int, 2) := by decide +kernel
theorem dX0_init_9 : decode cX0_init 9 = .ok (.putfield 11, 3) := by decide +kernel
theorem dX0_init_12 : decode cX0_init 12 = .ok (.aload_n 0, 1) := by decide +kernel
theorem dX0_init_13 : decode cX0_init 13 = .ok (.bipush 64, 2) := by decide +kernel
theorem dX0_init_15 : decode cX0_init 15 = .ok (.newarray .int, 2) := by decide +kernel
theorem dX0_init_17 : decode cX0_init 17 = .ok (.putfield 15, 3) := by decide +kernel
theorem dX0_init_20 : decode cX0_init 20 = .ok (.aload_n 0, 1) := by decide +kernel
theorem dX0_init_21 : decode cX0_init 21 = .ok (.bipush 64, 2) := by decide +kernel
theorem dX0_init_23 : decode cX0_init 23 = .ok (.newarray .int, 2) := by decide +kernel
theorem dX0_init_25 : decode cX0_init 25 = .ok (.putfield 18, 3) := by decide +kernel
theorem dX0_init_28 : decode cX0_init 28 = .ok (.aload_n 0, 1) := by decide +kernel
theorem dX0_init_29 : decode cX0_init 29 = .ok (.iconst 3, 1) := by decide +kernel
theorem dX0_init_30 : decode cX0_init 30 = .ok (.newarray .int, 2) := by decide +kernel
theorem dX0_init_32 : decode cX0_init 32 = .ok (.putfield 21, 3) := by decide +kernel
theorem dX0_init_35 : decode cX0_init 35 = .ok (.aload_n 0, 1) := by decide +kernel
theorem dX0_init_36 : decode cX0_init 36 = .ok (.bipush 17, 2) := by decide +kernel
theorem dX0_init_38 : decode cX0_init 38 = .ok (.newarray .int, 2) := by decide +kernel
theorem dX0_init_40 : decode cX0_init 40 = .ok (.putfield 24, 3) := by decide +kernel
theorem dX0_init_43 : decode cX0_init 43 = .ok (.aload_n 0, 1) := by decide +kernel
theorem dX0_init_44 : decode cX0_init 44 = .ok (.invokevirtual 27, 3) := by decide +kernel
theorem dX0_init_47 : decode cX0_init 47 = .ok (.aload_n 0, 1) := by decide +kernel
theorem dX0_init_48 : decode cX0_init 48 = .ok (.invokevirtual 30, 3) := by decide +kernel
theorem dX0_init_51 : decode cX0_init 51 = .ok (.return_, 1) := by decide +kernel
theorem dX0_columns_0 : decode cX0_columns 0 = .ok (.aload_n 0, 1) := by decide +kernel
theorem dX0_columns_1 : decode cX0_columns 1 = .ok (.getfield 11, 3) := by decide +kernel
theorem dX0_columns_4 : decode cX0_columns 4 = .ok (.iconst 0, 1) := by decide +kernel
theorem dX0_columns_5 : decode cX0_columns 5 = .ok (.iaload, 1) := by decide +kernel
theorem dX0_columns_6 : decode cX0_columns 6 = .ok (.ireturn, 1) := by decide +kernel
theorem dX0_rows_0 : decode cX0_rows 0 = .ok (.aload_n 0, 1) := by decide +kernel
theorem dX0_rows_1 : decode cX0_rows 1 = .ok (.getfield 11, 3) := by decide +kernel
theorem dX0_rows_4 : decode cX0_rows 4 = .ok (.iconst 1, 1) := by decide +kernel
theorem dX0_rows_5 : decode cX0_rows 5 = .ok (.iaload, 1) := by decide +kernel
theorem dX0_rows_6 : decode cX0_rows 6 = .ok (.ireturn, 1) := by decide +kernel
theorem dX0_cells_0 : decode cX0_cells 0 = .ok (.aload_n 0, 1) := by decide +kernel
theorem dX0_cells_1 : decode cX0_cells 1 = .ok (.getfield 11, 3) := by decide +kernel
theorem dX0_cells_4 : decode cX0_cells 4 = .ok (.iconst 0, 1) := by decide +kernel
theorem dX0_cells_5 : decode cX0_cells 5 = .ok (.iaload, 1) := by decide +kernel
theorem dX0_cells_6 : decode cX0_cells 6 = .ok (.aload_n 0, 1) := by decide +kernel
theorem dX0_cells_7 : decode cX0_cells 7 = .ok (.getfield 11, 3) := by decide +kernel
theorem dX0_cells_10 : decode cX0_cells 10 = .ok (.iconst 1, 1) := by decide +kernel
theorem dX0_cells_11 : decode cX0_cells 11 = .ok (.iaload, 1) := by decide +kernel
theorem dX0_cells_12 : decode cX0_cells 12 = .ok (.imul, 1) := by decide +kernel
theorem dX0_cells_13 : decode cX0_cells 13 = .ok (.ireturn, 1) := by decide +kernel
theorem dX0_fall_0 : decode cX0_fall 0 = .ok (.aload_n 0, 1) := by decide +kernel
theorem dX0_fall_1 : decode cX0_fall 1 = .ok (.getfield 11, 3) := by decide +kernel
theorem dX0_fall_4 : decode cX0_fall 4 = .ok (.bipush 6, 2) := by decide +kernel
theorem dX0_fall_6 : decode cX0_fall 6 = .ok (.iaload, 1) := by decide +kernel
theorem dX0_fall_7 : decode cX0_fall 7 = .ok (.ireturn, 1) := by decide +kernel
theorem dX0_firstHeight_0 : decode cX0_firstHeight 0 = .ok (.iload_n 1, 1) := by decide +kernel
theorem dX0_firstHeight_1 : decode cX0_firstHeight 1 = .ok (.ifCond .lt 25, 3) := by decide +kernel
theorem dX0_firstHeight_4 : decode cX0_firstHeight 4 = .ok (.iload_n 1, 1) := by decide +kernel
theorem dX0_firstHeight_5 : decode cX0_firstHeight 5 = .ok (.bipush 64, 2) := by decide +kernel
theorem dX0_firstHeight_7 : decode cX0_firstHeight 7 = .ok (.if_icmp .ge 19, 3) := by decide +kernel
theorem dX0_firstHeight_10 : decode cX0_firstHeight 10 = .ok (.aload_n 0, 1) := by decide +kernel
theorem dX0_firstHeight_11 : decode cX0_firstHeight 11 = .ok (.getfield 11, 3) := by decide +kernel
theorem dX0_firstHeight_14 : decode cX0_firstHeight 14 = .ok (.iconst 2, 1) := by decide +kernel
theorem dX0_firstHeight_15 : decode cX0_firstHeight 15 = .ok (.iaload, 1) := by decide +kernel
theorem dX0_firstHeight_16 : decode cX0_firstHeight 16 = .ok (.aload_n 0, 1) := by decide +kernel
theorem dX0_firstHeight_17 : decode cX0_firstHeight 17 = .ok (.getfield 15, 3) := by decide +kernel
theorem dX0_firstHeight_20 : decode cX0_firstHeight 20 = .ok (.iload_n 1, 1) := by decide +kernel
theorem dX0_firstHeight_21 : decode cX0_firstHeight 21 = .ok (.iaload, 1) := by decide +kernel
theorem dX0_firstHeight_22 : decode cX0_firstHeight 22 = .ok (.iadd, 1) := by decide +kernel
theorem dX0_firstHeight_23 : decode cX0_firstHeight 23 = .ok (.goto 4, 3) := by decide +kernel
theorem dX0_firstHeight_26 : decode cX0_firstHeight 26 = .ok (.iconst 0, 1) := by decide +kernel
theorem dX0_firstHeight_27 : decode cX0_firstHeight 27 = .ok (.ireturn, 1) := by decide +kernel
theorem dX0_bearing_0 : decode cX0_bearing 0 = .ok (.iload_n 1, 1) := by decide +kernel
theorem dX0_bearing_1 : decode cX0_bearing 1 = .ok (.ifCond .lt 18, 3) := by decide +kernel
theorem dX0_bearing_4 : decode cX0_bearing 4 = .ok (.iload_n 1, 1) := by decide +kernel
theorem dX0_bearing_5 : decode cX0_bearing 5 = .ok (.bipush 16, 2) := by decide +kernel
theorem dX0_bearing_7 : decode cX0_bearing 7 = .ok (.if_icmp .gt 12, 3) := by decide +kernel
theorem dX0_bearing_10 : decode cX0_bearing 10 = .ok (.aload_n 0, 1) := by decide +kernel
theorem dX0_bearing_11 : decode cX0_bearing 11 = .ok (.getfield 24, 3) := by decide +kernel
theorem dX0_bearing_14 : decode cX0_bearing 14 = .ok (.iload_n 1, 1) := by decide +kernel
theorem dX0_bearing_15 : decode cX0_bearing 15 = .ok (.iaload, 1) := by decide +kernel
theorem dX0_bearing_16 : decode cX0_bearing 16 = .ok (.goto 4, 3) := by decide +kernel
theorem dX0_bearing_19 : decode cX0_bearing 19 = .ok (.iconst 0, 1) := by decide +kernel
theorem dX0_bearing_20 : decode cX0_bearing 20 = .ok (.istore_n 3, 1) := by decide +kernel
theorem dX0_bearing_21 : decode cX0_bearing 21 = .ok (.iconst 1, 1) := by decide +kernel
theorem dX0_bearing_22 : decode cX0_bearing 22 = .ok (.iload_n 3, 1) := by decide +kernel
theorem dX0_bearing_23 : decode cX0_bearing 23 = .ok (.iadd, 1) := by decide +kernel
theorem dX0_bearing_24 : decode cX0_bearing 24 = .ok (.iload_n 2, 1) := by decide +kernel
theorem dX0_bearing_25 : decode cX0_bearing 25 = .ok (.aload_n 0, 1) := by decide +kernel
theorem dX0_bearing_26 : decode cX0_bearing 26 = .ok (.getfield 11, 3) := by decide +kernel
theorem dX0_bearing_29 : decode cX0_bearing 29 = .ok (.iconst 3, 1) := by decide +kernel
theorem dX0_bearing_30 : decode cX0_bearing 30 = .ok (.iaload, 1) := by decide +kernel
theorem dX0_bearing_31 : decode cX0_bearing 31 = .ok (.imul, 1) := by decide +kernel
theorem dX0_bearing_32 : decode cX0_bearing 32 = .ok (.iadd, 1) := by decide +kernel
theorem dX0_bearing_33 : decode cX0_bearing 33 = .ok (.ireturn, 1) := by decide +kernel
theorem dX0_readFrom_0 : decode cX0_readFrom 0 = .ok (.aload_n 0, 1) := by decide +kernel
theorem dX0_readFrom_1 : decode cX0_readFrom 1 = .ok (.invokevirtual 27, 3) := by decide +kernel
theorem dX0_readFrom_4 : decode cX0_readFrom 4 = .ok (.iconst 0, 1) := by decide +kernel
theorem dX0_readFrom_5 : decode cX0_readFrom 5 = .ok (.istore_n 2, 1) := by decide +kernel
theorem dX0_readFrom_6 : decode cX0_readFrom 6 = .ok (.iload_n 2, 1) := by decide +kernel
theorem dX0_readFrom_7 : decode cX0_readFrom 7 = .ok (.sipush 900, 3) := by decide +kernel
theorem dX0_readFrom_10 : decode cX0_readFrom 10 = .ok (.if_icmp .ge 35, 3) := by decide +kernel
theorem dX0_readFrom_13 : decode cX0_readFrom 13 = .ok (.aload_n 1, 1) := by decide +kernel
theorem dX0_readFrom_14 : decode cX0_readFrom 14 = .ok (.invokevirtual 35, 3) := by decide +kernel
theorem dX0_readFrom_17 : decode cX0_readFrom 17 = .ok (.ifCond .eq 28, 3) := by decide +kernel
theorem dX0_readFrom_20 : decode cX0_readFrom 20 = .ok (.aload_n 0, 1) := by decide +kernel
theorem dX0_readFrom_21 : decode cX0_readFrom 21 = .ok (.aload_n 1, 1) := by decide +kernel
theorem dX0_readFrom_22 : decode cX0_readFrom 22 = .ok (.invokevirtual 39, 3) := by decide +kernel
theorem dX0_readFrom_25 : decode cX0_readFrom 25 = .ok (.aload_n 1, 1) := by decide +kernel
theorem dX0_readFrom_26 : decode cX0_readFrom 26 = .ok (.invokevirtual 43, 3) := by decide +kernel
theorem dX0_readFrom_29 : decode cX0_readFrom 29 = .ok (.aload_n 0, 1) := by decide +kernel
theorem dX0_readFrom_30 : decode cX0_readFrom 30 = .ok (.dup, 1) := by decide +kernel
theorem dX0_readFrom_31 : decode cX0_readFrom 31 = .ok (.getfield 46, 3) := by decide +kernel
theorem dX0_readFrom_34 : decode cX0_readFrom 34 = .ok (.iconst 1, 1) := by decide +kernel
theorem dX0_readFrom_35 : decode cX0_readFrom 35 = .ok (.iadd, 1) := by decide +kernel
theorem dX0_readFrom_36 : decode cX0_readFrom 36 = .ok (.putfield 46, 3) := by decide +kernel
theorem dX0_readFrom_39 : decode cX0_readFrom 39 = .ok (.iinc 2 1, 3) := by decide +kernel
theorem dX0_readFrom_42 : decode cX0_readFrom 42 = .ok (.goto (-36), 3) := by decide +kernel
theorem dX0_readFrom_45 : decode cX0_readFrom 45 = .ok (.aload_n 0, 1) := by decide +kernel
theorem dX0_readFrom_46 : decode cX0_readFrom 46 = .ok (.invokevirtual 30, 3) := by decide +kernel
theorem dX0_readFrom_49 : decode cX0_readFrom 49 = .ok (.return_, 1) := by decide +kernel
theorem dX0_needCell_0 : decode cX0_needCell 0 = .ok (.aload_n 1, 1) := by decide +kernel
theorem dX0_needCell_1 : decode cX0_needCell 1 = .ok (.iconst 0, 1) := by decide +kernel
theorem dX0_needCell_2 : decode cX0_needCell 2 = .ok (.aload_n 0, 1) := by decide +kernel
theorem dX0_needCell_3 : decode cX0_needCell 3 = .ok (.invokevirtual 50, 3) := by decide +kernel
theorem dX0_needCell_6 : decode cX0_needCell 6 = .ok (.iconst 1, 1) := by decide +kernel
theorem dX0_needCell_7 : decode cX0_needCell 7 = .ok (.isub, 1) := by decide +kernel
theorem dX0_needCell_8 : decode cX0_needCell 8 = .ok (.invokevirtual 54, 3) := by decide +kernel
theorem dX0_needCell_11 : decode cX0_needCell 11 = .ok (.istore_n 2, 1) := by decide +kernel
theorem dX0_needCell_12 : decode cX0_needCell 12 = .ok (.aload_n 1, 1) := by decide +kernel
theorem dX0_needCell_13 : decode cX0_needCell 13 = .ok (.iconst 0, 1) := by decide +kernel
theorem dX0_needCell_14 : decode cX0_needCell 14 = .ok (.aload_n 0, 1) := by decide +kernel
theorem dX0_needCell_15 : decode cX0_needCell 15 = .ok (.invokevirtual 58, 3) := by decide +kernel
theorem dX0_needCell_18 : decode cX0_needCell 18 = .ok (.iconst 1, 1) := by decide +kernel
theorem dX0_needCell_19 : decode cX0_needCell 19 = .ok (.isub, 1) := by decide +kernel
theorem dX0_needCell_20 : decode cX0_needCell 20 = .ok (.invokevirtual 54, 3) := by decide +kernel
theorem dX0_needCell_23 : decode cX0_needCell 23 = .ok (.istore_n 3, 1) := by decide +kernel
theorem dX0_needCell_24 : decode cX0_needCell 24 = .ok (.iload_n 3, 1) := by decide +kernel
theorem dX0_needCell_25 : decode cX0_needCell 25 = .ok (.aload_n 0, 1) := by decide +kernel
theorem dX0_needCell_26 : decode cX0_needCell 26 = .ok (.invokevirtual 50, 3) := by decide +kernel
theorem dX0_needCell_29 : decode cX0_needCell 29 = .ok (.imul, 1) := by decide +kernel
theorem dX0_needCell_30 : decode cX0_needCell 30 = .ok (.iload_n 2, 1) := by decide +kernel
theorem dX0_needCell_31 : decode cX0_needCell 31 = .ok (.iadd, 1) := by decide +kernel
theorem dX0_needCell_32 : decode cX0_needCell 32 = .ok (.ireturn, 1) := by decide +kernel
theorem dX0_clear_0 : decode cX0_clear 0 = .ok (.getstatic 61, 3) := by decide +kernel
theorem dX0_clear_3 : decode cX0_clear 3 = .ok (.iconst 0, 1) := by decide +kernel
theorem dX0_clear_4 : decode cX0_clear 4 = .ok (.aload_n 0, 1) := by decide +kernel
theorem dX0_clear_5 : decode cX0_clear 5 = .ok (.getfield 11, 3) := by decide +kernel
theorem dX0_clear_8 : decode cX0_clear 8 = .ok (.iconst 0, 1) := by decide +kernel
theorem dX0_clear_9 : decode cX0_clear 9 = .ok (.bipush 11, 2) := by decide +kernel
theorem dX0_clear_11 : decode cX0_clear 11 = .ok (.invokestatic 64, 3) := by decide +kernel
theorem dX0_clear_14 : decode cX0_clear 14 = .ok (.aload_n 0, 1) := by decide +kernel
theorem dX0_clear_15 : decode cX0_clear 15 = .ok (.getfield 15, 3) := by decide +kernel
theorem dX0_clear_18 : decode cX0_clear 18 = .ok (.iconst 0, 1) := by decide +kernel
theorem dX0_clear_19 : decode cX0_clear 19 = .ok (.invokestatic 70, 3) := by decide +kernel
theorem dX0_clear_22 : decode cX0_clear 22 = .ok (.aload_n 0, 1) := by decide +kernel
theorem dX0_clear_23 : decode cX0_clear 23 = .ok (.getfield 18, 3) := by decide +kernel
theorem dX0_clear_26 : decode cX0_clear 26 = .ok (.iconst 0, 1) := by decide +kernel
theorem dX0_clear_27 : decode cX0_clear 27 = .ok (.invokestatic 70, 3) := by decide +kernel
theorem dX0_clear_30 : decode cX0_clear 30 = .ok (.aload_n 0, 1) := by decide +kernel
theorem dX0_clear_31 : decode cX0_clear 31 = .ok (.iconst 0, 1) := by decide +kernel
theorem dX0_clear_32 : decode cX0_clear 32 = .ok (.putfield 76, 3) := by decide +kernel
theorem dX0_clear_35 : decode cX0_clear 35 = .ok (.aload_n 0, 1) := by decide +kernel
theorem dX0_clear_36 : decode cX0_clear 36 = .ok (.iconst 0, 1) := by decide +kernel
theorem dX0_clear_37 : decode cX0_clear 37 = .ok (.putfield 46, 3) := by decide +kernel
theorem dX0_clear_40 : decode cX0_clear 40 = .ok (.aload_n 0, 1) := by decide +kernel
theorem dX0_clear_41 : decode cX0_clear 41 = .ok (.iconst 0, 1) := by decide +kernel
theorem dX0_clear_42 : decode cX0_clear 42 = .ok (.putfield 79, 3) := by decide +kernel
theorem dX0_clear_45 : decode cX0_clear 45 = .ok (.aload_n 0, 1) := by decide +kernel
theorem dX0_clear_46 : decode cX0_clear 46 = .ok (.iconst 0, 1) := by decide +kernel
theorem dX0_clear_47 : decode cX0_clear 47 = .ok (.putfield 82, 3) := by decide +kernel
theorem dX0_clear_50 : decode cX0_clear 50 = .ok (.return_, 1) := by decide +kernel
theorem dX0_weigh_0 : decode cX0_weigh 0 = .ok (.iconst 0, 1) := by decide +kernel
theorem dX0_weigh_1 : decode cX0_weigh 1 = .ok (.istore_n 1, 1) := by decide +kernel
theorem dX0_weigh_2 : decode cX0_weigh 2 = .ok (.iload_n 1, 1) := by decide +kernel
theorem dX0_weigh_3 : decode cX0_weigh 3 = .ok (.bipush 16, 2) := by decide +kernel
theorem dX0_weigh_5 : decode cX0_weigh 5 = .ok (.if_icmp .gt 40, 3) := by decide +kernel
theorem dX0_weigh_8 : decode cX0_weigh 8 = .ok (.aload_n 0, 1) := by decide +kernel
theorem dX0_weigh_9 : decode cX0_weigh 9 = .ok (.getfield 24, 3) := by decide +kernel
theorem dX0_weigh_12 : decode cX0_weigh 12 = .ok (.iload_n 1, 1) := by decide +kernel
theorem dX0_weigh_13 : decode cX0_weigh 13 = .ok (.iload_n 1, 1) := by decide +kernel
theorem dX0_weigh_14 : decode cX0_weigh 14 = .ok (.aload_n 0, 1) := by decide +kernel
theorem dX0_weigh_15 : decode cX0_weigh 15 = .ok (.getfield 11, 3) := by decide +kernel
theorem dX0_weigh_18 : decode cX0_weigh 18 = .ok (.bipush 8, 2) := by decide +kernel
theorem dX0_weigh_20 : decode cX0_weigh 20 = .ok (.iaload, 1) := by decide +kernel
theorem dX0_weigh_21 : decode cX0_weigh 21 = .ok (.aload_n 0, 1) := by decide +kernel
theorem dX0_weigh_22 : decode cX0_weigh 22 = .ok (.getfield 11, 3) := by decide +kernel
theorem dX0_weigh_25 : decode cX0_weigh 25 = .ok (.bipush 9, 2) := by decide +kernel
theorem dX0_weigh_27 : decode cX0_weigh 27 = .ok (.iaload, 1) := by decide +kernel
theorem dX0_weigh_28 : decode cX0_weigh 28 = .ok (.aload_n 0, 1) := by decide +kernel
theorem dX0_weigh_29 : decode cX0_weigh 29 = .ok (.getfield 11, 3) := by decide +kernel
theorem dX0_weigh_32 : decode cX0_weigh 32 = .ok (.bipush 10, 2) := by decide +kernel
theorem dX0_weigh_34 : decode cX0_weigh 34 = .ok (.iaload, 1) := by decide +kernel
theorem dX0_weigh_35 : decode cX0_weigh 35 = .ok (.invokestatic 86, 3) := by decide +kernel
theorem dX0_weigh_38 : decode cX0_weigh 38 = .ok (.iastore, 1) := by decide +kernel
theorem dX0_weigh_39 : decode cX0_weigh 39 = .ok (.iinc 1 1, 3) := by decide +kernel
theorem dX0_weigh_42 : decode cX0_weigh 42 = .ok (.goto (-40), 3) := by decide +kernel
theorem dX0_weigh_45 : decode cX0_weigh 45 = .ok (.return_, 1) := by decide +kernel
theorem dX0_readClause_0 : decode cX0_readClause 0 = .ok (.aload_n 1, 1) := by decide +kernel
theorem dX0_readClause_1 : decode cX0_readClause 1 = .ok (.invokestatic 90, 3) := by decide +kernel
theorem dX0_readClause_4 : decode cX0_readClause 4 = .ok (.istore_n 2, 1) := by decide +kernel
theorem dX0_readClause_5 : decode cX0_readClause 5 = .ok (.iload_n 2, 1) := by decide +kernel
theorem dX0_readClause_6 : decode cX0_readClause 6 = .ok (.iconst (-1), 1) := by decide +kernel
theorem dX0_readClause_7 : decode cX0_readClause 7 = .ok (.if_icmp .eq 12, 3) := by decide +kernel
theorem dX0_readClause_10 : decode cX0_readClause 10 = .ok (.aload_n 0, 1) := by decide +kernel
theorem dX0_readClause_11 : decode cX0_readClause 11 = .ok (.aload_n 1, 1) := by decide +kernel
theorem dX0_readClause_12 : decode cX0_readClause 12 = .ok (.iload_n 2, 1) := by decide +kernel
theorem dX0_readClause_13 : decode cX0_readClause 13 = .ok (.invokevirtual 94, 3) := by decide +kernel
theorem dX0_readClause_16 : decode cX0_readClause 16 = .ok (.goto 59, 3) := by decide +kernel
theorem dX0_readClause_19 : decode cX0_readClause 19 = .ok (.aload_n 1, 1) := by decide +kernel
theorem dX0_readClause_20 : decode cX0_readClause 20 = .ok (.ldc 98, 2) := by decide +kernel
theorem dX0_readClause_22 : decode cX0_readClause 22 = .ok (.invokevirtual 100, 3) := by decide +kernel
theorem dX0_readClause_25 : decode cX0_readClause 25 = .ok (.ifCond .eq 11, 3) := by decide +kernel
theorem dX0_readClause_28 : decode cX0_readClause 28 = .ok (.aload_n 0, 1) := by decide +kernel
theorem dX0_readClause_29 : decode cX0_readClause 29 = .ok (.aload_n 1, 1) := by decide +kernel
theorem dX0_readClause_30 : decode cX0_readClause 30 = .ok (.invokevirtual 104, 3) := by decide +kernel
theorem dX0_readClause_33 : decode cX0_readClause 33 = .ok (.goto 42, 3) := by decide +kernel
theorem dX0_readClause_36 : decode cX0_readClause 36 = .ok (.aload_n 1, 1) := by decide +kernel
theorem dX0_readClause_37 : decode cX0_readClause 37 = .ok (.ldc 107, 2) := by decide +kernel
theorem dX0_readClause_39 : decode cX0_readClause 39 = .ok (.invokevirtual 100, 3) := by decide +kernel
theorem dX0_readClause_42 : decode cX0_readClause 42 = .ok (.ifCond .eq 11, 3) := by decide +kernel
theorem dX0_readClause_45 : decode cX0_readClause 45 = .ok (.aload_n 0, 1) := by decide +kernel
theorem dX0_readClause_46 : decode cX0_readClause 46 = .ok (.aload_n 1, 1) := by decide +kernel
theorem dX0_readClause_47 : decode cX0_readClause 47 = .ok (.invokevirtual 109, 3) := by decide +kernel
theorem dX0_readClause_50 : decode cX0_readClause 50 = .ok (.goto 25, 3) := by decide +kernel
theorem dX0_readClause_53 : decode cX0_readClause 53 = .ok (.aload_n 1, 1) := by decide +kernel
theorem dX0_readClause_54 : decode cX0_readClause 54 = .ok (.ldc 112, 2) := by decide +kernel
theorem dX0_readClause_56 : decode cX0_readClause 56 = .ok (.invokevirtual 100, 3) := by decide +kernel
theorem dX0_readClause_59 : decode cX0_readClause 59 = .ok (.ifCond .eq 11, 3) := by decide +kernel
theorem dX0_readClause_62 : decode cX0_readClause 62 = .ok (.aload_n 0, 1) := by decide +kernel
theorem dX0_readClause_63 : decode cX0_readClause 63 = .ok (.aload_n 1, 1) := by decide +kernel
theorem dX0_readClause_64 : decode cX0_readClause 64 = .ok (.invokevirtual 114, 3) := by decide +kernel
theorem dX0_readClause_67 : decode cX0_readClause 67 = .ok (.goto 8, 3) := by decide +kernel
theorem dX0_readClause_70 : decode cX0_readClause 70 = .ok (.aload_n 1, 1) := by decide +kernel
theorem dX0_readClause_71 : decode cX0_readClause 71 = .ok (.iconst 1, 1) := by decide +kernel
theorem dX0_readClause_72 : decode cX0_readClause 72 = .ok (.invokevirtual 117, 3) := by decide +kernel
theorem dX0_readClause_75 : decode cX0_readClause 75 = .ok (.return_, 1) := by decide +kernel
theorem dX0_firstNumberOf_0 : decode cX0_firstNumberOf 0 = .ok (.aload_n 0, 1) := by decide +kernel
theorem dX0_firstNumberOf_1 : decode cX0_firstNumberOf 1 = .ok (.ldc 121, 2) := by decide +kernel
theorem dX0_firstNumberOf_3 : decode cX0_firstNumberOf 3 = .ok (.invokevirtual 100, 3) := by decide +kernel
theorem dX0_firstNumberOf_6 : decode cX0_firstNumberOf 6 = .ok (.ifCond .eq 5, 3) := by decide +kernel
theorem dX0_firstNumberOf_9 : decode cX0_firstNumberOf 9 = .ok (.iconst 0, 1) := by decide +kernel
theorem dX0_firstNumberOf_10 : decode cX0_firstNumberOf 10 = .ok (.ireturn, 1) := by decide +kernel
theorem dX0_firstNumberOf_11 : decode cX0_firstNumberOf 11 = .ok (.aload_n 0, 1) := by decide +kernel
theorem dX0_firstNumberOf_12 : decode cX0_firstNumberOf 12 = .ok (.ldc 123, 2) := by decide +kernel
theorem dX0_firstNumberOf_14 : decode cX0_firstNumberOf 14 = .ok (.invokevirtual 100, 3) := by decide +kernel
theorem dX0_firstNumberOf_17 : decode cX0_firstNumberOf 17 = .ok (.ifCond .eq 5, 3) := by decide +kernel
theorem dX0_firstNumberOf_20 : decode cX0_firstNumberOf 20 = .ok (.iconst 2, 1) := by decide +kernel
theorem dX0_firstNumberOf_21 : decode cX0_firstNumberOf 21 = .ok (.ireturn, 1) := by decide +kernel
theorem dX0_firstNumberOf_22 : decode cX0_firstNumberOf 22 = .ok (.aload_n 0, 1) := by decide +kernel
theorem dX0_firstNumberOf_23 : decode cX0_firstNumberOf 23 = .ok (.ldc 125, 2) := by decide +kernel
theorem dX0_firstNumberOf_25 : decode cX0_firstNumberOf 25 = .ok (.invokevirtual 100, 3) := by decide +kernel
theorem dX0_firstNumberOf_28 : decode cX0_firstNumberOf 28 = .ok (.ifCond .eq 5, 3) := by decide +kernel
theorem dX0_firstNumberOf_31 : decode cX0_firstNumberOf 31 = .ok (.iconst 3, 1) := by decide +kernel
theorem dX0_firstNumberOf_32 : decode cX0_firstNumberOf 32 = .ok (.ireturn, 1) := by decide +kernel
theorem dX0_firstNumberOf_33 : decode cX0_firstNumberOf 33 = .ok (.aload_n 0, 1) := by decide +kernel
theorem dX0_firstNumberOf_34 : decode cX0_firstNumberOf 34 = .ok (.ldc 127, 2) := by decide +kernel
theorem dX0_firstNumberOf_36 : decode cX0_firstNumberOf 36 = .ok (.invokevirtual 100, 3) := by decide +kernel
theorem dX0_firstNumberOf_39 : decode cX0_firstNumberOf 39 = .ok (.ifCond .eq 5, 3) := by decide +kernel
theorem dX0_firstNumberOf_42 : decode cX0_firstNumberOf 42 = .ok (.iconst 4, 1) := by decide +kernel
theorem dX0_firstNumberOf_43 : decode cX0_firstNumberOf 43 = .ok (.ireturn, 1) := by decide +kernel
theorem dX0_firstNumberOf_44 : decode cX0_firstNumberOf 44 = .ok (.aload_n 0, 1) := by decide +kernel
theorem dX0_firstNumberOf_45 : decode cX0_firstNumberOf 45 = .ok (.ldc 129, 2) := by decide +kernel
theorem dX0_firstNumberOf_47 : decode cX0_firstNumberOf 47 = .ok (.invokevirtual 100, 3) := by decide +kernel
theorem dX0_firstNumberOf_50 : decode cX0_firstNumberOf 50 = .ok (.ifCond .eq 5, 3) := by decide +kernel
theorem dX0_firstNumberOf_53 : decode cX0_firstNumberOf 53 = .ok (.iconst 5, 1) := by decide +kernel
theorem dX0_firstNumberOf_54 : decode cX0_firstNumberOf 54 = .ok (.ireturn, 1) := by decide +kernel
theorem dX0_firstNumberOf_55 : decode cX0_firstNumberOf 55 = .ok (.aload_n 0, 1) := by decide +kernel
theorem dX0_firstNumberOf_56 : decode cX0_firstNumberOf 56 = .ok (.ldc 131, 2) := by decide +kernel
theorem dX0_firstNumberOf_58 : decode cX0_firstNumberOf 58 = .ok (.invokevirtual 100, 3) := by decide +kernel
theorem dX0_firstNumberOf_61 : decode cX0_firstNumberOf 61 = .ok (.ifCond .eq 6, 3) := by decide +kernel
theorem dX0_firstNumberOf_64 : decode cX0_firstNumberOf 64 = .ok (.bipush 6, 2) := by decide +kernel
theorem dX0_firstNumberOf_66 : decode cX0_firstNumberOf 66 = .ok (.ireturn, 1) := by decide +kernel
theorem dX0_firstNumberOf_67 : decode cX0_firstNumberOf 67 = .ok (.aload_n 0, 1) := by decide +kernel
theorem dX0_firstNumberOf_68 : decode cX0_firstNumberOf 68 = .ok (.ldc 133, 2) := by decide +kernel
theorem dX0_firstNumberOf_70 : decode cX0_firstNumberOf 70 = .ok (.invokevirtual 100, 3) := by decide +kernel
theorem dX0_firstNumberOf_73 : decode cX0_firstNumberOf 73 = .ok (.ifCond .eq 6, 3) := by decide +kernel
theorem dX0_firstNumberOf_76 : decode cX0_firstNumberOf 76 = .ok (.bipush 7, 2) := by decide +kernel
theorem dX0_firstNumberOf_78 : decode cX0_firstNumberOf 78 = .ok (.ireturn, 1) := by decide +kernel
theorem dX0_firstNumberOf_79 : decode cX0_firstNumberOf 79 = .ok (.aload_n 0, 1) := by decide +kernel
theorem dX0_firstNumberOf_80 : decode cX0_firstNumberOf 80 = .ok (.ldc 135, 2) := by decide +kernel
theorem dX0_firstNumberOf_82 : decode cX0_firstNumberOf 82 = .ok (.invokevirtual 100, 3) := by decide +kernel
theorem dX0_firstNumberOf_85 : decode cX0_firstNumberOf 85 = .ok (.ifCond .eq 8, 3) := by decide +kernel
theorem dX0_firstNumberOf_88 : decode cX0_firstNumberOf 88 = .ok (.bipush 8, 2) := by decide +kernel
theorem dX0_firstNumberOf_90 : decode cX0_firstNumberOf 90 = .ok (.goto 4, 3) := by decide +kernel
theorem dX0_firstNumberOf_93 : decode cX0_firstNumberOf 93 = .ok (.iconst (-1), 1) := by decide +kernel
theorem dX0_firstNumberOf_94 : decode cX0_firstNumberOf 94 = .ok (.ireturn, 1) := by decide +kernel
theorem dX0_howMany_0 : decode cX0_howMany 0 = .ok (.iload_n 0, 1) := by decide +kernel
theorem dX0_howMany_1 : decode cX0_howMany 1 = .ok (.bipush 8, 2) := by decide +kernel
theorem dX0_howMany_3 : decode cX0_howMany 3 = .ok (.if_icmp .ne 5, 3) := by decide +kernel
theorem dX0_howMany_6 : decode cX0_howMany 6 = .ok (.iconst 3, 1) := by decide +kernel
theorem dX0_howMany_7 : decode cX0_howMany 7 = .ok (.ireturn, 1) := by decide +kernel
theorem dX0_howMany_8 : decode cX0_howMany 8 = .ok (.iload_n 0, 1) := by decide +kernel
theorem dX0_howMany_9 : decode cX0_howMany 9 = .ok (.ifCond .ne 7, 3) := by decide +kernel
theorem dX0_howMany_12 : decode cX0_howMany 12 = .ok (.iconst 2, 1) := by decide +kernel
theorem dX0_howMany_13 : decode cX0_howMany 13 = .ok (.goto 4, 3) := by decide +kernel
theorem dX0_howMany_16 : decode cX0_howMany 16 = .ok (.iconst 1, 1) := by decide +kernel
theorem dX0_howMany_17 : decode cX0_howMany 17 = .ok (.ireturn, 1) := by decide +kernel
theorem dX0_readNumbers_0 : decode cX0_readNumbers 0 = .ok (.aload_n 0, 1) := by decide +kernel
theorem dX0_readNumbers_1 : decode cX0_readNumbers 1 = .ok (.getfield 79, 3) := by decide +kernel
theorem dX0_readNumbers_4 : decode cX0_readNumbers 4 = .ok (.iload_n 2, 1) := by decide +kernel
theorem dX0_readNumbers_5 : decode cX0_readNumbers 5 = .ok (.ishr, 1) := by decide +kernel
theorem dX0_readNumbers_6 : decode cX0_readNumbers 6 = .ok (.iconst 1, 1) := by decide +kernel
theorem dX0_readNumbers_7 : decode cX0_readNumbers 7 = .ok (.iand, 1) := by decide +kernel
theorem dX0_readNumbers_8 : decode cX0_readNumbers 8 = .ok (.ifCond .eq 11, 3) := by decide +kernel
theorem dX0_readNumbers_11 : decode cX0_readNumbers 11 = .ok (.aload_n 1, 1) := by decide +kernel
theorem dX0_readNumbers_12 : decode cX0_readNumbers 12 = .ok (.iconst 3, 1) := by decide +kernel
theorem dX0_readNumbers_13 : decode cX0_readNumbers 13 = .ok (.invokevirtual 117, 3) := by decide +kernel
theorem dX0_readNumbers_16 : decode cX0_readNumbers 16 = .ok (.goto 19, 3) := by decide +kernel
theorem dX0_readNumbers_19 : decode cX0_readNumbers 19 = .ok (.iload_n 2, 1) := by decide +kernel
theorem dX0_readNumbers_20 : decode cX0_readNumbers 20 = .ok (.ifCond .ne 15, 3) := by decide +kernel
theorem dX0_readNumbers_23 : decode cX0_readNumbers 23 = .ok (.aload_n 0, 1) := by decide +kernel
theorem dX0_readNumbers_24 : decode cX0_readNumbers 24 = .ok (.getfield 82, 3) := by decide +kernel
theorem dX0_readNumbers_27 : decode cX0_readNumbers 27 = .ok (.ifCond .eq 8, 3) := by decide +kernel
theorem dX0_readNumbers_30 : decode cX0_readNumbers 30 = .ok (.aload_n 1, 1) := by decide +kernel
theorem dX0_readNumbers_31 : decode cX0_readNumbers 31 = .ok (.iconst 5, 1) := by decide +kernel
theorem dX0_readNumbers_32 : decode cX0_readNumbers 32 = .ok (.invokevirtual 117, 3) := by decide +kernel
theorem dX0_readNumbers_35 : decode cX0_readNumbers 35 = .ok (.aload_n 0, 1) := by decide +kernel
theorem dX0_readNumbers_36 : decode cX0_readNumbers 36 = .ok (.dup, 1) := by decide +kernel
theorem dX0_readNumbers_37 : decode cX0_readNumbers 37 = .ok (.getfield 79, 3) := by decide +kernel
theorem dX0_readNumbers_40 : decode cX0_readNumbers 40 = .ok (.iconst 1, 1) := by decide +kernel
theorem dX0_readNumbers_41 : decode cX0_readNumbers 41 = .ok (.iload_n 2, 1) := by decide +kernel
theorem dX0_readNumbers_42 : decode cX0_readNumbers 42 = .ok (.ishl, 1) := by decide +kernel
theorem dX0_readNumbers_43 : decode cX0_readNumbers 43 = .ok (.ior, 1) := by decide +kernel
theorem dX0_readNumbers_44 : decode cX0_readNumbers 44 = .ok (.putfield 79, 3) := by decide +kernel
theorem dX0_readNumbers_47 : decode cX0_readNumbers 47 = .ok (.bipush 11, 2) := by decide +kernel
theorem dX0_readNumbers_49 : decode cX0_readNumbers 49 = .ok (.iload_n 2, 1) := by decide +kernel
theorem dX0_readNumbers_50 : decode cX0_readNumbers 50 = .ok (.iload_n 2, 1) := by decide +kernel
theorem dX0_readNumbers_51 : decode cX0_readNumbers 51 = .ok (.invokestatic 137, 3) := by decide +kernel
theorem dX0_readNumbers_54 : decode cX0_readNumbers 54 = .ok (.iadd, 1) := by decide +kernel
theorem dX0_readNumbers_55 : decode cX0_readNumbers 55 = .ok (.invokestatic 141, 3) := by decide +kernel
theorem dX0_readNumbers_58 : decode cX0_readNumbers 58 = .ok (.istore_n 3, 1) := by decide +kernel
theorem dX0_readNumbers_59 : decode cX0_readNumbers 59 = .ok (.iload_n 2, 1) := by decide +kernel
theorem dX0_readNumbers_60 : decode cX0_readNumbers 60 = .ok (.istore 4, 2) := by decide +kernel
theorem dX0_readNumbers_62 : decode cX0_readNumbers 62 = .ok (.iload 4, 2) := by decide +kernel
theorem dX0_readNumbers_64 : decode cX0_readNumbers 64 = .ok (.iload_n 3, 1) := by decide +kernel
theorem dX0_readNumbers_65 : decode cX0_readNumbers 65 = .ok (.if_icmp .ge 32, 3) := by decide +kernel
theorem dX0_readNumbers_68 : decode cX0_readNumbers 68 = .ok (.aload_n 0, 1) := by decide +kernel
theorem dX0_readNumbers_69 : decode cX0_readNumbers 69 = .ok (.getfield 11, 3) := by decide +kernel
theorem dX0_readNumbers_72 : decode cX0_readNumbers 72 = .ok (.iload 4, 2) := by decide +kernel
theorem dX0_readNumbers_74 : decode cX0_readNumbers 74 = .ok (.aload_n 1, 1) := by decide +kernel
theorem dX0_readNumbers_75 : decode cX0_readNumbers 75 = .ok (.getstatic 146, 3) := by decide +kernel
theorem dX0_readNumbers_78 : decode cX0_readNumbers 78 = .ok (.iload 4, 2) := by decide +kernel
theorem dX0_readNumbers_80 : decode cX0_readNumbers 80 = .ok (.iaload, 1) := by decide +kernel
theorem dX0_readNumbers_81 : decode cX0_readNumbers 81 = .ok (.getstatic 149, 3) := by decide +kernel
theorem dX0_readNumbers_84 : decode cX0_readNumbers 84 = .ok (.iload 4, 2) := by decide +kernel
theorem dX0_readNumbers_86 : decode cX0_readNumbers 86 = .ok (.iaload, 1) := by decide +kernel
theorem dX0_readNumbers_87 : decode cX0_readNumbers 87 = .ok (.invokevirtual 54, 3) := by decide +kernel
theorem dX0_readNumbers_90 : decode cX0_readNumbers 90 = .ok (.iastore, 1) := by decide +kernel
theorem dX0_readNumbers_91 : decode cX0_readNumbers 91 = .ok (.iinc 4 1, 3) := by decide +kernel
theorem dX0_readNumbers_94 : decode cX0_readNumbers 94 = .ok (.goto (-32), 3) := by decide +kernel
theorem dX0_readNumbers_97 : decode cX0_readNumbers 97 = .ok (.return_, 1) := by decide +kernel
theorem dX0_readHeap_0 : decode cX0_readHeap 0 = .ok (.aload_n 1, 1) := by decide +kernel
theorem dX0_readHeap_1 : decode cX0_readHeap 1 = .ok (.iconst 1, 1) := by decide +kernel
theorem dX0_readHeap_2 : decode cX0_readHeap 2 = .ok (.bipush 40, 2) := by decide +kernel
theorem dX0_readHeap_4 : decode cX0_readHeap 4 = .ok (.invokevirtual 54, 3) := by decide +kernel
theorem dX0_readHeap_7 : decode cX0_readHeap 7 = .ok (.istore_n 2, 1) := by decide +kernel
theorem dX0_readHeap_8 : decode cX0_readHeap 8 = .ok (.aload_n 0, 1) := by decide +kernel
theorem dX0_readHeap_9 : decode cX0_readHeap 9 = .ok (.aload_n 1, 1) := by decide +kernel
theorem dX0_readHeap_10 : decode cX0_readHeap 10 = .ok (.invokevirtual 152, 3) := by decide +kernel
theorem dX0_readHeap_13 : decode cX0_readHeap 13 = .ok (.istore_n 3, 1) := by decide +kernel
theorem dX0_readHeap_14 : decode cX0_readHeap 14 = .ok (.aload_n 1, 1) := by decide +kernel
theorem dX0_readHeap_15 : decode cX0_readHeap 15 = .ok (.invokevirtual 155, 3) := by decide +kernel
theorem dX0_readHeap_18 : decode cX0_readHeap 18 = .ok (.ifCond .ne 9, 3) := by decide +kernel
theorem dX0_readHeap_21 : decode cX0_readHeap 21 = .ok (.iload_n 3, 1) := by decide +kernel
theorem dX0_readHeap_22 : decode cX0_readHeap 22 = .ok (.bipush 64, 2) := by decide +kernel
theorem dX0_readHeap_24 : decode cX0_readHeap 24 = .ok (.if_icmp .lt 4, 3) := by decide +kernel
theorem dX0_readHeap_27 : decode cX0_readHeap 27 = .ok (.return_, 1) := by decide +kernel
theorem dX0_readHeap_28 : decode cX0_readHeap 28 = .ok (.aload_n 0, 1) := by decide +kernel
theorem dX0_readHeap_29 : decode cX0_readHeap 29 = .ok (.getfield 15, 3) := by decide +kernel
theorem dX0_readHeap_32 : decode cX0_readHeap 32 = .ok (.iload_n 3, 1) := by decide +kernel
theorem dX0_readHeap_33 : decode cX0_readHeap 33 = .ok (.iaload, 1) := by decide +kernel
theorem dX0_readHeap_34 : decode cX0_readHeap 34 = .ok (.iload_n 2, 1) := by decide +kernel
theorem dX0_readHeap_35 : decode cX0_readHeap 35 = .ok (.iadd, 1) := by decide +kernel
theorem dX0_readHeap_36 : decode cX0_readHeap 36 = .ok (.bipush 59, 2) := by decide +kernel
theorem dX0_readHeap_38 : decode cX0_readHeap 38 = .ok (.if_icmp .le 8, 3) := by decide +kernel
theorem dX0_readHeap_41 : decode cX0_readHeap 41 = .ok (.aload_n 1, 1) := by decide +kernel
theorem dX0_readHeap_42 : decode cX0_readHeap 42 = .ok (.iconst 2, 1) := by decide +kernel
theorem dX0_readHeap_43 : decode cX0_readHeap 43 = .ok (.invokevirtual 117, 3) := by decide +kernel
theorem dX0_readHeap_46 : decode cX0_readHeap 46 = .ok (.aload_n 0, 1) := by decide +kernel
theorem dX0_readHeap_47 : decode cX0_readHeap 47 = .ok (.getfield 15, 3) := by decide +kernel
theorem dX0_readHeap_50 : decode cX0_readHeap 50 = .ok (.iload_n 3, 1) := by decide +kernel
theorem dX0_readHeap_51 : decode cX0_readHeap 51 = .ok (.dup2, 1) := by decide +kernel
theorem dX0_readHeap_52 : decode cX0_readHeap 52 = .ok (.iaload, 1) := by decide +kernel
theorem dX0_readHeap_53 : decode cX0_readHeap 53 = .ok (.iload_n 2, 1) := by decide +kernel
theorem dX0_readHeap_54 : decode cX0_readHeap 54 = .ok (.iadd, 1) := by decide +kernel
theorem dX0_readHeap_55 : decode cX0_readHeap 55 = .ok (.iastore, 1) := by decide +kernel
theorem dX0_readHeap_56 : decode cX0_readHeap 56 = .ok (.aload_n 0, 1) := by decide +kernel
theorem dX0_readHeap_57 : decode cX0_readHeap 57 = .ok (.iconst 1, 1) := by decide +kernel
theorem dX0_readHeap_58 : decode cX0_readHeap 58 = .ok (.putfield 82, 3) := by decide +kernel
theorem dX0_readHeap_61 : decode cX0_readHeap 61 = .ok (.return_, 1) := by decide +kernel
theorem dX0_readStone_0 : decode cX0_readStone 0 = .ok (.aload_n 0, 1) := by decide +kernel
theorem dX0_readStone_1 : decode cX0_readStone 1 = .ok (.aload_n 1, 1) := by decide +kernel
theorem dX0_readStone_2 : decode cX0_readStone 2 = .ok (.invokevirtual 152, 3) := by decide +kernel
theorem dX0_readStone_5 : decode cX0_readStone 5 = .ok (.istore_n 2, 1) := by decide +kernel
theorem dX0_readStone_6 : decode cX0_readStone 6 = .ok (.aload_n 1, 1) := by decide +kernel
theorem dX0_readStone_7 : decode cX0_readStone 7 = .ok (.invokevirtual 155, 3) := by decide +kernel
theorem dX0_readStone_10 : decode cX0_readStone 10 = .ok (.ifCond .ne 9, 3) := by decide +kernel
theorem dX0_readStone_13 : decode cX0_readStone 13 = .ok (.iload_n 2, 1) := by decide +kernel
theorem dX0_readStone_14 : decode cX0_readStone 14 = .ok (.bipush 64, 2) := by decide +kernel
theorem dX0_readStone_16 : decode cX0_readStone 16 = .ok (.if_icmp .lt 4, 3) := by decide +kernel
theorem dX0_readStone_19 : decode cX0_readStone 19 = .ok (.return_, 1) := by decide +kernel
theorem dX0_readStone_20 : decode cX0_readStone 20 = .ok (.aload_n 0, 1) := by decide +kernel
theorem dX0_readStone_21 : decode cX0_readStone 21 = .ok (.getfield 18, 3) := by decide +kernel
theorem dX0_readStone_24 : decode cX0_readStone 24 = .ok (.iload_n 2, 1) := by decide +kernel
theorem dX0_readStone_25 : decode cX0_readStone 25 = .ok (.iaload, 1) := by decide +kernel
theorem dX0_readStone_26 : decode cX0_readStone 26 = .ok (.ifCond .eq 8, 3) := by decide +kernel
theorem dX0_readStone_29 : decode cX0_readStone 29 = .ok (.aload_n 1, 1) := by decide +kernel
theorem dX0_readStone_30 : decode cX0_readStone 30 = .ok (.iconst 3, 1) := by decide +kernel
theorem dX0_readStone_31 : decode cX0_readStone 31 = .ok (.invokevirtual 117, 3) := by decide +kernel
theorem dX0_readStone_34 : decode cX0_readStone 34 = .ok (.aload_n 0, 1) := by decide +kernel
theorem dX0_readStone_35 : decode cX0_readStone 35 = .ok (.getfield 18, 3) := by decide +kernel
theorem dX0_readStone_38 : decode cX0_readStone 38 = .ok (.iload_n 2, 1) := by decide +kernel
theorem dX0_readStone_39 : decode cX0_readStone 39 = .ok (.iconst 1, 1) := by decide +kernel
theorem dX0_readStone_40 : decode cX0_readStone 40 = .ok (.iastore, 1) := by decide +kernel
theorem dX0_readStone_41 : decode cX0_readStone 41 = .ok (.aload_n 0, 1) := by decide +kernel
theorem dX0_readStone_42 : decode cX0_readStone 42 = .ok (.iconst 1, 1) := by decide +kernel
theorem dX0_readStone_43 : decode cX0_readStone 43 = .ok (.putfield 82, 3) := by decide +kernel
theorem dX0_readStone_46 : decode cX0_readStone 46 = .ok (.return_, 1) := by decide +kernel
theorem dX0_readFlag_0 : decode cX0_readFlag 0 = .ok (.aload_n 0, 1) := by decide +kernel
theorem dX0_readFlag_1 : decode cX0_readFlag 1 = .ok (.getfield 76, 3) := by decide +kernel
theorem dX0_readFlag_4 : decode cX0_readFlag 4 = .ok (.iconst 3, 1) := by decide +kernel
theorem dX0_readFlag_5 : decode cX0_readFlag 5 = .ok (.if_icmp .lt 9, 3) := by decide +kernel
theorem dX0_readFlag_8 : decode cX0_readFlag 8 = .ok (.aload_n 1, 1) := by decide +kernel
theorem dX0_readFlag_9 : decode cX0_readFlag 9 = .ok (.iconst 4, 1) := by decide +kernel
theorem dX0_readFlag_10 : decode cX0_readFlag 10 = .ok (.invokevirtual 117, 3) := by decide +kernel
theorem dX0_readFlag_13 : decode cX0_readFlag 13 = .ok (.return_, 1) := by decide +kernel
theorem dX0_readFlag_14 : decode cX0_readFlag 14 = .ok (.aload_n 0, 1) := by decide +kernel
theorem dX0_readFlag_15 : decode cX0_readFlag 15 = .ok (.aload_n 1, 1) := by decide +kernel
theorem dX0_readFlag_16 : decode cX0_readFlag 16 = .ok (.invokevirtual 152, 3) := by decide +kernel
theorem dX0_readFlag_19 : decode cX0_readFlag 19 = .ok (.istore_n 2, 1) := by decide +kernel
theorem dX0_readFlag_20 : decode cX0_readFlag 20 = .ok (.aload_n 1, 1) := by decide +kernel
theorem dX0_readFlag_21 : decode cX0_readFlag 21 = .ok (.invokevirtual 155, 3) := by decide +kernel
theorem dX0_readFlag_24 : decode cX0_readFlag 24 = .ok (.ifCond .eq 4, 3) := by decide +kernel
theorem dX0_readFlag_27 : decode cX0_readFlag 27 = .ok (.return_, 1) := by decide +kernel
theorem dX0_readFlag_28 : decode cX0_readFlag 28 = .ok (.iconst 0, 1) := by decide +kernel
theorem dX0_readFlag_29 : decode cX0_readFlag 29 = .ok (.istore_n 3, 1) := by decide +kernel
theorem dX0_readFlag_30 : decode cX0_readFlag 30 = .ok (.iload_n 3, 1) := by decide +kernel
theorem dX0_readFlag_31 : decode cX0_readFlag 31 = .ok (.aload_n 0, 1) := by decide +kernel
theorem dX0_readFlag_32 : decode cX0_readFlag 32 = .ok (.getfield 76, 3) := by decide +kernel
theorem dX0_readFlag_35 : decode cX0_readFlag 35 = .ok (.if_icmp .ge 24, 3) := by decide +kernel
theorem dX0_readFlag_38 : decode cX0_readFlag 38 = .ok (.aload_n 0, 1) := by decide +kernel
theorem dX0_readFlag_39 : decode cX0_readFlag 39 = .ok (.getfield 21, 3) := by decide +kernel
theorem dX0_readFlag_42 : decode cX0_readFlag 42 = .ok (.iload_n 3, 1) := by decide +kernel
theorem dX0_readFlag_43 : decode cX0_readFlag 43 = .ok (.iaload, 1) := by decide +kernel
theorem dX0_readFlag_44 : decode cX0_readFlag 44 = .ok (.iload_n 2, 1) := by decide +kernel
theorem dX0_readFlag_45 : decode cX0_readFlag 45 = .ok (.if_icmp .ne 8, 3) := by decide +kernel
theorem dX0_readFlag_48 : decode cX0_readFlag 48 = .ok (.aload_n 1, 1) := by decide +kernel
theorem dX0_readFlag_49 : decode cX0_readFlag 49 = .ok (.iconst 3, 1) := by decide +kernel
theorem dX0_readFlag_50 : decode cX0_readFlag 50 = .ok (.invokevirtual 117, 3) := by decide +kernel
theorem dX0_readFlag_53 : decode cX0_readFlag 53 = .ok (.iinc 3 1, 3) := by decide +kernel
theorem dX0_readFlag_56 : decode cX0_readFlag 56 = .ok (.goto (-26), 3) := by decide +kernel
theorem dX0_readFlag_59 : decode cX0_readFlag 59 = .ok (.aload_n 0, 1) := by decide +kernel
theorem dX0_readFlag_60 : decode cX0_readFlag 60 = .ok (.getfield 21, 3) := by decide +kernel
theorem dX0_readFlag_63 : decode cX0_readFlag 63 = .ok (.aload_n 0, 1) := by decide +kernel
theorem dX0_readFlag_64 : decode cX0_readFlag 64 = .ok (.getfield 76, 3) := by decide +kernel
theorem dX0_readFlag_67 : decode cX0_readFlag 67 = .ok (.iload_n 2, 1) := by decide +kernel
theorem dX0_readFlag_68 : decode cX0_readFlag 68 = .ok (.iastore, 1) := by decide +kernel
theorem dX0_readFlag_69 : decode cX0_readFlag 69 = .ok (.aload_n 0, 1) := by decide +kernel
theorem dX0_readFlag_70 : decode cX0_readFlag 70 = .ok (.dup, 1) := by decide +kernel
theorem dX0_readFlag_71 : decode cX0_readFlag 71 = .ok (.getfield 76, 3) := by decide +kernel
theorem dX0_readFlag_74 : decode cX0_readFlag 74 = .ok (.iconst 1, 1) := by decide +kernel
theorem dX0_readFlag_75 : decode cX0_readFlag 75 = .ok (.iadd, 1) := by decide +kernel
theorem dX0_readFlag_76 : decode cX0_readFlag 76 = .ok (.putfield 76, 3) := by decide +kernel
theorem dX0_readFlag_79 : decode cX0_readFlag 79 = .ok (.aload_n 0, 1) := by decide +kernel
theorem dX0_readFlag_80 : decode cX0_readFlag 80 = .ok (.iconst 1, 1) := by decide +kernel
theorem dX0_readFlag_81 : decode cX0_readFlag 81 = .ok (.putfield 82, 3) := by decide +kernel
theorem dX0_readFlag_84 : decode cX0_readFlag 84 = .ok (.return_, 1) := by decide +kernel
theorem dX1_init_0 : decode cX1_init 0 = .ok (.aload_n 0, 1) := by decide +kernel
theorem dX1_init_1 : decode cX1_init 1 = .ok (.invokespecial 3, 3) := by decide +kernel
theorem dX1_init_4 : decode cX1_init 4 = .ok (.aload_n 0, 1) := by decide +kernel
theorem dX1_init_5 : decode cX1_init 5 = .ok (.iconst 4, 1) := by decide +kernel
theorem dX1_init_6 : decode cX1_init 6 = .ok (.newarray .int, 2) := by decide +kernel
theorem dX1_init_8 : decode cX1_init 8 = .ok (.putfield 9, 3) := by decide +kernel
theorem dX1_init_11 : decode cX1_init 11 = .ok (.aload_n 0, 1) := by decide +kernel
theorem dX1_init_12 : decode cX1_init 12 = .ok (.bipush 32, 2) := by decide +kernel
theorem dX1_init_14 : decode cX1_init 14 = .ok (.newarray .int, 2) := by decide +kernel
theorem dX1_init_16 : decode cX1_init 16 = .ok (.putfield 15, 3) := by decide +kernel
theorem dX1_init_19 : decode cX1_init 19 = .ok (.aload_n 0, 1) := by decide +kernel
theorem dX1_init_20 : decode cX1_init 20 = .ok (.bipush 32, 2) := by decide +kernel
theorem dX1_init_22 : decode cX1_init 22 = .ok (.newarray .int, 2) := by decide +kernel
theorem dX1_init_24 : decode cX1_init 24 = .ok (.putfield 18, 3) := by decide +kernel
theorem dX1_init_27 : decode cX1_init 27 = .ok (.aload_n 0, 1) := by decide +kernel
theorem dX1_init_28 : decode cX1_init 28 = .ok (.bipush 32, 2) := by decide +kernel
theorem dX1_init_30 : decode cX1_init 30 = .ok (.newarray .int, 2) := by decide +kernel
theorem dX1_init_32 : decode cX1_init 32 = .ok (.putfield 21, 3) := by decide +kernel
theorem dX1_init_35 : decode cX1_init 35 = .ok (.return_, 1) := by decide +kernel
theorem dX1_readFrom_0 : decode cX1_readFrom 0 = .ok (.aload_n 0, 1) := by decide +kernel
theorem dX1_readFrom_1 : decode cX1_readFrom 1 = .ok (.iconst 0, 1) := by decide +kernel
theorem dX1_readFrom_2 : decode cX1_readFrom 2 = .ok (.putfield 24, 3) := by decide +kernel
theorem dX1_readFrom_5 : decode cX1_readFrom 5 = .ok (.iconst 0, 1) := by decide +kernel
theorem dX1_readFrom_6 : decode cX1_readFrom 6 = .ok (.istore_n 3, 1) := by decide +kernel
theorem dX1_readFrom_7 : decode cX1_readFrom 7 = .ok (.iload_n 3, 1) := by decide +kernel
theorem dX1_readFrom_8 : decode cX1_readFrom 8 = .ok (.sipush 900, 3) := by decide +kernel
theorem dX1_readFrom_11 : decode cX1_readFrom 11 = .ok (.if_icmp .ge 22, 3) := by decide +kernel
theorem dX1_readFrom_14 : decode cX1_readFrom 14 = .ok (.aload_n 1, 1) := by decide +kernel
theorem dX1_readFrom_15 : decode cX1_readFrom 15 = .ok (.invokevirtual 30, 3) := by decide +kernel
theorem dX1_readFrom_18 : decode cX1_readFrom 18 = .ok (.ifCond .eq 15, 3) := by decide +kernel
theorem dX1_readFrom_21 : decode cX1_readFrom 21 = .ok (.aload_n 0, 1) := by decide +kernel
theorem dX1_readFrom_22 : decode cX1_readFrom 22 = .ok (.aload_n 1, 1) := by decide +kernel
theorem dX1_readFrom_23 : decode cX1_readFrom 23 = .ok (.aload_n 2, 1) := by decide +kernel
theorem dX1_readFrom_24 : decode cX1_readFrom 24 = .ok (.invokevirtual 34, 3) := by decide +kernel
theorem dX1_readFrom_27 : decode cX1_readFrom 27 = .ok (.iinc 3 1, 3) := by decide +kernel
theorem dX1_readFrom_30 : decode cX1_readFrom 30 = .ok (.goto (-23), 3) := by decide +kernel
theorem dX1_readFrom_33 : decode cX1_readFrom 33 = .ok (.return_, 1) := by decide +kernel
theorem dX1_readHand_0 : decode cX1_readHand 0 = .ok (.aload_n 1, 1) := by decide +kernel
theorem dX1_readHand_1 : decode cX1_readHand 1 = .ok (.ldc 38, 2) := by decide +kernel
theorem dX1_readHand_3 : decode cX1_readHand 3 = .ok (.invokevirtual 40, 3) := by decide +kernel
theorem dX1_readHand_6 : decode cX1_readHand 6 = .ok (.ifCond .ne 9, 3) := by decide +kernel
theorem dX1_readHand_9 : decode cX1_readHand 9 = .ok (.aload_n 1, 1) := by decide +kernel
theorem dX1_readHand_10 : decode cX1_readHand 10 = .ok (.iconst 1, 1) := by decide +kernel
theorem dX1_readHand_11 : decode cX1_readHand 11 = .ok (.invokevirtual 44, 3) := by decide +kernel
theorem dX1_readHand_14 : decode cX1_readHand 14 = .ok (.return_, 1) := by decide +kernel
theorem dX1_readHand_15 : decode cX1_readHand 15 = .ok (.aload_n 0, 1) := by decide +kernel
theorem dX1_readHand_16 : decode cX1_readHand 16 = .ok (.getfield 24, 3) := by decide +kernel
theorem dX1_readHand_19 : decode cX1_readHand 19 = .ok (.iconst 4, 1) := by decide +kernel
theorem dX1_readHand_20 : decode cX1_readHand 20 = .ok (.if_icmp .lt 9, 3) := by decide +kernel
theorem dX1_readHand_23 : decode cX1_readHand 23 = .ok (.aload_n 1, 1) := by decide +kernel
theorem dX1_readHand_24 : decode cX1_readHand 24 = .ok (.iconst 4, 1) := by decide +kernel
theorem dX1_readHand_25 : decode cX1_readHand 25 = .ok (.invokevirtual 44, 3) := by decide +kernel
theorem dX1_readHand_28 : decode cX1_readHand 28 = .ok (.return_, 1) := by decide +kernel
theorem dX1_readHand_29 : decode cX1_readHand 29 = .ok (.aload_n 0, 1) := by decide +kernel
theorem dX1_readHand_30 : decode cX1_readHand 30 = .ok (.getfield 9, 3) := by decide +kernel
theorem dX1_readHand_33 : decode cX1_readHand 33 = .ok (.aload_n 0, 1) := by decide +kernel
theorem dX1_readHand_34 : decode cX1_readHand 34 = .ok (.getfield 24, 3) := by decide +kernel
theorem dX1_readHand_37 : decode cX1_readHand 37 = .ok (.iconst 0, 1) := by decide +kernel
theorem dX1_readHand_38 : decode cX1_readHand 38 = .ok (.iastore, 1) := by decide +kernel
theorem dX1_readHand_39 : decode cX1_readHand 39 = .ok (.aload_n 1, 1) := by decide +kernel
theorem dX1_readHand_40 : decode cX1_readHand 40 = .ok (.invokevirtual 48, 3) := by decide +kernel
theorem dX1_readHand_43 : decode cX1_readHand 43 = .ok (.iconst 0, 1) := by decide +kernel
theorem dX1_readHand_44 : decode cX1_readHand 44 = .ok (.istore_n 3, 1) := by decide +kernel
theorem dX1_readHand_45 : decode cX1_readHand 45 = .ok (.iload_n 3, 1) := by decide +kernel
theorem dX1_readHand_46 : decode cX1_readHand 46 = .ok (.bipush 8, 2) := by decide +kernel
theorem dX1_readHand_48 : decode cX1_readHand 48 = .ok (.if_icmp .gt 41, 3) := by decide +kernel
theorem dX1_readHand_51 : decode cX1_readHand 51 = .ok (.aload_n 1, 1) := by decide +kernel
theorem dX1_readHand_52 : decode cX1_readHand 52 = .ok (.invokevirtual 51, 3) := by decide +kernel
theorem dX1_readHand_55 : decode cX1_readHand 55 = .ok (.ifCond .ne 34, 3) := by decide +kernel
theorem dX1_readHand_58 : decode cX1_readHand 58 = .ok (.iload_n 3, 1) := by decide +kernel
theorem dX1_readHand_59 : decode cX1_readHand 59 = .ok (.ifCond .le 14, 3) := by decide +kernel
theorem dX1_readHand_62 : decode cX1_readHand 62 = .ok (.aload_n 1, 1) := by decide +kernel
theorem dX1_readHand_63 : decode cX1_readHand 63 = .ok (.getfield 54, 3) := by decide +kernel
theorem dX1_readHand_66 : decode cX1_readHand 66 = .ok (.iconst 3, 1) := by decide +kernel
theorem dX1_readHand_67 : decode cX1_readHand 67 = .ok (.if_icmp .ne 6, 3) := by decide +kernel
theorem dX1_readHand_70 : decode cX1_readHand 70 = .ok (.goto 19, 3) := by decide +kernel
theorem dX1_readHand_73 : decode cX1_readHand 73 = .ok (.aload_n 0, 1) := by decide +kernel
theorem dX1_readHand_74 : decode cX1_readHand 74 = .ok (.aload_n 1, 1) := by decide +kernel
theorem dX1_readHand_75 : decode cX1_readHand 75 = .ok (.aload_n 2, 1) := by decide +kernel
theorem dX1_readHand_76 : decode cX1_readHand 76 = .ok (.invokevirtual 57, 3) := by decide +kernel
theorem dX1_readHand_79 : decode cX1_readHand 79 = .ok (.aload_n 1, 1) := by decide +kernel
theorem dX1_readHand_80 : decode cX1_readHand 80 = .ok (.invokevirtual 48, 3) := by decide +kernel
theorem dX1_readHand_83 : decode cX1_readHand 83 = .ok (.iinc 3 1, 3) := by decide +kernel
theorem dX1_readHand_86 : decode cX1_readHand 86 = .ok (.goto (-41), 3) := by decide +kernel
theorem dX1_readHand_89 : decode cX1_readHand 89 = .ok (.aload_n 0, 1) := by decide +kernel
theorem dX1_readHand_90 : decode cX1_readHand 90 = .ok (.dup, 1) := by decide +kernel
theorem dX1_readHand_91 : decode cX1_readHand 91 = .ok (.getfield 24, 3) := by decide +kernel
theorem dX1_readHand_94 : decode cX1_readHand 94 = .ok (.iconst 1, 1) := by decide +kernel
theorem dX1_readHand_95 : decode cX1_readHand 95 = .ok (.iadd, 1) := by decide +kernel
theorem dX1_readHand_96 : decode cX1_readHand 96 = .ok (.putfield 24, 3) := by decide +kernel
theorem dX1_readHand_99 : decode cX1_readHand 99 = .ok (.return_, 1) := by decide +kernel
theorem dX1_readAct_0 : decode cX1_readAct 0 = .ok (.aload_n 1, 1) := by decide +kernel
theorem dX1_readAct_1 : decode cX1_readAct 1 = .ok (.invokestatic 60, 3) := by decide +kernel
theorem dX1_readAct_4 : decode cX1_readAct 4 = .ok (.istore_n 3, 1) := by decide +kernel
theorem dX1_readAct_5 : decode cX1_readAct 5 = .ok (.iload_n 3, 1) := by decide +kernel
theorem dX1_readAct_6 : decode cX1_readAct 6 = .ok (.iconst (-1), 1) := by decide +kernel
theorem dX1_readAct_7 : decode cX1_readAct 7 = .ok (.if_icmp .ne 9, 3) := by decide +kernel
theorem dX1_readAct_10 : decode cX1_readAct 10 = .ok (.aload_n 1, 1) := by decide +kernel
theorem dX1_readAct_11 : decode cX1_readAct 11 = .ok (.iconst 1, 1) := by decide +kernel
theorem dX1_readAct_12 : decode cX1_readAct 12 = .ok (.invokevirtual 44, 3) := by decide +kernel
theorem dX1_readAct_15 : decode cX1_readAct 15 = .ok (.return_, 1) := by decide +kernel
theorem dX1_readAct_16 : decode cX1_readAct 16 = .ok (.aload_n 0, 1) := by decide +kernel
theorem dX1_readAct_17 : decode cX1_readAct 17 = .ok (.getfield 9, 3) := by decide +kernel
theorem dX1_readAct_20 : decode cX1_readAct 20 = .ok (.aload_n 0, 1) := by decide +kernel
theorem dX1_readAct_21 : decode cX1_readAct 21 = .ok (.getfield 24, 3) := by decide +kernel
theorem dX1_readAct_24 : decode cX1_readAct 24 = .ok (.iaload, 1) := by decide +kernel
theorem dX1_readAct_25 : decode cX1_readAct 25 = .ok (.bipush 8, 2) := by decide +kernel
theorem dX1_readAct_27 : decode cX1_readAct 27 = .ok (.if_icmp .lt 9, 3) := by decide +kernel
theorem dX1_readAct_30 : decode cX1_readAct 30 = .ok (.aload_n 1, 1) := by decide +kernel
theorem dX1_readAct_31 : decode cX1_readAct 31 = .ok (.iconst 4, 1) := by decide +kernel
theorem dX1_readAct_32 : decode cX1_readAct 32 = .ok (.invokevirtual 44, 3) := by decide +kernel
theorem dX1_readAct_35 : decode cX1_readAct 35 = .ok (.return_, 1) := by decide +kernel
theorem dX1_readAct_36 : decode cX1_readAct 36 = .ok (.aload_n 0, 1) := by decide +kernel
theorem dX1_readAct_37 : decode cX1_readAct 37 = .ok (.getfield 24, 3) := by decide +kernel
theorem dX1_readAct_40 : decode cX1_readAct 40 = .ok (.bipush 8, 2) := by decide +kernel
theorem dX1_readAct_42 : decode cX1_readAct 42 = .ok (.imul, 1) := by decide +kernel
theorem dX1_readAct_43 : decode cX1_readAct 43 = .ok (.aload_n 0, 1) := by decide +kernel
theorem dX1_readAct_44 : decode cX1_readAct 44 = .ok (.getfield 9, 3) := by decide +kernel
theorem dX1_readAct_47 : decode cX1_readAct 47 = .ok (.aload_n 0, 1) := by decide +kernel
theorem dX1_readAct_48 : decode cX1_readAct 48 = .ok (.getfield 24, 3) := by decide +kernel
theorem dX1_readAct_51 : decode cX1_readAct 51 = .ok (.iaload, 1) := by decide +kernel
theorem dX1_readAct_52 : decode cX1_readAct 52 = .ok (.iadd, 1) := by decide +kernel
theorem dX1_readAct_53 : decode cX1_readAct 53 = .ok (.istore 4, 2) := by decide +kernel
theorem dX1_readAct_55 : decode cX1_readAct 55 = .ok (.aload_n 0, 1) := by decide +kernel
theorem dX1_readAct_56 : decode cX1_readAct 56 = .ok (.getfield 15, 3) := by decide +kernel
theorem dX1_readAct_59 : decode cX1_readAct 59 = .ok (.iload 4, 2) := by decide +kernel
theorem dX1_readAct_61 : decode cX1_readAct 61 = .ok (.iload_n 3, 1) := by decide +kernel
theorem dX1_readAct_62 : decode cX1_readAct 62 = .ok (.iastore, 1) := by decide +kernel
theorem dX1_readAct_63 : decode cX1_readAct 63 = .ok (.aload_n 0, 1) := by decide +kernel
theorem dX1_readAct_64 : decode cX1_readAct 64 = .ok (.getfield 18, 3) := by decide +kernel
theorem dX1_readAct_67 : decode cX1_readAct 67 = .ok (.iload 4, 2) := by decide +kernel
theorem dX1_readAct_69 : decode cX1_readAct 69 = .ok (.iload_n 3, 1) := by decide +kernel
theorem dX1_readAct_70 : decode cX1_readAct 70 = .ok (.iconst 4, 1) := by decide +kernel
theorem dX1_readAct_71 : decode cX1_readAct 71 = .ok (.if_icmp .ne 7, 3) := by decide +kernel
theorem dX1_readAct_74 : decode cX1_readAct 74 = .ok (.iconst (-1), 1) := by decide +kernel
theorem dX1_readAct_75 : decode cX1_readAct 75 = .ok (.goto 8, 3) := by decide +kernel
theorem dX1_readAct_78 : decode cX1_readAct 78 = .ok (.aload_n 2, 1) := by decide +kernel
theorem dX1_readAct_79 : decode cX1_readAct 79 = .ok (.aload_n 1, 1) := by decide +kernel
theorem dX1_readAct_80 : decode cX1_readAct 80 = .ok (.invokevirtual 64, 3) := by decide +kernel
theorem dX1_readAct_83 : decode cX1_readAct 83 = .ok (.iastore, 1) := by decide +kernel
theorem dX1_readAct_84 : decode cX1_readAct 84 = .ok (.aload_n 0, 1) := by decide +kernel
theorem dX1_readAct_85 : decode cX1_readAct 85 = .ok (.getfield 21, 3) := by decide +kernel
theorem dX1_readAct_88 : decode cX1_readAct 88 = .ok (.iload 4, 2) := by decide +kernel
theorem dX1_readAct_90 : decode cX1_readAct 90 = .ok (.iload_n 3, 1) := by decide +kernel
theorem dX1_readAct_91 : decode cX1_readAct 91 = .ok (.ifCond .ne 11, 3) := by decide +kernel
theorem dX1_readAct_94 : decode cX1_readAct 94 = .ok (.aload_n 2, 1) := by decide +kernel
theorem dX1_readAct_95 : decode cX1_readAct 95 = .ok (.aload_n 1, 1) := by decide +kernel
theorem dX1_readAct_96 : decode cX1_readAct 96 = .ok (.invokevirtual 64, 3) := by decide +kernel
theorem dX1_readAct_99 : decode cX1_readAct 99 = .ok (.goto 4, 3) := by decide +kernel
theorem dX1_readAct_102 : decode cX1_readAct 102 = .ok (.iconst (-1), 1) := by decide +kernel
theorem dX1_readAct_103 : decode cX1_readAct 103 = .ok (.iastore, 1) := by decide +kernel
theorem dX1_readAct_104 : decode cX1_readAct 104 = .ok (.iload_n 3, 1) := by decide +kernel
theorem dX1_readAct_105 : decode cX1_readAct 105 = .ok (.ifCond .ne 25, 3) := by decide +kernel
theorem dX1_readAct_108 : decode cX1_readAct 108 = .ok (.aload_n 0, 1) := by decide +kernel
theorem dX1_readAct_109 : decode cX1_readAct 109 = .ok (.getfield 21, 3) := by decide +kernel
theorem dX1_readAct_112 : decode cX1_readAct 112 = .ok (.iload 4, 2) := by decide +kernel
theorem dX1_readAct_114 : decode cX1_readAct 114 = .ok (.iaload, 1) := by decide +kernel
theorem dX1_readAct_115 : decode cX1_readAct 115 = .ok (.aload_n 0, 1) := by decide +kernel
theorem dX1_readAct_116 : decode cX1_readAct 116 = .ok (.getfield 18, 3) := by decide +kernel
theorem dX1_readAct_119 : decode cX1_readAct 119 = .ok (.iload 4, 2) := by decide +kernel
theorem dX1_readAct_121 : decode cX1_readAct 121 = .ok (.iaload, 1) := by decide +kernel
theorem dX1_readAct_122 : decode cX1_readAct 122 = .ok (.if_icmp .ne 8, 3) := by decide +kernel
theorem dX1_readAct_125 : decode cX1_readAct 125 = .ok (.aload_n 1, 1) := by decide +kernel
theorem dX1_readAct_126 : decode cX1_readAct 126 = .ok (.iconst 3, 1) := by decide +kernel
theorem dX1_readAct_127 : decode cX1_readAct 127 = .ok (.invokevirtual 44, 3) := by decide +kernel
theorem dX1_readAct_130 : decode cX1_readAct 130 = .ok (.aload_n 0, 1) := by decide +kernel
theorem dX1_readAct_131 : decode cX1_readAct 131 = .ok (.getfield 9, 3) := by decide +kernel
theorem dX1_readAct_134 : decode cX1_readAct 134 = .ok (.aload_n 0, 1) := by decide +kernel
theorem dX1_readAct_135 : decode cX1_readAct 135 = .ok (.getfield 24, 3) := by decide +kernel
theorem dX1_readAct_138 : decode cX1_readAct 138 = .ok (.dup2, 1) := by decide +kernel
theorem dX1_readAct_139 : decode cX1_readAct 139 = .ok (.iaload, 1) := by decide +kernel
theorem dX1_readAct_140 : decode cX1_readAct 140 = .ok (.iconst 1, 1) := by decide +kernel
theorem dX1_readAct_141 : decode cX1_readAct 141 = .ok (.iadd, 1) := by decide +kernel
theorem dX1_readAct_142 : decode cX1_readAct 142 = .ok (.iastore, 1) := by decide +kernel
theorem dX1_readAct_143 : decode cX1_readAct 143 = .ok (.return_, 1) := by decide +kernel
theorem dX1_kindOf_0 : decode cX1_kindOf 0 = .ok (.aload_n 0, 1) := by decide +kernel
theorem dX1_kindOf_1 : decode cX1_kindOf 1 = .ok (.ldc 69, 2) := by decide +kernel
theorem dX1_kindOf_3 : decode cX1_kindOf 3 = .ok (.invokevirtual 40, 3) := by decide +kernel
theorem dX1_kindOf_6 : decode cX1_kindOf 6 = .ok (.ifCond .eq 5, 3) := by decide +kernel
theorem dX1_kindOf_9 : decode cX1_kindOf 9 = .ok (.iconst 0, 1) := by decide +kernel
theorem dX1_kindOf_10 : decode cX1_kindOf 10 = .ok (.ireturn, 1) := by decide +kernel
theorem dX1_kindOf_11 : decode cX1_kindOf 11 = .ok (.aload_n 0, 1) := by decide +kernel
theorem dX1_kindOf_12 : decode cX1_kindOf 12 = .ok (.ldc 71, 2) := by decide +kernel
theorem dX1_kindOf_14 : decode cX1_kindOf 14 = .ok (.invokevirtual 40, 3) := by decide +kernel
theorem dX1_kindOf_17 : decode cX1_kindOf 17 = .ok (.ifCond .eq 5, 3) := by decide +kernel
theorem dX1_kindOf_20 : decode cX1_kindOf 20 = .ok (.iconst 1, 1) := by decide +kernel
theorem dX1_kindOf_21 : decode cX1_kindOf 21 = .ok (.ireturn, 1) := by decide +kernel
theorem dX1_kindOf_22 : decode cX1_kindOf 22 = .ok (.aload_n 0, 1) := by decide +kernel
theorem dX1_kindOf_23 : decode cX1_kindOf 23 = .ok (.ldc 73, 2) := by decide +kernel
theorem dX1_kindOf_25 : decode cX1_kindOf 25 = .ok (.invokevirtual 40, 3) := by decide +kernel
theorem dX1_kindOf_28 : decode cX1_kindOf 28 = .ok (.ifCond .eq 5, 3) := by decide +kernel
theorem dX1_kindOf_31 : decode cX1_kindOf 31 = .ok (.iconst 2, 1) := by decide +kernel
theorem dX1_kindOf_32 : decode cX1_kindOf 32 = .ok (.ireturn, 1) := by decide +kernel
theorem dX1_kindOf_33 : decode cX1_kindOf 33 = .ok (.aload_n 0, 1) := by decide +kernel
theorem dX1_kindOf_34 : decode cX1_kindOf 34 = .ok (.ldc 75, 2) := by decide +kernel
theorem dX1_kindOf_36 : decode cX1_kindOf 36 = .ok (.invokevirtual 40, 3) := by decide +kernel
theorem dX1_kindOf_39 : decode cX1_kindOf 39 = .ok (.ifCond .eq 5, 3) := by decide +kernel
theorem dX1_kindOf_42 : decode cX1_kindOf 42 = .ok (.iconst 3, 1) := by decide +kernel
theorem dX1_kindOf_43 : decode cX1_kindOf 43 = .ok (.ireturn, 1) := by decide +kernel
theorem dX1_kindOf_44 : decode cX1_kindOf 44 = .ok (.aload_n 0, 1) := by decide +kernel
theorem dX1_kindOf_45 : decode cX1_kindOf 45 = .ok (.ldc 77, 2) := by decide +kernel
theorem dX1_kindOf_47 : decode cX1_kindOf 47 = .ok (.invokevirtual 40, 3) := by decide +kernel
theorem dX1_kindOf_50 : decode cX1_kindOf 50 = .ok (.ifCond .eq 7, 3) := by decide +kernel
theorem dX1_kindOf_53 : decode cX1_kindOf 53 = .ok (.iconst 4, 1) := by decide +kernel
theorem dX1_kindOf_54 : decode cX1_kindOf 54 = .ok (.goto 4, 3) := by decide +kernel
theorem dX1_kindOf_57 : decode cX1_kindOf 57 = .ok (.iconst (-1), 1) := by decide +kernel
theorem dX1_kindOf_58 : decode cX1_kindOf 58 = .ok (.ireturn, 1) := by decide +kernel
theorem dX2_init_0 : decode cX2_init 0 = .ok (.aload_n 0, 1) := by decide +kernel
theorem dX2_init_1 : decode cX2_init 1 = .ok (.invokespecial 3, 3) := by decide +kernel
theorem dX2_init_4 : decode cX2_init 4 = .ok (.aload_n 0, 1) := by decide +kernel
theorem dX2_init_5 : decode cX2_init 5 = .ok (.bipush 9, 2) := by decide +kernel
theorem dX2_init_7 : decode cX2_init 7 = .ok (.newarray .int, 2) := by decide +kernel
theorem dX2_init_9 : decode cX2_init 9 = .ok (.putfield 11, 3) := by decide +kernel
theorem dX2_init_12 : decode cX2_init 12 = .ok (.aload_n 0, 1) := by decide +kernel
theorem dX2_init_13 : decode cX2_init 13 = .ok (.bipush 12, 2) := by decide +kernel
theorem dX2_init_15 : decode cX2_init 15 = .ok (.newarray .int, 2) := by decide +kernel
theorem dX2_init_17 : decode cX2_init 17 = .ok (.putfield 15, 3) := by decide +kernel
theorem dX2_init_20 : decode cX2_init 20 = .ok (.aload_n 0, 1) := by decide +kernel
theorem dX2_init_21 : decode cX2_init 21 = .ok (.bipush 12, 2) := by decide +kernel
theorem dX2_init_23 : decode cX2_init 23 = .ok (.newarray .int, 2) := by decide +kernel
theorem dX2_init_25 : decode cX2_init 25 = .ok (.putfield 18, 3) := by decide +kernel
theorem dX2_init_28 : decode cX2_init 28 = .ok (.aload_n 0, 1) := by decide +kernel
theorem dX2_init_29 : decode cX2_init 29 = .ok (.bipush 12, 2) := by decide +kernel
theorem dX2_init_31 : decode cX2_init 31 = .ok (.newarray .int, 2) := by decide +kernel
theorem dX2_init_33 : decode cX2_init 33 = .ok (.putfield 21, 3) := by decide +kernel
theorem dX2_init_36 : decode cX2_init 36 = .ok (.aload_n 0, 1) := by decide +kernel
theorem dX2_init_37 : decode cX2_init 37 = .ok (.invokevirtual 24, 3) := by decide +kernel
theorem dX2_init_40 : decode cX2_init 40 = .ok (.return_, 1) := by decide +kernel
theorem dX2_cut_0 : decode cX2_cut 0 = .ok (.aload_n 0, 1) := by decide +kernel
theorem dX2_cut_1 : decode cX2_cut 1 = .ok (.getfield 11, 3) := by decide +kernel
theorem dX2_cut_4 : decode cX2_cut 4 = .ok (.bipush 8, 2) := by decide +kernel
theorem dX2_cut_6 : decode cX2_cut 6 = .ok (.iaload, 1) := by decide +kernel
theorem dX2_cut_7 : decode cX2_cut 7 = .ok (.ireturn, 1) := by decide +kernel
theorem dX2_isDrawn_0 : decode cX2_isDrawn 0 = .ok (.aload_n 0, 1) := by decide +kernel
theorem dX2_isDrawn_1 : decode cX2_isDrawn 1 = .ok (.getfield 11, 3) := by decide +kernel
theorem dX2_isDrawn_4 : decode cX2_isDrawn 4 = .ok (.iconst 0, 1) := by decide +kernel
theorem dX2_isDrawn_5 : decode cX2_isDrawn 5 = .ok (.iaload, 1) := by decide +kernel
theorem dX2_isDrawn_6 : decode cX2_isDrawn 6 = .ok (.iconst (-1), 1) := by decide +kernel
theorem dX2_isDrawn_7 : decode cX2_isDrawn 7 = .ok (.if_icmp .eq 7, 3) := by decide +kernel
theorem dX2_isDrawn_10 : decode cX2_isDrawn 10 = .ok (.iconst 1, 1) := by decide +kernel
theorem dX2_isDrawn_11 : decode cX2_isDrawn 11 = .ok (.goto 4, 3) := by decide +kernel
theorem dX2_isDrawn_14 : decode cX2_isDrawn 14 = .ok (.iconst 0, 1) := by decide +kernel
theorem dX2_isDrawn_15 : decode cX2_isDrawn 15 = .ok (.ireturn, 1) := by decide +kernel
theorem dX2_isTideMinute_0 : decode cX2_isTideMinute 0 = .ok (.aload_n 0, 1) := by decide +kernel
theorem dX2_isTideMinute_1 : decode cX2_isTideMinute 1 = .ok (.getfield 11, 3) := by decide +kernel
theorem dX2_isTideMinute_4 : decode cX2_isTideMinute 4 = .ok (.iconst 2, 1) := by decide +kernel
theorem dX2_isTideMinute_5 : decode cX2_isTideMinute 5 = .ok (.iaload, 1) := by decide +kernel
theorem dX2_isTideMinute_6 : decode cX2_isTideMinute 6 = .ok (.istore_n 2, 1) := by decide +kernel
theorem dX2_isTideMinute_7 : decode cX2_isTideMinute 7 = .ok (.iload_n 2, 1) := by decide +kernel
theorem dX2_isTideMinute_8 : decode cX2_isTideMinute 8 = .ok (.ifCond .le 40, 3) := by decide +kernel
theorem dX2_isTideMinute_11 : decode cX2_isTideMinute 11 = .ok (.iload_n 1, 1) := by decide +kernel
theorem dX2_isTideMinute_12 : decode cX2_isTideMinute 12 = .ok (.aload_n 0, 1) := by decide +kernel
theorem dX2_isTideMinute_13 : decode cX2_isTideMinute 13 = .ok (.getfield 11, 3) := by decide +kernel
theorem dX2_isTideMinute_16 : decode cX2_isTideMinute 16 = .ok (.iconst 0, 1) := by decide +kernel
theorem dX2_isTideMinute_17 : decode cX2_isTideMinute 17 = .ok (.iaload, 1) := by decide +kernel
theorem dX2_isTideMinute_18 : decode cX2_isTideMinute 18 = .ok (.if_icmp .lt 30, 3) := by decide +kernel
theorem dX2_isTideMinute_21 : decode cX2_isTideMinute 21 = .ok (.iload_n 1, 1) := by decide +kernel
theorem dX2_isTideMinute_22 : decode cX2_isTideMinute 22 = .ok (.aload_n 0, 1) := by decide +kernel
theorem dX2_isTideMinute_23 : decode cX2_isTideMinute 23 = .ok (.getfield 11, 3) := by decide +kernel
theorem dX2_isTideMinute_26 : decode cX2_isTideMinute 26 = .ok (.iconst 1, 1) := by decide +kernel
theorem dX2_isTideMinute_27 : decode cX2_isTideMinute 27 = .ok (.iaload, 1) := by decide +kernel
theorem dX2_isTideMinute_28 : decode cX2_isTideMinute 28 = .ok (.if_icmp .gt 20, 3) := by decide +kernel
theorem dX2_isTideMinute_31 : decode cX2_isTideMinute 31 = .ok (.iload_n 1, 1) := by decide +kernel
theorem dX2_isTideMinute_32 : decode cX2_isTideMinute 32 = .ok (.aload_n 0, 1) := by decide +kernel
theorem dX2_isTideMinute_33 : decode cX2_isTideMinute 33 = .ok (.getfield 11, 3) := by decide +kernel
theorem dX2_isTideMinute_36 : decode cX2_isTideMinute 36 = .ok (.iconst 0, 1) := by decide +kernel
theorem dX2_isTideMinute_37 : decode cX2_isTideMinute 37 = .ok (.iaload, 1) := by decide +kernel
theorem dX2_isTideMinute_38 : decode cX2_isTideMinute 38 = .ok (.isub, 1) := by decide +kernel
theorem dX2_isTideMinute_39 : decode cX2_isTideMinute 39 = .ok (.iload_n 2, 1) := by decide +kernel
theorem dX2_isTideMinute_40 : decode cX2_isTideMinute 40 = .ok (.irem, 1) := by decide +kernel
theorem dX2_isTideMinute_41 : decode cX2_isTideMinute 41 = .ok (.ifCond .ne 7, 3) := by decide +kernel
theorem dX2_isTideMinute_44 : decode cX2_isTideMinute 44 = .ok (.iconst 1, 1) := by decide +kernel
theorem dX2_isTideMinute_45 : decode cX2_isTideMinute 45 = .ok (.goto 4, 3) := by decide +kernel
theorem dX2_isTideMinute_48 : decode cX2_isTideMinute 48 = .ok (.iconst 0, 1) := by decide +kernel
theorem dX2_isTideMinute_49 : decode cX2_isTideMinute 49 = .ok (.ireturn, 1) := by decide +kernel
theorem dX2_readFrom_0 : decode cX2_readFrom 0 = .ok (.aload_n 0, 1) := by decide +kernel
theorem dX2_readFrom_1 : decode cX2_readFrom 1 = .ok (.invokevirtual 24, 3) := by decide +kernel
theorem dX2_readFrom_4 : decode cX2_readFrom 4 = .ok (.iconst 0, 1) := by decide +kernel
theorem dX2_readFrom_5 : decode cX2_readFrom 5 = .ok (.istore_n 2, 1) := by decide +kernel
theorem dX2_readFrom_6 : decode cX2_readFrom 6 = .ok (.iload_n 2, 1) := by decide +kernel
theorem dX2_readFrom_7 : decode cX2_readFrom 7 = .ok (.sipush 900, 3) := by decide +kernel
theorem dX2_readFrom_10 : decode cX2_readFrom 10 = .ok (.if_icmp .ge 35, 3) := by decide +kernel
theorem dX2_readFrom_13 : decode cX2_readFrom 13 = .ok (.aload_n 1, 1) := by decide +kernel
theorem dX2_readFrom_14 : decode cX2_readFrom 14 = .ok (.invokevirtual 29, 3) := by decide +kernel
theorem dX2_readFrom_17 : decode cX2_readFrom 17 = .ok (.ifCond .eq 28, 3) := by decide +kernel
theorem dX2_readFrom_20 : decode cX2_readFrom 20 = .ok (.aload_n 0, 1) := by decide +kernel
theorem dX2_readFrom_21 : decode cX2_readFrom 21 = .ok (.aload_n 1, 1) := by decide +kernel
theorem dX2_readFrom_22 : decode cX2_readFrom 22 = .ok (.invokevirtual 33, 3) := by decide +kernel
theorem dX2_readFrom_25 : decode cX2_readFrom 25 = .ok (.aload_n 1, 1) := by decide +kernel
theorem dX2_readFrom_26 : decode cX2_readFrom 26 = .ok (.invokevirtual 37, 3) := by decide +kernel
theorem dX2_readFrom_29 : decode cX2_readFrom 29 = .ok (.aload_n 0, 1) := by decide +kernel
theorem dX2_readFrom_30 : decode cX2_readFrom 30 = .ok (.dup, 1) := by decide +kernel
theorem dX2_readFrom_31 : decode cX2_readFrom 31 = .ok (.getfield 40, 3) := by decide +kernel
theorem dX2_readFrom_34 : decode cX2_readFrom 34 = .ok (.iconst 1, 1) := by decide +kernel
theorem dX2_readFrom_35 : decode cX2_readFrom 35 = .ok (.iadd, 1) := by decide +kernel
theorem dX2_readFrom_36 : decode cX2_readFrom 36 = .ok (.putfield 40, 3) := by decide +kernel
theorem dX2_readFrom_39 : decode cX2_readFrom 39 = .ok (.iinc 2 1, 3) := by decide +kernel
theorem dX2_readFrom_42 : decode cX2_readFrom 42 = .ok (.goto (-36), 3) := by decide +kernel
theorem dX2_readFrom_45 : decode cX2_readFrom 45 = .ok (.return_, 1) := by decide +kernel
theorem dX2_clear_0 : decode cX2_clear 0 = .ok (.getstatic 44, 3) := by decide +kernel
theorem dX2_clear_3 : decode cX2_clear 3 = .ok (.iconst 0, 1) := by decide +kernel
theorem dX2_clear_4 : decode cX2_clear 4 = .ok (.aload_n 0, 1) := by decide +kernel
theorem dX2_clear_5 : decode cX2_clear 5 = .ok (.getfield 11, 3) := by decide +kernel
theorem dX2_clear_8 : decode cX2_clear 8 = .ok (.iconst 0, 1) := by decide +kernel
theorem dX2_clear_9 : decode cX2_clear 9 = .ok (.bipush 9, 2) := by decide +kernel
theorem dX2_clear_11 : decode cX2_clear 11 = .ok (.invokestatic 47, 3) := by decide +kernel
theorem dX2_clear_14 : decode cX2_clear 14 = .ok (.aload_n 0, 1) := by decide +kernel
theorem dX2_clear_15 : decode cX2_clear 15 = .ok (.iconst 0, 1) := by decide +kernel
theorem dX2_clear_16 : decode cX2_clear 16 = .ok (.putfield 53, 3) := by decide +kernel
theorem dX2_clear_19 : decode cX2_clear 19 = .ok (.aload_n 0, 1) := by decide +kernel
theorem dX2_clear_20 : decode cX2_clear 20 = .ok (.iconst 0, 1) := by decide +kernel
theorem dX2_clear_21 : decode cX2_clear 21 = .ok (.putfield 40, 3) := by decide +kernel
theorem dX2_clear_24 : decode cX2_clear 24 = .ok (.aload_n 0, 1) := by decide +kernel
theorem dX2_clear_25 : decode cX2_clear 25 = .ok (.iconst 0, 1) := by decide +kernel
theorem dX2_clear_26 : decode cX2_clear 26 = .ok (.putfield 56, 3) := by decide +kernel
theorem dX2_clear_29 : decode cX2_clear 29 = .ok (.return_, 1) := by decide +kernel
theorem dX2_readClause_0 : decode cX2_readClause 0 = .ok (.aload_n 1, 1) := by decide +kernel
theorem dX2_readClause_1 : decode cX2_readClause 1 = .ok (.ldc 59, 2) := by decide +kernel
theorem dX2_readClause_3 : decode cX2_readClause 3 = .ok (.invokevirtual 61, 3) := by decide +kernel
theorem dX2_readClause_6 : decode cX2_readClause 6 = .ok (.ifCond .eq 11, 3) := by decide +kernel
theorem dX2_readClause_9 : decode cX2_readClause 9 = .ok (.aload_n 0, 1) := by decide +kernel
theorem dX2_readClause_10 : decode cX2_readClause 10 = .ok (.aload_n 1, 1) := by decide +kernel
theorem dX2_readClause_11 : decode cX2_readClause 11 = .ok (.invokevirtual 65, 3) := by decide +kernel
theorem dX2_readClause_14 : decode cX2_readClause 14 = .ok (.goto 86, 3) := by decide +kernel
theorem dX2_readClause_17 : decode cX2_readClause 17 = .ok (.aload_n 1, 1) := by decide +kernel
theorem dX2_readClause_18 : decode cX2_readClause 18 = .ok (.ldc 68, 2) := by decide +kernel
theorem dX2_readClause_20 : decode cX2_readClause 20 = .ok (.invokevirtual 61, 3) := by decide +kernel
theorem dX2_readClause_23 : decode cX2_readClause 23 = .ok (.ifCond .eq 13, 3) := by decide +kernel
theorem dX2_readClause_26 : decode cX2_readClause 26 = .ok (.aload_n 0, 1) := by decide +kernel
theorem dX2_readClause_27 : decode cX2_readClause 27 = .ok (.aload_n 1, 1) := by decide +kernel
theorem dX2_readClause_28 : decode cX2_readClause 28 = .ok (.iconst 0, 1) := by decide +kernel
theorem dX2_readClause_29 : decode cX2_readClause 29 = .ok (.iconst 4, 1) := by decide +kernel
theorem dX2_readClause_30 : decode cX2_readClause 30 = .ok (.invokevirtual 70, 3) := by decide +kernel
theorem dX2_readClause_33 : decode cX2_readClause 33 = .ok (.goto 67, 3) := by decide +kernel
theorem dX2_readClause_36 : decode cX2_readClause 36 = .ok (.aload_n 1, 1) := by decide +kernel
theorem dX2_readClause_37 : decode cX2_readClause 37 = .ok (.ldc 74, 2) := by decide +kernel
theorem dX2_readClause_39 : decode cX2_readClause 39 = .ok (.invokevirtual 61, 3) := by decide +kernel
theorem dX2_readClause_42 : decode cX2_readClause 42 = .ok (.ifCond .eq 13, 3) := by decide +kernel
theorem dX2_readClause_45 : decode cX2_readClause 45 = .ok (.aload_n 0, 1) := by decide +kernel
theorem dX2_readClause_46 : decode cX2_readClause 46 = .ok (.aload_n 1, 1) := by decide +kernel
theorem dX2_readClause_47 : decode cX2_readClause 47 = .ok (.iconst 4, 1) := by decide +kernel
theorem dX2_readClause_48 : decode cX2_readClause 48 = .ok (.iconst 2, 1) := by decide +kernel
theorem dX2_readClause_49 : decode cX2_readClause 49 = .ok (.invokevirtual 70, 3) := by decide +kernel
theorem dX2_readClause_52 : decode cX2_readClause 52 = .ok (.goto 48, 3) := by decide +kernel
theorem dX2_readClause_55 : decode cX2_readClause 55 = .ok (.aload_n 1, 1) := by decide +kernel
theorem dX2_readClause_56 : decode cX2_readClause 56 = .ok (.ldc 76, 2) := by decide +kernel
theorem dX2_readClause_58 : decode cX2_readClause 58 = .ok (.invokevirtual 61, 3) := by decide +kernel
theorem dX2_readClause_61 : decode cX2_readClause 61 = .ok (.ifCond .eq 14, 3) := by decide +kernel
theorem dX2_readClause_64 : decode cX2_readClause 64 = .ok (.aload_n 0, 1) := by decide +kernel
theorem dX2_readClause_65 : decode cX2_readClause 65 = .ok (.aload_n 1, 1) := by decide +kernel
theorem dX2_readClause_66 : decode cX2_readClause 66 = .ok (.bipush 6, 2) := by decide +kernel
theorem dX2_readClause_68 : decode cX2_readClause 68 = .ok (.iconst 2, 1) := by decide +kernel
theorem dX2_readClause_69 : decode cX2_readClause 69 = .ok (.invokevirtual 70, 3) := by decide +kernel
theorem dX2_readClause_72 : decode cX2_readClause 72 = .ok (.goto 28, 3) := by decide +kernel
theorem dX2_readClause_75 : decode cX2_readClause 75 = .ok (.aload_n 1, 1) := by decide +kernel
theorem dX2_readClause_76 : decode cX2_readClause 76 = .ok (.ldc 78, 2) := by decide +kernel
theorem dX2_readClause_78 : decode cX2_readClause 78 = .ok (.invokevirtual 61, 3) := by decide +kernel
theorem dX2_readClause_81 : decode cX2_readClause 81 = .ok (.ifCond .eq 14, 3) := by decide +kernel
theorem dX2_readClause_84 : decode cX2_readClause 84 = .ok (.aload_n 0, 1) := by decide +kernel
theorem dX2_readClause_85 : decode cX2_readClause 85 = .ok (.aload_n 1, 1) := by decide +kernel
theorem dX2_readClause_86 : decode cX2_readClause 86 = .ok (.bipush 8, 2) := by decide +kernel
theorem dX2_readClause_88 : decode cX2_readClause 88 = .ok (.iconst 1, 1) := by decide +kernel
theorem dX2_readClause_89 : decode cX2_readClause 89 = .ok (.invokevirtual 70, 3) := by decide +kernel
theorem dX2_readClause_92 : decode cX2_readClause 92 = .ok (.goto 8, 3) := by decide +kernel
theorem dX2_readClause_95 : decode cX2_readClause 95 = .ok (.aload_n 1, 1) := by decide +kernel
theorem dX2_readClause_96 : decode cX2_readClause 96 = .ok (.iconst 1, 1) := by decide +kernel
theorem dX2_readClause_97 : decode cX2_readClause 97 = .ok (.invokevirtual 80, 3) := by decide +kernel
theorem dX2_readClause_100 : decode cX2_readClause 100 = .ok (.return_, 1) := by decide +kernel
theorem dX2_readWave_0 : decode cX2_readWave 0 = .ok (.aload_n 0, 1) := by decide +kernel
theorem dX2_readWave_1 : decode cX2_readWave 1 = .ok (.getfield 53, 3) := by decide +kernel
theorem dX2_readWave_4 : decode cX2_readWave 4 = .ok (.bipush 12, 2) := by decide +kernel
theorem dX2_readWave_6 : decode cX2_readWave 6 = .ok (.if_icmp .lt 9, 3) := by decide +kernel
theorem dX2_readWave_9 : decode cX2_readWave 9 = .ok (.aload_n 1, 1) := by decide +kernel
theorem dX2_readWave_10 : decode cX2_readWave 10 = .ok (.iconst 4, 1) := by decide +kernel
theorem dX2_readWave_11 : decode cX2_readWave 11 = .ok (.invokevirtual 80, 3) := by decide +kernel
theorem dX2_readWave_14 : decode cX2_readWave 14 = .ok (.return_, 1) := by decide +kernel
theorem dX2_readWave_15 : decode cX2_readWave 15 = .ok (.aload_n 0, 1) := by decide +kernel
theorem dX2_readWave_16 : decode cX2_readWave 16 = .ok (.getfield 15, 3) := by decide +kernel
theorem dX2_readWave_19 : decode cX2_readWave 19 = .ok (.aload_n 0, 1) := by decide +kernel
theorem dX2_readWave_20 : decode cX2_readWave 20 = .ok (.getfield 53, 3) := by decide +kernel
theorem dX2_readWave_23 : decode cX2_readWave 23 = .ok (.aload_n 1, 1) := by decide +kernel
theorem dX2_readWave_24 : decode cX2_readWave 24 = .ok (.iconst 0, 1) := by decide +kernel
theorem dX2_readWave_25 : decode cX2_readWave 25 = .ok (.sipush 359, 3) := by decide +kernel
theorem dX2_readWave_28 : decode cX2_readWave 28 = .ok (.invokevirtual 84, 3) := by decide +kernel
theorem dX2_readWave_31 : decode cX2_readWave 31 = .ok (.iastore, 1) := by decide +kernel
theorem dX2_readWave_32 : decode cX2_readWave 32 = .ok (.aload_n 0, 1) := by decide +kernel
theorem dX2_readWave_33 : decode cX2_readWave 33 = .ok (.getfield 18, 3) := by decide +kernel
theorem dX2_readWave_36 : decode cX2_readWave 36 = .ok (.aload_n 0, 1) := by decide +kernel
theorem dX2_readWave_37 : decode cX2_readWave 37 = .ok (.getfield 53, 3) := by decide +kernel
theorem dX2_readWave_40 : decode cX2_readWave 40 = .ok (.aload_n 1, 1) := by decide +kernel
theorem dX2_readWave_41 : decode cX2_readWave 41 = .ok (.getstatic 88, 3) := by decide +kernel
theorem dX2_readWave_44 : decode cX2_readWave 44 = .ok (.iconst 5, 1) := by decide +kernel
theorem dX2_readWave_45 : decode cX2_readWave 45 = .ok (.iaload, 1) := by decide +kernel
theorem dX2_readWave_46 : decode cX2_readWave 46 = .ok (.getstatic 91, 3) := by decide +kernel
theorem dX2_readWave_49 : decode cX2_readWave 49 = .ok (.iconst 5, 1) := by decide +kernel
theorem dX2_readWave_50 : decode cX2_readWave 50 = .ok (.iaload, 1) := by decide +kernel
theorem dX2_readWave_51 : decode cX2_readWave 51 = .ok (.invokevirtual 84, 3) := by decide +kernel
theorem dX2_readWave_54 : decode cX2_readWave 54 = .ok (.iastore, 1) := by decide +kernel
theorem dX2_readWave_55 : decode cX2_readWave 55 = .ok (.aload_n 0, 1) := by decide +kernel
theorem dX2_readWave_56 : decode cX2_readWave 56 = .ok (.getfield 21, 3) := by decide +kernel
theorem dX2_readWave_59 : decode cX2_readWave 59 = .ok (.aload_n 0, 1) := by decide +kernel
theorem dX2_readWave_60 : decode cX2_readWave 60 = .ok (.getfield 53, 3) := by decide +kernel
theorem dX2_readWave_63 : decode cX2_readWave 63 = .ok (.aload_n 1, 1) := by decide +kernel
theorem dX2_readWave_64 : decode cX2_readWave 64 = .ok (.getstatic 88, 3) := by decide +kernel
theorem dX2_readWave_67 : decode cX2_readWave 67 = .ok (.bipush 7, 2) := by decide +kernel
theorem dX2_readWave_69 : decode cX2_readWave 69 = .ok (.iaload, 1) := by decide +kernel
theorem dX2_readWave_70 : decode cX2_readWave 70 = .ok (.getstatic 91, 3) := by decide +kernel
theorem dX2_readWave_73 : decode cX2_readWave 73 = .ok (.bipush 7, 2) := by decide +kernel
theorem dX2_readWave_75 : decode cX2_readWave 75 = .ok (.iaload, 1) := by decide +kernel
theorem dX2_readWave_76 : decode cX2_readWave 76 = .ok (.invokevirtual 84, 3) := by decide +kernel
theorem dX2_readWave_79 : decode cX2_readWave 79 = .ok (.iastore, 1) := by decide +kernel
theorem dX2_readWave_80 : decode cX2_readWave 80 = .ok (.aload_n 0, 1) := by decide +kernel
theorem dX2_readWave_81 : decode cX2_readWave 81 = .ok (.dup, 1) := by decide +kernel
theorem dX2_readWave_82 : decode cX2_readWave 82 = .ok (.getfield 53, 3) := by decide +kernel
theorem dX2_readWave_85 : decode cX2_readWave 85 = .ok (.iconst 1, 1) := by decide +kernel
theorem dX2_readWave_86 : decode cX2_readWave 86 = .ok (.iadd, 1) := by decide +kernel
theorem dX2_readWave_87 : decode cX2_readWave 87 = .ok (.putfield 53, 3) := by decide +kernel
theorem dX2_readWave_90 : decode cX2_readWave 90 = .ok (.return_, 1) := by decide +kernel
theorem dX2_readNumbers_0 : decode cX2_readNumbers 0 = .ok (.aload_n 0, 1) := by decide +kernel
theorem dX2_readNumbers_1 : decode cX2_readNumbers 1 = .ok (.getfield 56, 3) := by decide +kernel
theorem dX2_readNumbers_4 : decode cX2_readNumbers 4 = .ok (.iload_n 2, 1) := by decide +kernel
theorem dX2_readNumbers_5 : decode cX2_readNumbers 5 = .ok (.ishr, 1) := by decide +kernel
theorem dX2_readNumbers_6 : decode cX2_readNumbers 6 = .ok (.iconst 1, 1) := by decide +kernel
theorem dX2_readNumbers_7 : decode cX2_readNumbers 7 = .ok (.iand, 1) := by decide +kernel
theorem dX2_readNumbers_8 : decode cX2_readNumbers 8 = .ok (.ifCond .eq 8, 3) := by decide +kernel
theorem dX2_readNumbers_11 : decode cX2_readNumbers 11 = .ok (.aload_n 1, 1) := by decide +kernel
theorem dX2_readNumbers_12 : decode cX2_readNumbers 12 = .ok (.iconst 3, 1) := by decide +kernel
theorem dX2_readNumbers_13 : decode cX2_readNumbers 13 = .ok (.invokevirtual 80, 3) := by decide +kernel
theorem dX2_readNumbers_16 : decode cX2_readNumbers 16 = .ok (.aload_n 0, 1) := by decide +kernel
theorem dX2_readNumbers_17 : decode cX2_readNumbers 17 = .ok (.dup, 1) := by decide +kernel
theorem dX2_readNumbers_18 : decode cX2_readNumbers 18 = .ok (.getfield 56, 3) := by decide +kernel
theorem dX2_readNumbers_21 : decode cX2_readNumbers 21 = .ok (.iconst 1, 1) := by decide +kernel
theorem dX2_readNumbers_22 : decode cX2_readNumbers 22 = .ok (.iload_n 2, 1) := by decide +kernel
theorem dX2_readNumbers_23 : decode cX2_readNumbers 23 = .ok (.ishl, 1) := by decide +kernel
theorem dX2_readNumbers_24 : decode cX2_readNumbers 24 = .ok (.ior, 1) := by decide +kernel
theorem dX2_readNumbers_25 : decode cX2_readNumbers 25 = .ok (.putfield 56, 3) := by decide +kernel
theorem dX2_readNumbers_28 : decode cX2_readNumbers 28 = .ok (.bipush 9, 2) := by decide +kernel
theorem dX2_readNumbers_30 : decode cX2_readNumbers 30 = .ok (.iload_n 2, 1) := by decide +kernel
theorem dX2_readNumbers_31 : decode cX2_readNumbers 31 = .ok (.iload_n 3, 1) := by decide +kernel
theorem dX2_readNumbers_32 : decode cX2_readNumbers 32 = .ok (.iadd, 1) := by decide +kernel
theorem dX2_readNumbers_33 : decode cX2_readNumbers 33 = .ok (.invokestatic 94, 3) := by decide +kernel
theorem dX2_readNumbers_36 : decode cX2_readNumbers 36 = .ok (.istore 4, 2) := by decide +kernel
theorem dX2_readNumbers_38 : decode cX2_readNumbers 38 = .ok (.iload_n 2, 1) := by decide +kernel
theorem dX2_readNumbers_39 : decode cX2_readNumbers 39 = .ok (.istore 5, 2) := by decide +kernel
theorem dX2_readNumbers_41 : decode cX2_readNumbers 41 = .ok (.iload 5, 2) := by decide +kernel
theorem dX2_readNumbers_43 : decode cX2_readNumbers 43 = .ok (.iload 4, 2) := by decide +kernel
theorem dX2_readNumbers_45 : decode cX2_readNumbers 45 = .ok (.if_icmp .ge 56, 3) := by decide +kernel
theorem dX2_readNumbers_48 : decode cX2_readNumbers 48 = .ok (.iload 5, 2) := by decide +kernel
theorem dX2_readNumbers_50 : decode cX2_readNumbers 50 = .ok (.invokestatic 99, 3) := by decide +kernel
theorem dX2_readNumbers_53 : decode cX2_readNumbers 53 = .ok (.ifCond .eq 15, 3) := by decide +kernel
theorem dX2_readNumbers_56 : decode cX2_readNumbers 56 = .ok (.aload_n 0, 1) := by decide +kernel
theorem dX2_readNumbers_57 : decode cX2_readNumbers 57 = .ok (.getfield 11, 3) := by decide +kernel
theorem dX2_readNumbers_60 : decode cX2_readNumbers 60 = .ok (.iload 5, 2) := by decide +kernel
theorem dX2_readNumbers_62 : decode cX2_readNumbers 62 = .ok (.iconst 1, 1) := by decide +kernel
theorem dX2_readNumbers_63 : decode cX2_readNumbers 63 = .ok (.isub, 1) := by decide +kernel
theorem dX2_readNumbers_64 : decode cX2_readNumbers 64 = .ok (.iaload, 1) := by decide +kernel
theorem dX2_readNumbers_65 : decode cX2_readNumbers 65 = .ok (.goto 9, 3) := by decide +kernel
theorem dX2_readNumbers_68 : decode cX2_readNumbers 68 = .ok (.getstatic 88, 3) := by decide +kernel
theorem dX2_readNumbers_71 : decode cX2_readNumbers 71 = .ok (.iload 5, 2) := by decide +kernel
theorem dX2_readNumbers_73 : decode cX2_readNumbers 73 = .ok (.iaload, 1) := by decide +kernel
theorem dX2_readNumbers_74 : decode cX2_readNumbers 74 = .ok (.istore 6, 2) := by decide +kernel
theorem dX2_readNumbers_76 : decode cX2_readNumbers 76 = .ok (.aload_n 0, 1) := by decide +kernel
theorem dX2_readNumbers_77 : decode cX2_readNumbers 77 = .ok (.getfield 11, 3) := by decide +kernel
theorem dX2_readNumbers_80 : decode cX2_readNumbers 80 = .ok (.iload 5, 2) := by decide +kernel
theorem dX2_readNumbers_82 : decode cX2_readNumbers 82 = .ok (.aload_n 1, 1) := by decide +kernel
theorem dX2_readNumbers_83 : decode cX2_readNumbers 83 = .ok (.iload 6, 2) := by decide +kernel
theorem dX2_readNumbers_85 : decode cX2_readNumbers 85 = .ok (.getstatic 91, 3) := by decide +kernel
theorem dX2_readNumbers_88 : decode cX2_readNumbers 88 = .ok (.iload 5, 2) := by decide +kernel
theorem dX2_readNumbers_90 : decode cX2_readNumbers 90 = .ok (.iaload, 1) := by decide +kernel
theorem dX2_readNumbers_91 : decode cX2_readNumbers 91 = .ok (.invokevirtual 84, 3) := by decide +kernel
theorem dX2_readNumbers_94 : decode cX2_readNumbers 94 = .ok (.iastore, 1) := by decide +kernel
theorem dX2_readNumbers_95 : decode cX2_readNumbers 95 = .ok (.iinc 5 1, 3) := by decide +kernel
theorem dX2_readNumbers_98 : decode cX2_readNumbers 98 = .ok (.goto (-57), 3) := by decide +kernel
theorem dX2_readNumbers_101 : decode cX2_readNumbers 101 = .ok (.return_, 1) := by decide +kernel
theorem dX2_isEndOfSpan_0 : decode cX2_isEndOfSpan 0 = .ok (.iload_n 0, 1) := by decide +kernel
theorem dX2_isEndOfSpan_1 : decode cX2_isEndOfSpan 1 = .ok (.iconst 1, 1) := by decide +kernel
theorem dX2_isEndOfSpan_2 : decode cX2_isEndOfSpan 2 = .ok (.if_icmp .eq 14, 3) := by decide +kernel
theorem dX2_isEndOfSpan_5 : decode cX2_isEndOfSpan 5 = .ok (.iload_n 0, 1) := by decide +kernel
theorem dX2_isEndOfSpan_6 : decode cX2_isEndOfSpan 6 = .ok (.iconst 5, 1) := by decide +kernel
theorem dX2_isEndOfSpan_7 : decode cX2_isEndOfSpan 7 = .ok (.if_icmp .eq 9, 3) := by decide +kernel
theorem dX2_isEndOfSpan_10 : decode cX2_isEndOfSpan 10 = .ok (.iload_n 0, 1) := by decide +kernel
theorem dX2_isEndOfSpan_11 : decode cX2_isEndOfSpan 11 = .ok (.bipush 7, 2) := by decide +kernel
theorem dX2_isEndOfSpan_13 : decode cX2_isEndOfSpan 13 = .ok (.if_icmp .ne 7, 3) := by decide +kernel
theorem dX2_isEndOfSpan_16 : decode cX2_isEndOfSpan 16 = .ok (.iconst 1, 1) := by decide +kernel
theorem dX2_isEndOfSpan_17 : decode cX2_isEndOfSpan 17 = .ok (.goto 4, 3) := by decide +kernel
theorem dX2_isEndOfSpan_20 : decode cX2_isEndOfSpan 20 = .ok (.iconst 0, 1) := by decide +kernel
theorem dX2_isEndOfSpan_21 : decode cX2_isEndOfSpan 21 = .ok (.ireturn, 1) := by decide +kernel
theorem dX3_init_0 : decode cX3_init 0 = .ok (.aload_n 0, 1) := by decide +kernel
theorem dX3_init_1 : decode cX3_init 1 = .ok (.invokespecial 3, 3) := by decide +kernel
theorem dX3_init_4 : decode cX3_init 4 = .ok (.aload_n 0, 1) := by decide +kernel
theorem dX3_init_5 : decode cX3_init 5 = .ok (.bipush 64, 2) := by decide +kernel
theorem dX3_init_7 : decode cX3_init 7 = .ok (.newarray .int, 2) := by decide +kernel
theorem dX3_init_9 : decode cX3_init 9 = .ok (.putfield 9, 3) := by decide +kernel
theorem dX3_init_12 : decode cX3_init 12 = .ok (.aload_n 0, 1) := by decide +kernel
theorem dX3_init_13 : decode cX3_init 13 = .ok (.bipush 64, 2) := by decide +kernel
theorem dX3_init_15 : decode cX3_init 15 = .ok (.newarray .int, 2) := by decide +kernel
theorem dX3_init_17 : decode cX3_init 17 = .ok (.putfield 15, 3) := by decide +kernel
theorem dX3_init_20 : decode cX3_init 20 = .ok (.aload_n 0, 1) := by decide +kernel
theorem dX3_init_21 : decode cX3_init 21 = .ok (.bipush 64, 2) := by decide +kernel
theorem dX3_init_23 : decode cX3_init 23 = .ok (.newarray .int, 2) := by decide +kernel
theorem dX3_init_25 : decode cX3_init 25 = .ok (.putfield 18, 3) := by decide +kernel
theorem dX3_init_28 : decode cX3_init 28 = .ok (.aload_n 0, 1) := by decide +kernel
theorem dX3_init_29 : decode cX3_init 29 = .ok (.bipush 64, 2) := by decide +kernel
theorem dX3_init_31 : decode cX3_init 31 = .ok (.newarray .int, 2) := by decide +kernel
theorem dX3_init_33 : decode cX3_init 33 = .ok (.putfield 21, 3) := by decide +kernel
theorem dX3_init_36 : decode cX3_init 36 = .ok (.aload_n 0, 1) := by decide +kernel
theorem dX3_init_37 : decode cX3_init 37 = .ok (.iconst 3, 1) := by decide +kernel
theorem dX3_init_38 : decode cX3_init 38 = .ok (.newarray .int, 2) := by decide +kernel
theorem dX3_init_40 : decode cX3_init 40 = .ok (.putfield 24, 3) := by decide +kernel
theorem dX3_init_43 : decode cX3_init 43 = .ok (.aload_n 0, 1) := by decide +kernel
theorem dX3_init_44 : decode cX3_init 44 = .ok (.iconst 4, 1) := by decide +kernel
theorem dX3_init_45 : decode cX3_init 45 = .ok (.newarray .int, 2) := by decide +kernel
theorem dX3_init_47 : decode cX3_init 47 = .ok (.putfield 27, 3) := by decide +kernel
theorem dX3_init_50 : decode cX3_init 50 = .ok (.aload_n 0, 1) := by decide +kernel
theorem dX3_init_51 : decode cX3_init 51 = .ok (.iconst 4, 1) := by decide +kernel
theorem dX3_init_52 : decode cX3_init 52 = .ok (.newarray .int, 2) := by decide +kernel
theorem dX3_init_54 : decode cX3_init 54 = .ok (.putfield 30, 3) := by decide +kernel
theorem dX3_init_57 : decode cX3_init 57 = .ok (.aload_n 0, 1) := by decide +kernel
theorem dX3_init_58 : decode cX3_init 58 = .ok (.iconst (-1), 1) := by decide +kernel
theorem dX3_init_59 : decode cX3_init 59 = .ok (.putfield 33, 3) := by decide +kernel
theorem dX3_init_62 : decode cX3_init 62 = .ok (.aload_n 0, 1) := by decide +kernel
theorem dX3_init_63 : decode cX3_init 63 = .ok (.iconst 1, 1) := by decide +kernel
theorem dX3_init_64 : decode cX3_init 64 = .ok (.putfield 37, 3) := by decide +kernel
theorem dX3_init_67 : decode cX3_init 67 = .ok (.return_, 1) := by decide +kernel
theorem dX3_begin_0 : decode cX3_begin 0 = .ok (.iconst 0, 1) := by decide +kernel
theorem dX3_begin_1 : decode cX3_begin 1 = .ok (.istore_n 2, 1) := by decide +kernel
theorem dX3_begin_2 : decode cX3_begin 2 = .ok (.iload_n 2, 1) := by decide +kernel
theorem dX3_begin_3 : decode cX3_begin 3 = .ok (.bipush 64, 2) := by decide +kernel
theorem dX3_begin_5 : decode cX3_begin 5 = .ok (.if_icmp .ge 32, 3) := by decide +kernel
theorem dX3_begin_8 : decode cX3_begin 8 = .ok (.aload_n 0, 1) := by decide +kernel
theorem dX3_begin_9 : decode cX3_begin 9 = .ok (.getfield 9, 3) := by decide +kernel
theorem dX3_begin_12 : decode cX3_begin 12 = .ok (.iload_n 2, 1) := by decide +kernel
theorem dX3_begin_13 : decode cX3_begin 13 = .ok (.aload_n 1, 1) := by decide +kernel
theorem dX3_begin_14 : decode cX3_begin 14 = .ok (.iload_n 2, 1) := by decide +kernel
theorem dX3_begin_15 : decode cX3_begin 15 = .ok (.invokevirtual 40, 3) := by decide +kernel
theorem dX3_begin_18 : decode cX3_begin 18 = .ok (.iastore, 1) := by decide +kernel
theorem dX3_begin_19 : decode cX3_begin 19 = .ok (.aload_n 0, 1) := by decide +kernel
theorem dX3_begin_20 : decode cX3_begin 20 = .ok (.getfield 21, 3) := by decide +kernel
theorem dX3_begin_23 : decode cX3_begin 23 = .ok (.iload_n 2, 1) := by decide +kernel
theorem dX3_begin_24 : decode cX3_begin 24 = .ok (.aload_n 1, 1) := by decide +kernel
theorem dX3_begin_25 : decode cX3_begin 25 = .ok (.getfield 46, 3) := by decide +kernel
theorem dX3_begin_28 : decode cX3_begin 28 = .ok (.iload_n 2, 1) := by decide +kernel
theorem dX3_begin_29 : decode cX3_begin 29 = .ok (.iaload, 1) := by decide +kernel
theorem dX3_begin_30 : decode cX3_begin 30 = .ok (.iastore, 1) := by decide +kernel
theorem dX3_begin_31 : decode cX3_begin 31 = .ok (.iinc 2 1, 3) := by decide +kernel
theorem dX3_begin_34 : decode cX3_begin 34 = .ok (.goto (-32), 3) := by decide +kernel
theorem dX3_begin_37 : decode cX3_begin 37 = .ok (.aload_n 0, 1) := by decide +kernel
theorem dX3_begin_38 : decode cX3_begin 38 = .ok (.getfield 15, 3) := by decide +kernel
theorem dX3_begin_41 : decode cX3_begin 41 = .ok (.aload_n 1, 1) := by decide +kernel
theorem dX3_begin_42 : decode cX3_begin 42 = .ok (.getfield 49, 3) := by decide +kernel
theorem dX3_begin_45 : decode cX3_begin 45 = .ok (.iconst 5, 1) := by decide +kernel
theorem dX3_begin_46 : decode cX3_begin 46 = .ok (.iaload, 1) := by decide +kernel
theorem dX3_begin_47 : decode cX3_begin 47 = .ok (.invokestatic 52, 3) := by decide +kernel
theorem dX3_begin_50 : decode cX3_begin 50 = .ok (.aload_n 0, 1) := by decide +kernel
theorem dX3_begin_51 : decode cX3_begin 51 = .ok (.getfield 18, 3) := by decide +kernel
theorem dX3_begin_54 : decode cX3_begin 54 = .ok (.iconst 0, 1) := by decide +kernel
theorem dX3_begin_55 : decode cX3_begin 55 = .ok (.invokestatic 52, 3) := by decide +kernel
theorem dX3_begin_58 : decode cX3_begin 58 = .ok (.aload_n 0, 1) := by decide +kernel
theorem dX3_begin_59 : decode cX3_begin 59 = .ok (.getfield 24, 3) := by decide +kernel
theorem dX3_begin_62 : decode cX3_begin 62 = .ok (.iconst (-1), 1) := by decide +kernel
theorem dX3_begin_63 : decode cX3_begin 63 = .ok (.invokestatic 52, 3) := by decide +kernel
theorem dX3_begin_66 : decode cX3_begin 66 = .ok (.aload_n 0, 1) := by decide +kernel
theorem dX3_begin_67 : decode cX3_begin 67 = .ok (.iconst (-1), 1) := by decide +kernel
theorem dX3_begin_68 : decode cX3_begin 68 = .ok (.invokevirtual 58, 3) := by decide +kernel
theorem dX3_begin_71 : decode cX3_begin 71 = .ok (.aload_n 0, 1) := by decide +kernel
theorem dX3_begin_72 : decode cX3_begin 72 = .ok (.iconst 0, 1) := by decide +kernel
theorem dX3_begin_73 : decode cX3_begin 73 = .ok (.putfield 62, 3) := by decide +kernel
theorem dX3_begin_76 : decode cX3_begin 76 = .ok (.aload_n 0, 1) := by decide +kernel
theorem dX3_begin_77 : decode cX3_begin 77 = .ok (.iconst 0, 1) := by decide +kernel
theorem dX3_begin_78 : decode cX3_begin 78 = .ok (.putfield 65, 3) := by decide +kernel
theorem dX3_begin_81 : decode cX3_begin 81 = .ok (.aload_n 0, 1) := by decide +kernel
theorem dX3_begin_82 : decode cX3_begin 82 = .ok (.iconst 0, 1) := by decide +kernel
theorem dX3_begin_83 : decode cX3_begin 83 = .ok (.putfield 68, 3) := by decide +kernel
theorem dX3_begin_86 : decode cX3_begin 86 = .ok (.aload_n 0, 1) := by decide +kernel
theorem dX3_begin_87 : decode cX3_begin 87 = .ok (.iconst 0, 1) := by decide +kernel
theorem dX3_begin_88 : decode cX3_begin 88 = .ok (.putfield 71, 3) := by decide +kernel
theorem dX3_begin_91 : decode cX3_begin 91 = .ok (.aload_n 0, 1) := by decide +kernel
theorem dX3_begin_92 : decode cX3_begin 92 = .ok (.iconst 0, 1) := by decide +kernel
theorem dX3_begin_93 : decode cX3_begin 93 = .ok (.putfield 74, 3) := by decide +kernel
theorem dX3_begin_96 : decode cX3_begin 96 = .ok (.aload_n 0, 1) := by decide +kernel
theorem dX3_begin_97 : decode cX3_begin 97 = .ok (.iconst 0, 1) := by decide +kernel
theorem dX3_begin_98 : decode cX3_begin 98 = .ok (.putfield 77, 3) := by decide +kernel
theorem dX3_begin_101 : decode cX3_begin 101 = .ok (.aload_n 0, 1) := by decide +kernel
theorem dX3_begin_102 : decode cX3_begin 102 = .ok (.iconst 0, 1) := by decide +kernel
theorem dX3_begin_103 : decode cX3_begin 103 = .ok (.putfield 80, 3) := by decide +kernel
theorem dX3_begin_106 : decode cX3_begin 106 = .ok (.return_, 1) := by decide +kernel
theorem dX3_copyFrom_0 : decode cX3_copyFrom 0 = .ok (.aload_n 1, 1) := by decide +kernel
theorem dX3_copyFrom_1 : decode cX3_copyFrom 1 = .ok (.getfield 9, 3) := by decide +kernel
theorem dX3_copyFrom_4 : decode cX3_copyFrom 4 = .ok (.iconst 0, 1) := by decide +kernel
theorem dX3_copyFrom_5 : decode cX3_copyFrom 5 = .ok (.aload_n 0, 1) := by decide +kernel
theorem dX3_copyFrom_6 : decode cX3_copyFrom 6 = .ok (.getfield 9, 3) := by decide +kernel
theorem dX3_copyFrom_9 : decode cX3_copyFrom 9 = .ok (.iconst 0, 1) := by decide +kernel
theorem dX3_copyFrom_10 : decode cX3_copyFrom 10 = .ok (.bipush 64, 2) := by decide +kernel
theorem dX3_copyFrom_12 : decode cX3_copyFrom 12 = .ok (.invokestatic 84, 3) := by decide +kernel
theorem dX3_copyFrom_15 : decode cX3_copyFrom 15 = .ok (.aload_n 1, 1) := by decide +kernel
theorem dX3_copyFrom_16 : decode cX3_copyFrom 16 = .ok (.getfield 15, 3) := by decide +kernel
theorem dX3_copyFrom_19 : decode cX3_copyFrom 19 = .ok (.iconst 0, 1) := by decide +kernel
theorem dX3_copyFrom_20 : decode cX3_copyFrom 20 = .ok (.aload_n 0, 1) := by decide +kernel
theorem dX3_copyFrom_21 : decode cX3_copyFrom 21 = .ok (.getfield 15, 3) := by decide +kernel
theorem dX3_copyFrom_24 : decode cX3_copyFrom 24 = .ok (.iconst 0, 1) := by decide +kernel
theorem dX3_copyFrom_25 : decode cX3_copyFrom 25 = .ok (.bipush 64, 2) := by decide +kernel
theorem dX3_copyFrom_27 : decode cX3_copyFrom 27 = .ok (.invokestatic 84, 3) := by decide +kernel
theorem dX3_copyFrom_30 : decode cX3_copyFrom 30 = .ok (.aload_n 1, 1) := by decide +kernel
theorem dX3_copyFrom_31 : decode cX3_copyFrom 31 = .ok (.getfield 18, 3) := by decide +kernel
theorem dX3_copyFrom_34 : decode cX3_copyFrom 34 = .ok (.iconst 0, 1) := by decide +kernel
theorem dX3_copyFrom_35 : decode cX3_copyFrom 35 = .ok (.aload_n 0, 1) := by decide +kernel
theorem dX3_copyFrom_36 : decode cX3_copyFrom 36 = .ok (.getfield 18, 3) := by decide +kernel
theorem dX3_copyFrom_39 : decode cX3_copyFrom 39 = .ok (.iconst 0, 1) := by decide +kernel
theorem dX3_copyFrom_40 : decode cX3_copyFrom 40 = .ok (.bipush 64, 2) := by decide +kernel
theorem dX3_copyFrom_42 : decode cX3_copyFrom 42 = .ok (.invokestatic 84, 3) := by decide +kernel
theorem dX3_copyFrom_45 : decode cX3_copyFrom 45 = .ok (.aload_n 1, 1) := by decide +kernel
theorem dX3_copyFrom_46 : decode cX3_copyFrom 46 = .ok (.getfield 21, 3) := by decide +kernel
theorem dX3_copyFrom_49 : decode cX3_copyFrom 49 = .ok (.iconst 0, 1) := by decide +kernel
theorem dX3_copyFrom_50 : decode cX3_copyFrom 50 = .ok (.aload_n 0, 1) := by decide +kernel
theorem dX3_copyFrom_51 : decode cX3_copyFrom 51 = .ok (.getfield 21, 3) := by decide +kernel
theorem dX3_copyFrom_54 : decode cX3_copyFrom 54 = .ok (.iconst 0, 1) := by decide +kernel
theorem dX3_copyFrom_55 : decode cX3_copyFrom 55 = .ok (.bipush 64, 2) := by decide +kernel
theorem dX3_copyFrom_57 : decode cX3_copyFrom 57 = .ok (.invokestatic 84, 3) := by decide +kernel
theorem dX3_copyFrom_60 : decode cX3_copyFrom 60 = .ok (.aload_n 1, 1) := by decide +kernel
theorem dX3_copyFrom_61 : decode cX3_copyFrom 61 = .ok (.getfield 24, 3) := by decide +kernel
theorem dX3_copyFrom_64 : decode cX3_copyFrom 64 = .ok (.iconst 0, 1) := by decide +kernel
theorem dX3_copyFrom_65 : decode cX3_copyFrom 65 = .ok (.aload_n 0, 1) := by decide +kernel
theorem dX3_copyFrom_66 : decode cX3_copyFrom 66 = .ok (.getfield 24, 3) := by decide +kernel
theorem dX3_copyFrom_69 : decode cX3_copyFrom 69 = .ok (.iconst 0, 1) := by decide +kernel
theorem dX3_copyFrom_70 : decode cX3_copyFrom 70 = .ok (.iconst 3, 1) := by decide +kernel
theorem dX3_copyFrom_71 : decode cX3_copyFrom 71 = .ok (.invokestatic 84, 3) := by decide +kernel
theorem dX3_copyFrom_74 : decode cX3_copyFrom 74 = .ok (.aload_n 1, 1) := by decide +kernel
theorem dX3_copyFrom_75 : decode cX3_copyFrom 75 = .ok (.getfield 27, 3) := by decide +kernel
theorem dX3_copyFrom_78 : decode cX3_copyFrom 78 = .ok (.iconst 0, 1) := by decide +kernel
theorem dX3_copyFrom_79 : decode cX3_copyFrom 79 = .ok (.aload_n 0, 1) := by decide +kernel
theorem dX3_copyFrom_80 : decode cX3_copyFrom 80 = .ok (.getfield 27, 3) := by decide +kernel
theorem dX3_copyFrom_83 : decode cX3_copyFrom 83 = .ok (.iconst 0, 1) := by decide +kernel
theorem dX3_copyFrom_84 : decode cX3_copyFrom 84 = .ok (.iconst 4, 1) := by decide +kernel
theorem dX3_copyFrom_85 : decode cX3_copyFrom 85 = .ok (.invokestatic 84, 3) := by decide +kernel
theorem dX3_copyFrom_88 : decode cX3_copyFrom 88 = .ok (.aload_n 1, 1) := by decide +kernel
theorem dX3_copyFrom_89 : decode cX3_copyFrom 89 = .ok (.getfield 30, 3) := by decide +kernel
theorem dX3_copyFrom_92 : decode cX3_copyFrom 92 = .ok (.iconst 0, 1) := by decide +kernel
theorem dX3_copyFrom_93 : decode cX3_copyFrom 93 = .ok (.aload_n 0, 1) := by decide +kernel
theorem dX3_copyFrom_94 : decode cX3_copyFrom 94 = .ok (.getfield 30, 3) := by decide +kernel
theorem dX3_copyFrom_97 : decode cX3_copyFrom 97 = .ok (.iconst 0, 1) := by decide +kernel
theorem dX3_copyFrom_98 : decode cX3_copyFrom 98 = .ok (.iconst 4, 1) := by decide +kernel
theorem dX3_copyFrom_99 : decode cX3_copyFrom 99 = .ok (.invokestatic 84, 3) := by decide +kernel
theorem dX3_copyFrom_102 : decode cX3_copyFrom 102 = .ok (.aload_n 0, 1) := by decide +kernel
theorem dX3_copyFrom_103 : decode cX3_copyFrom 103 = .ok (.aload_n 1, 1) := by decide +kernel
theorem dX3_copyFrom_104 : decode cX3_copyFrom 104 = .ok (.getfield 33, 3) := by decide +kernel
theorem dX3_copyFrom_107 : decode cX3_copyFrom 107 = .ok (.putfield 33, 3) := by decide +kernel
theorem dX3_copyFrom_110 : decode cX3_copyFrom 110 = .ok (.aload_n 0, 1) := by decide +kernel
theorem dX3_copyFrom_111 : decode cX3_copyFrom 111 = .ok (.aload_n 1, 1) := by decide +kernel
theorem dX3_copyFrom_112 : decode cX3_copyFrom 112 = .ok (.getfield 37, 3) := by decide +kernel
theorem dX3_copyFrom_115 : decode cX3_copyFrom 115 = .ok (.putfield 37, 3) := by decide +kernel
theorem dX3_copyFrom_118 : decode cX3_copyFrom 118 = .ok (.aload_n 0, 1) := by decide +kernel
theorem dX3_copyFrom_119 : decode cX3_copyFrom 119 = .ok (.aload_n 1, 1) := by decide +kernel
theorem dX3_copyFrom_120 : decode cX3_copyFrom 120 = .ok (.getfield 62, 3) := by decide +kernel
theorem dX3_copyFrom_123 : decode cX3_copyFrom 123 = .ok (.putfield 62, 3) := by decide +kernel
theorem dX3_copyFrom_126 : decode cX3_copyFrom 126 = .ok (.aload_n 0, 1) := by decide +kernel
theorem dX3_copyFrom_127 : decode cX3_copyFrom 127 = .ok (.aload_n 1, 1) := by decide +kernel
theorem dX3_copyFrom_128 : decode cX3_copyFrom 128 = .ok (.getfield 65, 3) := by decide +kernel
theorem dX3_copyFrom_131 : decode cX3_copyFrom 131 = .ok (.putfield 65, 3) := by decide +kernel
theorem dX3_copyFrom_134 : decode cX3_copyFrom 134 = .ok (.aload_n 0, 1) := by decide +kernel
theorem dX3_copyFrom_135 : decode cX3_copyFrom 135 = .ok (.aload_n 1, 1) := by decide +kernel
theorem dX3_copyFrom_136 : decode cX3_copyFrom 136 = .ok (.getfield 68, 3) := by decide +kernel
theorem dX3_copyFrom_139 : decode cX3_copyFrom 139 = .ok (.putfield 68, 3) := by decide +kernel
theorem dX3_copyFrom_142 : decode cX3_copyFrom 142 = .ok (.aload_n 0, 1) := by decide +kernel
theorem dX3_copyFrom_143 : decode cX3_copyFrom 143 = .ok (.aload_n 1, 1) := by decide +kernel
theorem dX3_copyFrom_144 : decode cX3_copyFrom 144 = .ok (.getfield 71, 3) := by decide +kernel
theorem dX3_copyFrom_147 : decode cX3_copyFrom 147 = .ok (.putfield 71, 3) := by decide +kernel
theorem dX3_copyFrom_150 : decode cX3_copyFrom 150 = .ok (.aload_n 0, 1) := by decide +kernel
theorem dX3_copyFrom_151 : decode cX3_copyFrom 151 = .ok (.aload_n 1, 1) := by decide +kernel
theorem dX3_copyFrom_152 : decode cX3_copyFrom 152 = .ok (.getfield 74, 3) := by decide +kernel
theorem dX3_copyFrom_155 : decode cX3_copyFrom 155 = .ok (.putfield 74, 3) := by decide +kernel
theorem dX3_copyFrom_158 : decode cX3_copyFrom 158 = .ok (.aload_n 0, 1) := by decide +kernel
theorem dX3_copyFrom_159 : decode cX3_copyFrom 159 = .ok (.aload_n 1, 1) := by decide +kernel
theorem dX3_copyFrom_160 : decode cX3_copyFrom 160 = .ok (.getfield 77, 3) := by decide +kernel
theorem dX3_copyFrom_163 : decode cX3_copyFrom 163 = .ok (.putfield 77, 3) := by decide +kernel
theorem dX3_copyFrom_166 : decode cX3_copyFrom 166 = .ok (.aload_n 0, 1) := by decide +kernel
theorem dX3_copyFrom_167 : decode cX3_copyFrom 167 = .ok (.aload_n 1, 1) := by decide +kernel
theorem dX3_copyFrom_168 : decode cX3_copyFrom 168 = .ok (.getfield 80, 3) := by decide +kernel
theorem dX3_copyFrom_171 : decode cX3_copyFrom 171 = .ok (.putfield 80, 3) := by decide +kernel
theorem dX3_copyFrom_174 : decode cX3_copyFrom 174 = .ok (.return_, 1) := by decide +kernel
theorem dX3_hold_0 : decode cX3_hold 0 = .ok (.aload_n 0, 1) := by decide +kernel
theorem dX3_hold_1 : decode cX3_hold 1 = .ok (.iload_n 1, 1) := by decide +kernel
theorem dX3_hold_2 : decode cX3_hold 2 = .ok (.putfield 33, 3) := by decide +kernel
theorem dX3_hold_5 : decode cX3_hold 5 = .ok (.aload_n 0, 1) := by decide +kernel
theorem dX3_hold_6 : decode cX3_hold 6 = .ok (.getfield 27, 3) := by decide +kernel
theorem dX3_hold_9 : decode cX3_hold 9 = .ok (.iconst 0, 1) := by decide +kernel
theorem dX3_hold_10 : decode cX3_hold 10 = .ok (.invokestatic 52, 3) := by decide +kernel
theorem dX3_hold_13 : decode cX3_hold 13 = .ok (.aload_n 0, 1) := by decide +kernel
theorem dX3_hold_14 : decode cX3_hold 14 = .ok (.getfield 30, 3) := by decide +kernel
theorem dX3_hold_17 : decode cX3_hold 17 = .ok (.iconst 0, 1) := by decide +kernel
theorem dX3_hold_18 : decode cX3_hold 18 = .ok (.invokestatic 52, 3) := by decide +kernel
theorem dX3_hold_21 : decode cX3_hold 21 = .ok (.return_, 1) := by decide +kernel
theorem dX3_heights_0 : decode cX3_heights 0 = .ok (.iconst 0, 1) := by decide +kernel
theorem dX3_heights_1 : decode cX3_heights 1 = .ok (.istore_n 2, 1) := by decide +kernel
theorem dX3_heights_2 : decode cX3_heights 2 = .ok (.iconst 0, 1) := by decide +kernel
theorem dX3_heights_3 : decode cX3_heights 3 = .ok (.istore_n 3, 1) := by decide +kernel
theorem dX3_heights_4 : decode cX3_heights 4 = .ok (.iload_n 3, 1) := by decide +kernel
theorem dX3_heights_5 : decode cX3_heights 5 = .ok (.iload_n 1, 1) := by decide +kernel
theorem dX3_heights_6 : decode cX3_heights 6 = .ok (.if_icmp .ge 24, 3) := by decide +kernel
theorem dX3_heights_9 : decode cX3_heights 9 = .ok (.iload_n 3, 1) := by decide +kernel
theorem dX3_heights_10 : decode cX3_heights 10 = .ok (.bipush 64, 2) := by decide +kernel
theorem dX3_heights_12 : decode cX3_heights 12 = .ok (.if_icmp .ge 18, 3) := by decide +kernel
theorem dX3_heights_15 : decode cX3_heights 15 = .ok (.iload_n 2, 1) := by decide +kernel
theorem dX3_heights_16 : decode cX3_heights 16 = .ok (.aload_n 0, 1) := by decide +kernel
theorem dX3_heights_17 : decode cX3_heights 17 = .ok (.getfield 9, 3) := by decide +kernel
theorem dX3_heights_20 : decode cX3_heights 20 = .ok (.iload_n 3, 1) := by decide +kernel
theorem dX3_heights_21 : decode cX3_heights 21 = .ok (.iaload, 1) := by decide +kernel
theorem dX3_heights_22 : decode cX3_heights 22 = .ok (.iadd, 1) := by decide +kernel
theorem dX3_heights_23 : decode cX3_heights 23 = .ok (.istore_n 2, 1) := by decide +kernel
theorem dX3_heights_24 : decode cX3_heights 24 = .ok (.iinc 3 1, 3) := by decide +kernel
theorem dX3_heights_27 : decode cX3_heights 27 = .ok (.goto (-23), 3) := by decide +kernel
theorem dX3_heights_30 : decode cX3_heights 30 = .ok (.iload_n 2, 1) := by decide +kernel
theorem dX3_heights_31 : decode cX3_heights 31 = .ok (.ireturn, 1) := by decide +kernel
theorem dX3_live_0 : decode cX3_live 0 = .ok (.aload_n 3, 1) := by decide +kernel
theorem dX3_live_1 : decode cX3_live 1 = .ok (.ifnull 15, 3) := by decide +kernel
theorem dX3_live_4 : decode cX3_live 4 = .ok (.aload_n 0, 1) := by decide +kernel
theorem dX3_live_5 : decode cX3_live 5 = .ok (.aload_n 3, 1) := by decide +kernel
theorem dX3_live_6 : decode cX3_live 6 = .ok (.aload_n 1, 1) := by decide +kernel
theorem dX3_live_7 : decode cX3_live 7 = .ok (.getfield 49, 3) := by decide +kernel
theorem dX3_live_10 : decode cX3_live 10 = .ok (.bipush 7, 2) := by decide +kernel
theorem dX3_live_12 : decode cX3_live 12 = .ok (.iaload, 1) := by decide +kernel
theorem dX3_live_13 : decode cX3_live 13 = .ok (.invokevirtual 90, 3) := by decide +kernel
theorem dX3_live_16 : decode cX3_live 16 = .ok (.aload_n 0, 1) := by decide +kernel
theorem dX3_live_17 : decode cX3_live 17 = .ok (.aload_n 1, 1) := by decide +kernel
theorem dX3_live_18 : decode cX3_live 18 = .ok (.aload_n 2, 1) := by decide +kernel
theorem dX3_live_19 : decode cX3_live 19 = .ok (.invokevirtual 94, 3) := by decide +kernel
theorem dX3_live_22 : decode cX3_live 22 = .ok (.aload_n 1, 1) := by decide +kernel
theorem dX3_live_23 : decode cX3_live 23 = .ok (.getfield 49, 3) := by decide +kernel
theorem dX3_live_26 : decode cX3_live 26 = .ok (.iconst 4, 1) := by decide +kernel
theorem dX3_live_27 : decode cX3_live 27 = .ok (.iaload, 1) := by decide +kernel
theorem dX3_live_28 : decode cX3_live 28 = .ok (.istore 4, 2) := by decide +kernel
theorem dX3_live_30 : decode cX3_live 30 = .ok (.iload 4, 2) := by decide +kernel
theorem dX3_live_32 : decode cX3_live 32 = .ok (.ifCond .le 20, 3) := by decide +kernel
theorem dX3_live_35 : decode cX3_live 35 = .ok (.aload_n 0, 1) := by decide +kernel
theorem dX3_live_36 : decode cX3_live 36 = .ok (.getfield 62, 3) := by decide +kernel
theorem dX3_live_39 : decode cX3_live 39 = .ok (.iconst 1, 1) := by decide +kernel
theorem dX3_live_40 : decode cX3_live 40 = .ok (.iadd, 1) := by decide +kernel
theorem dX3_live_41 : decode cX3_live 41 = .ok (.iload 4, 2) := by decide +kernel
theorem dX3_live_43 : decode cX3_live 43 = .ok (.irem, 1) := by decide +kernel
theorem dX3_live_44 : decode cX3_live 44 = .ok (.ifCond .ne 8, 3) := by decide +kernel
theorem dX3_live_47 : decode cX3_live 47 = .ok (.aload_n 0, 1) := by decide +kernel
theorem dX3_live_48 : decode cX3_live 48 = .ok (.aload_n 1, 1) := by decide +kernel
theorem dX3_live_49 : decode cX3_live 49 = .ok (.invokevirtual 98, 3) := by decide +kernel
theorem dX3_live_52 : decode cX3_live 52 = .ok (.aload_n 0, 1) := by decide +kernel
theorem dX3_live_53 : decode cX3_live 53 = .ok (.aload_n 1, 1) := by decide +kernel
theorem dX3_live_54 : decode cX3_live 54 = .ok (.invokevirtual 102, 3) := by decide +kernel
theorem dX3_live_57 : decode cX3_live 57 = .ok (.aload_n 0, 1) := by decide +kernel
theorem dX3_live_58 : decode cX3_live 58 = .ok (.aload_n 1, 1) := by decide +kernel
theorem dX3_live_59 : decode cX3_live 59 = .ok (.invokevirtual 105, 3) := by decide +kernel
theorem dX3_live_62 : decode cX3_live 62 = .ok (.aload_n 0, 1) := by decide +kernel
theorem dX3_live_63 : decode cX3_live 63 = .ok (.dup, 1) := by decide +kernel
theorem dX3_live_64 : decode cX3_live 64 = .ok (.getfield 62, 3) := by decide +kernel
theorem dX3_live_67 : decode cX3_live 67 = .ok (.iconst 1, 1) := by decide +kernel
theorem dX3_live_68 : decode cX3_live 68 = .ok (.iadd, 1) := by decide +kernel
theorem dX3_live_69 : decode cX3_live 69 = .ok (.putfield 62, 3) := by decide +kernel
theorem dX3_live_72 : decode cX3_live 72 = .ok (.return_, 1) := by decide +kernel
theorem dX3_moveHands_0 : decode cX3_moveHands 0 = .ok (.iconst 0, 1) := by decide +kernel
theorem dX3_moveHands_1 : decode cX3_moveHands 1 = .ok (.istore_n 3, 1) := by decide +kernel
theorem dX3_moveHands_2 : decode cX3_moveHands 2 = .ok (.iload_n 3, 1) := by decide +kernel
theorem dX3_moveHands_3 : decode cX3_moveHands 3 = .ok (.aload_n 1, 1) := by decide +kernel
theorem dX3_moveHands_4 : decode cX3_moveHands 4 = .ok (.getfield 108, 3) := by decide +kernel
theorem dX3_moveHands_7 : decode cX3_moveHands 7 = .ok (.if_icmp .ge 119, 3) := by decide +kernel
theorem dX3_moveHands_10 : decode cX3_moveHands 10 = .ok (.iload_n 3, 1) := by decide +kernel
theorem dX3_moveHands_11 : decode cX3_moveHands 11 = .ok (.iconst 4, 1) := by decide +kernel
theorem dX3_moveHands_12 : decode cX3_moveHands 12 = .ok (.if_icmp .ge 114, 3) := by decide +kernel
theorem dX3_moveHands_15 : decode cX3_moveHands 15 = .ok (.iload_n 2, 1) := by decide +kernel
theorem dX3_moveHands_16 : decode cX3_moveHands 16 = .ok (.ifCond .le 23, 3) := by decide +kernel
theorem dX3_moveHands_19 : decode cX3_moveHands 19 = .ok (.aload_n 0, 1) := by decide +kernel
theorem dX3_moveHands_20 : decode cX3_moveHands 20 = .ok (.getfield 30, 3) := by decide +kernel
theorem dX3_moveHands_23 : decode cX3_moveHands 23 = .ok (.iload_n 3, 1) := by decide +kernel
theorem dX3_moveHands_24 : decode cX3_moveHands 24 = .ok (.iaload, 1) := by decide +kernel
theorem dX3_moveHands_25 : decode cX3_moveHands 25 = .ok (.iload_n 2, 1) := by decide +kernel
theorem dX3_moveHands_26 : decode cX3_moveHands 26 = .ok (.if_icmp .lt 13, 3) := by decide +kernel
theorem dX3_moveHands_29 : decode cX3_moveHands 29 = .ok (.aload_n 0, 1) := by decide +kernel
theorem dX3_moveHands_30 : decode cX3_moveHands 30 = .ok (.getfield 30, 3) := by decide +kernel
theorem dX3_moveHands_33 : decode cX3_moveHands 33 = .ok (.iload_n 3, 1) := by decide +kernel
theorem dX3_moveHands_34 : decode cX3_moveHands 34 = .ok (.iconst 0, 1) := by decide +kernel
theorem dX3_moveHands_35 : decode cX3_moveHands 35 = .ok (.iastore, 1) := by decide +kernel
theorem dX3_moveHands_36 : decode cX3_moveHands 36 = .ok (.goto 84, 3) := by decide +kernel
theorem dX3_moveHands_39 : decode cX3_moveHands 39 = .ok (.aload_n 0, 1) := by decide +kernel
theorem dX3_moveHands_40 : decode cX3_moveHands 40 = .ok (.getfield 27, 3) := by decide +kernel
theorem dX3_moveHands_43 : decode cX3_moveHands 43 = .ok (.iload_n 3, 1) := by decide +kernel
theorem dX3_moveHands_44 : decode cX3_moveHands 44 = .ok (.iaload, 1) := by decide +kernel
theorem dX3_moveHands_45 : decode cX3_moveHands 45 = .ok (.aload_n 1, 1) := by decide +kernel
theorem dX3_moveHands_46 : decode cX3_moveHands 46 = .ok (.getfield 113, 3) := by decide +kernel
theorem dX3_moveHands_49 : decode cX3_moveHands 49 = .ok (.iload_n 3, 1) := by decide +kernel
theorem dX3_moveHands_50 : decode cX3_moveHands 50 = .ok (.iaload, 1) := by decide +kernel
theorem dX3_moveHands_51 : decode cX3_moveHands 51 = .ok (.if_icmp .ge 12, 3) := by decide +kernel
theorem dX3_moveHands_54 : decode cX3_moveHands 54 = .ok (.aload_n 0, 1) := by decide +kernel
theorem dX3_moveHands_55 : decode cX3_moveHands 55 = .ok (.getfield 27, 3) := by decide +kernel
theorem dX3_moveHands_58 : decode cX3_moveHands 58 = .ok (.iload_n 3, 1) := by decide +kernel
theorem dX3_moveHands_59 : decode cX3_moveHands 59 = .ok (.iaload, 1) := by decide +kernel
theorem dX3_moveHands_60 : decode cX3_moveHands 60 = .ok (.goto 4, 3) := by decide +kernel
theorem dX3_moveHands_63 : decode cX3_moveHands 63 = .ok (.iconst 0, 1) := by decide +kernel
theorem dX3_moveHands_64 : decode cX3_moveHands 64 = .ok (.istore 4, 2) := by decide +kernel
theorem dX3_moveHands_66 : decode cX3_moveHands 66 = .ok (.iload_n 3, 1) := by decide +kernel
theorem dX3_moveHands_67 : decode cX3_moveHands 67 = .ok (.bipush 8, 2) := by decide +kernel
theorem dX3_moveHands_69 : decode cX3_moveHands 69 = .ok (.imul, 1) := by decide +kernel
theorem dX3_moveHands_70 : decode cX3_moveHands 70 = .ok (.iload 4, 2) := by decide +kernel
theorem dX3_moveHands_72 : decode cX3_moveHands 72 = .ok (.iadd, 1) := by decide +kernel
theorem dX3_moveHands_73 : decode cX3_moveHands 73 = .ok (.istore 5, 2) := by decide +kernel
theorem dX3_moveHands_75 : decode cX3_moveHands 75 = .ok (.aload_n 0, 1) := by decide +kernel
theorem dX3_moveHands_76 : decode cX3_moveHands 76 = .ok (.aload_n 1, 1) := by decide +kernel
theorem dX3_moveHands_77 : decode cX3_moveHands 77 = .ok (.getfield 116, 3) := by decide +kernel
theorem dX3_moveHands_80 : decode cX3_moveHands 80 = .ok (.iload 5, 2) := by decide +kernel
theorem dX3_moveHands_82 : decode cX3_moveHands 82 = .ok (.iaload, 1) := by decide +kernel
theorem dX3_moveHands_83 : decode cX3_moveHands 83 = .ok (.aload_n 1, 1) := by decide +kernel
theorem dX3_moveHands_84 : decode cX3_moveHands 84 = .ok (.getfield 119, 3) := by decide +kernel
theorem dX3_moveHands_87 : decode cX3_moveHands 87 = .ok (.iload 5, 2) := by decide +kernel
theorem dX3_moveHands_89 : decode cX3_moveHands 89 = .ok (.iaload, 1) := by decide +kernel
theorem dX3_moveHands_90 : decode cX3_moveHands 90 = .ok (.aload_n 1, 1) := by decide +kernel
theorem dX3_moveHands_91 : decode cX3_moveHands 91 = .ok (.getfield 122, 3) := by decide +kernel
theorem dX3_moveHands_94 : decode cX3_moveHands 94 = .ok (.iload 5, 2) := by decide +kernel
theorem dX3_moveHands_96 : decode cX3_moveHands 96 = .ok (.iaload, 1) := by decide +kernel
theorem dX3_moveHands_97 : decode cX3_moveHands 97 = .ok (.invokevirtual 125, 3) := by decide +kernel
theorem dX3_moveHands_100 : decode cX3_moveHands 100 = .ok (.aload_n 0, 1) := by decide +kernel
theorem dX3_moveHands_101 : decode cX3_moveHands 101 = .ok (.getfield 27, 3) := by decide +kernel
theorem dX3_moveHands_104 : decode cX3_moveHands 104 = .ok (.iload_n 3, 1) := by decide +kernel
theorem dX3_moveHands_105 : decode cX3_moveHands 105 = .ok (.iload 4, 2) := by decide +kernel
theorem dX3_moveHands_107 : decode cX3_moveHands 107 = .ok (.iconst 1, 1) := by decide +kernel
theorem dX3_moveHands_108 : decode cX3_moveHands 108 = .ok (.iadd, 1) := by decide +kernel
theorem dX3_moveHands_109 : decode cX3_moveHands 109 = .ok (.iastore, 1) := by decide +kernel
theorem dX3_moveHands_110 : decode cX3_moveHands 110 = .ok (.aload_n 0, 1) := by decide +kernel
theorem dX3_moveHands_111 : decode cX3_moveHands 111 = .ok (.getfield 30, 3) := by decide +kernel
theorem dX3_moveHands_114 : decode cX3_moveHands 114 = .ok (.iload_n 3, 1) := by decide +kernel
theorem dX3_moveHands_115 : decode cX3_moveHands 115 = .ok (.dup2, 1) := by decide +kernel
theorem dX3_moveHands_116 : decode cX3_moveHands 116 = .ok (.iaload, 1) := by decide +kernel
theorem dX3_moveHands_117 : decode cX3_moveHands 117 = .ok (.iconst 1, 1) := by decide +kernel
theorem dX3_moveHands_118 : decode cX3_moveHands 118 = .ok (.iadd, 1) := by decide +kernel
theorem dX3_moveHands_119 : decode cX3_moveHands 119 = .ok (.iastore, 1) := by decide +kernel
theorem dX3_moveHands_120 : decode cX3_moveHands 120 = .ok (.iinc 3 1, 3) := by decide +kernel
theorem dX3_moveHands_123 : decode cX3_moveHands 123 = .ok (.goto (-121), 3) := by decide +kernel
theorem dX3_moveHands_126 : decode cX3_moveHands 126 = .ok (.return_, 1) := by decide +kernel
theorem dX3_perform_0 : decode cX3_perform 0 = .ok (.iload_n 1, 1) := by decide +kernel
theorem dX3_perform_1 : decode cX3_perform 1 = .ok (.iconst 4, 1) := by decide +kernel
theorem dX3_perform_2 : decode cX3_perform 2 = .ok (.if_icmp .eq 10, 3) := by decide +kernel
theorem dX3_perform_5 : decode cX3_perform 5 = .ok (.iload_n 2, 1) := by decide +kernel
theorem dX3_perform_6 : decode cX3_perform 6 = .ok (.invokestatic 129, 3) := by decide +kernel
theorem dX3_perform_9 : decode cX3_perform 9 = .ok (.ifCond .ne 4, 3) := by decide +kernel
theorem dX3_perform_12 : decode cX3_perform 12 = .ok (.return_, 1) := by decide +kernel
theorem dX3_perform_13 : decode cX3_perform 13 = .ok (.aload_n 0, 1) := by decide +kernel
theorem dX3_perform_14 : decode cX3_perform 14 = .ok (.iconst 0, 1) := by decide +kernel
theorem dX3_perform_15 : decode cX3_perform 15 = .ok (.putfield 80, 3) := by decide +kernel
theorem dX3_perform_18 : decode cX3_perform 18 = .ok (.iload_n 1, 1) := by decide +kernel
theorem dX3_perform_19 : decode cX3_perform 19 = .ok (.ifCond .ne 12, 3) := by decide +kernel
theorem dX3_perform_22 : decode cX3_perform 22 = .ok (.aload_n 0, 1) := by decide +kernel
theorem dX3_perform_23 : decode cX3_perform 23 = .ok (.iload_n 2, 1) := by decide +kernel
theorem dX3_perform_24 : decode cX3_perform 24 = .ok (.iload_n 3, 1) := by decide +kernel
theorem dX3_perform_25 : decode cX3_perform 25 = .ok (.invokevirtual 133, 3) := by decide +kernel
theorem dX3_perform_28 : decode cX3_perform 28 = .ok (.goto 68, 3) := by decide +kernel
theorem dX3_perform_31 : decode cX3_perform 31 = .ok (.iload_n 1, 1) := by decide +kernel
theorem dX3_perform_32 : decode cX3_perform 32 = .ok (.iconst 1, 1) := by decide +kernel
theorem dX3_perform_33 : decode cX3_perform 33 = .ok (.if_icmp .ne 24, 3) := by decide +kernel
theorem dX3_perform_36 : decode cX3_perform 36 = .ok (.aload_n 0, 1) := by decide +kernel
theorem dX3_perform_37 : decode cX3_perform 37 = .ok (.getfield 18, 3) := by decide +kernel
theorem dX3_perform_40 : decode cX3_perform 40 = .ok (.iload_n 2, 1) := by decide +kernel
theorem dX3_perform_41 : decode cX3_perform 41 = .ok (.iconst 4, 1) := by decide +kernel
theorem dX3_perform_42 : decode cX3_perform 42 = .ok (.aload_n 0, 1) := by decide +kernel
theorem dX3_perform_43 : decode cX3_perform 43 = .ok (.getfield 18, 3) := by decide +kernel
theorem dX3_perform_46 : decode cX3_perform 46 = .ok (.iload_n 2, 1) := by decide +kernel
theorem dX3_perform_47 : decode cX3_perform 47 = .ok (.iaload, 1) := by decide +kernel
theorem dX3_perform_48 : decode cX3_perform 48 = .ok (.iconst 1, 1) := by decide +kernel
theorem dX3_perform_49 : decode cX3_perform 49 = .ok (.iadd, 1) := by decide +kernel
theorem dX3_perform_50 : decode cX3_perform 50 = .ok (.invokestatic 137, 3) := by decide +kernel
theorem dX3_perform_53 : decode cX3_perform 53 = .ok (.iastore, 1) := by decide +kernel
theorem dX3_perform_54 : decode cX3_perform 54 = .ok (.goto 42, 3) := by decide +kernel
theorem dX3_perform_57 : decode cX3_perform 57 = .ok (.iload_n 1, 1) := by decide +kernel
theorem dX3_perform_58 : decode cX3_perform 58 = .ok (.iconst 2, 1) := by decide +kernel
theorem dX3_perform_59 : decode cX3_perform 59 = .ok (.if_icmp .ne 25, 3) := by decide +kernel
theorem dX3_perform_62 : decode cX3_perform 62 = .ok (.aload_n 0, 1) := by decide +kernel
theorem dX3_perform_63 : decode cX3_perform 63 = .ok (.getfield 15, 3) := by decide +kernel
theorem dX3_perform_66 : decode cX3_perform 66 = .ok (.iload_n 2, 1) := by decide +kernel
theorem dX3_perform_67 : decode cX3_perform 67 = .ok (.bipush 15, 2) := by decide +kernel
theorem dX3_perform_69 : decode cX3_perform 69 = .ok (.aload_n 0, 1) := by decide +kernel
theorem dX3_perform_70 : decode cX3_perform 70 = .ok (.getfield 15, 3) := by decide +kernel
theorem dX3_perform_73 : decode cX3_perform 73 = .ok (.iload_n 2, 1) := by decide +kernel
theorem dX3_perform_74 : decode cX3_perform 74 = .ok (.iaload, 1) := by decide +kernel
theorem dX3_perform_75 : decode cX3_perform 75 = .ok (.iconst 4, 1) := by decide +kernel
theorem dX3_perform_76 : decode cX3_perform 76 = .ok (.iadd, 1) := by decide +kernel
theorem dX3_perform_77 : decode cX3_perform 77 = .ok (.invokestatic 137, 3) := by decide +kernel
theorem dX3_perform_80 : decode cX3_perform 80 = .ok (.iastore, 1) := by decide +kernel
theorem dX3_perform_81 : decode cX3_perform 81 = .ok (.goto 15, 3) := by decide +kernel
theorem dX3_perform_84 : decode cX3_perform 84 = .ok (.iload_n 1, 1) := by decide +kernel
theorem dX3_perform_85 : decode cX3_perform 85 = .ok (.iconst 3, 1) := by decide +kernel
theorem dX3_perform_86 : decode cX3_perform 86 = .ok (.if_icmp .ne 10, 3) := by decide +kernel
theorem dX3_perform_89 : decode cX3_perform 89 = .ok (.aload_n 0, 1) := by decide +kernel
theorem dX3_perform_90 : decode cX3_perform 90 = .ok (.getfield 21, 3) := by decide +kernel
theorem dX3_perform_93 : decode cX3_perform 93 = .ok (.iload_n 2, 1) := by decide +kernel
theorem dX3_perform_94 : decode cX3_perform 94 = .ok (.iconst 1, 1) := by decide +kernel
theorem dX3_perform_95 : decode cX3_perform 95 = .ok (.iastore, 1) := by decide +kernel
theorem dX3_perform_96 : decode cX3_perform 96 = .ok (.return_, 1) := by decide +kernel
theorem dX3_isPlace_0 : decode cX3_isPlace 0 = .ok (.iload_n 0, 1) := by decide +kernel
theorem dX3_isPlace_1 : decode cX3_isPlace 1 = .ok (.ifCond .lt 13, 3) := by decide +kernel
theorem dX3_isPlace_4 : decode cX3_isPlace 4 = .ok (.iload_n 0, 1) := by decide +kernel
theorem dX3_isPlace_5 : decode cX3_isPlace 5 = .ok (.bipush 64, 2) := by decide +kernel
theorem dX3_isPlace_7 : decode cX3_isPlace 7 = .ok (.if_icmp .ge 7, 3) := by decide +kernel
theorem dX3_isPlace_10 : decode cX3_isPlace 10 = .ok (.iconst 1, 1) := by decide +kernel
theorem dX3_isPlace_11 : decode cX3_isPlace 11 = .ok (.goto 4, 3) := by decide +kernel
theorem dX3_isPlace_14 : decode cX3_isPlace 14 = .ok (.iconst 0, 1) := by decide +kernel
theorem dX3_isPlace_15 : decode cX3_isPlace 15 = .ok (.ireturn, 1) := by decide +kernel
theorem dX3_dig_0 : decode cX3_dig 0 = .ok (.iload_n 2, 1) := by decide +kernel
theorem dX3_dig_1 : decode cX3_dig 1 = .ok (.invokestatic 129, 3) := by decide +kernel
theorem dX3_dig_4 : decode cX3_dig 4 = .ok (.ifCond .eq 31, 3) := by decide +kernel
theorem dX3_dig_7 : decode cX3_dig 7 = .ok (.aload_n 0, 1) := by decide +kernel
theorem dX3_dig_8 : decode cX3_dig 8 = .ok (.getfield 9, 3) := by decide +kernel
theorem dX3_dig_11 : decode cX3_dig 11 = .ok (.iload_n 1, 1) := by decide +kernel
theorem dX3_dig_12 : decode cX3_dig 12 = .ok (.iaload, 1) := by decide +kernel
theorem dX3_dig_13 : decode cX3_dig 13 = .ok (.iconst 1, 1) := by decide +kernel
theorem dX3_dig_14 : decode cX3_dig 14 = .ok (.if_icmp .lt 21, 3) := by decide +kernel
theorem dX3_dig_17 : decode cX3_dig 17 = .ok (.aload_n 0, 1) := by decide +kernel
theorem dX3_dig_18 : decode cX3_dig 18 = .ok (.getfield 21, 3) := by decide +kernel
theorem dX3_dig_21 : decode cX3_dig 21 = .ok (.iload_n 1, 1) := by decide +kernel
theorem dX3_dig_22 : decode cX3_dig 22 = .ok (.iaload, 1) := by decide +kernel
theorem dX3_dig_23 : decode cX3_dig 23 = .ok (.ifCond .ne 12, 3) := by decide +kernel
theorem dX3_dig_26 : decode cX3_dig 26 = .ok (.aload_n 0, 1) := by decide +kernel
theorem dX3_dig_27 : decode cX3_dig 27 = .ok (.getfield 21, 3) := by decide +kernel
theorem dX3_dig_30 : decode cX3_dig 30 = .ok (.iload_n 2, 1) := by decide +kernel
theorem dX3_dig_31 : decode cX3_dig 31 = .ok (.iaload, 1) := by decide +kernel
theorem dX3_dig_32 : decode cX3_dig 32 = .ok (.ifCond .eq 4, 3) := by decide +kernel
theorem dX3_dig_35 : decode cX3_dig 35 = .ok (.return_, 1) := by decide +kernel
theorem dX3_dig_36 : decode cX3_dig 36 = .ok (.aload_n 0, 1) := by decide +kernel
theorem dX3_dig_37 : decode cX3_dig 37 = .ok (.iload_n 1, 1) := by decide +kernel
theorem dX3_dig_38 : decode cX3_dig 38 = .ok (.iload_n 2, 1) := by decide +kernel
theorem dX3_dig_39 : decode cX3_dig 39 = .ok (.invokevirtual 143, 3) := by decide +kernel
theorem dX3_dig_42 : decode cX3_dig 42 = .ok (.aload_n 0, 1) := by decide +kernel
theorem dX3_dig_43 : decode cX3_dig 43 = .ok (.getfield 18, 3) := by decide +kernel
theorem dX3_dig_46 : decode cX3_dig 46 = .ok (.iload_n 1, 1) := by decide +kernel
theorem dX3_dig_47 : decode cX3_dig 47 = .ok (.iconst 0, 1) := by decide +kernel
theorem dX3_dig_48 : decode cX3_dig 48 = .ok (.iastore, 1) := by decide +kernel
theorem dX3_dig_49 : decode cX3_dig 49 = .ok (.return_, 1) := by decide +kernel
theorem dX3_moveUnit_0 : decode cX3_moveUnit 0 = .ok (.aload_n 0, 1) := by decide +kernel
theorem dX3_moveUnit_1 : decode cX3_moveUnit 1 = .ok (.getfield 9, 3) := by decide +kernel
theorem dX3_moveUnit_4 : decode cX3_moveUnit 4 = .ok (.iload_n 2, 1) := by decide +kernel
theorem dX3_moveUnit_5 : decode cX3_moveUnit 5 = .ok (.iaload, 1) := by decide +kernel
theorem dX3_moveUnit_6 : decode cX3_moveUnit 6 = .ok (.ifCond .le 12, 3) := by decide +kernel
theorem dX3_moveUnit_9 : decode cX3_moveUnit 9 = .ok (.aload_n 0, 1) := by decide +kernel
theorem dX3_moveUnit_10 : decode cX3_moveUnit 10 = .ok (.getfield 9, 3) := by decide +kernel
theorem dX3_moveUnit_13 : decode cX3_moveUnit 13 = .ok (.iload_n 2, 1) := by decide +kernel
theorem dX3_moveUnit_14 : decode cX3_moveUnit 14 = .ok (.iaload, 1) := by decide +kernel
theorem dX3_moveUnit_15 : decode cX3_moveUnit 15 = .ok (.goto 4, 3) := by decide +kernel
theorem dX3_moveUnit_18 : decode cX3_moveUnit 18 = .ok (.iconst 0, 1) := by decide +kernel
theorem dX3_moveUnit_19 : decode cX3_moveUnit 19 = .ok (.istore_n 3, 1) := by decide +kernel
theorem dX3_moveUnit_20 : decode cX3_moveUnit 20 = .ok (.aload_n 0, 1) := by decide +kernel
theorem dX3_moveUnit_21 : decode cX3_moveUnit 21 = .ok (.getfield 15, 3) := by decide +kernel
theorem dX3_moveUnit_24 : decode cX3_moveUnit 24 = .ok (.iload_n 2, 1) := by decide +kernel
theorem dX3_moveUnit_25 : decode cX3_moveUnit 25 = .ok (.aload_n 0, 1) := by decide +kernel
theorem dX3_moveUnit_26 : decode cX3_moveUnit 26 = .ok (.getfield 15, 3) := by decide +kernel
theorem dX3_moveUnit_29 : decode cX3_moveUnit 29 = .ok (.iload_n 2, 1) := by decide +kernel
theorem dX3_moveUnit_30 : decode cX3_moveUnit 30 = .ok (.iaload, 1) := by decide +kernel
theorem dX3_moveUnit_31 : decode cX3_moveUnit 31 = .ok (.iload_n 3, 1) := by decide +kernel
theorem dX3_moveUnit_32 : decode cX3_moveUnit 32 = .ok (.imul, 1) := by decide +kernel
theorem dX3_moveUnit_33 : decode cX3_moveUnit 33 = .ok (.aload_n 0, 1) := by decide +kernel
theorem dX3_moveUnit_34 : decode cX3_moveUnit 34 = .ok (.getfield 15, 3) := by decide +kernel
theorem dX3_moveUnit_37 : decode cX3_moveUnit 37 = .ok (.iload_n 1, 1) := by decide +kernel
theorem dX3_moveUnit_38 : decode cX3_moveUnit 38 = .ok (.iaload, 1) := by decide +kernel
theorem dX3_moveUnit_39 : decode cX3_moveUnit 39 = .ok (.iadd, 1) := by decide +kernel
theorem dX3_moveUnit_40 : decode cX3_moveUnit 40 = .ok (.iload_n 3, 1) := by decide +kernel
theorem dX3_moveUnit_41 : decode cX3_moveUnit 41 = .ok (.iconst 1, 1) := by decide +kernel
theorem dX3_moveUnit_42 : decode cX3_moveUnit 42 = .ok (.iadd, 1) := by decide +kernel
theorem dX3_moveUnit_43 : decode cX3_moveUnit 43 = .ok (.idiv, 1) := by decide +kernel
theorem dX3_moveUnit_44 : decode cX3_moveUnit 44 = .ok (.iastore, 1) := by decide +kernel
theorem dX3_moveUnit_45 : decode cX3_moveUnit 45 = .ok (.aload_n 0, 1) := by decide +kernel
theorem dX3_moveUnit_46 : decode cX3_moveUnit 46 = .ok (.getfield 18, 3) := by decide +kernel
theorem dX3_moveUnit_49 : decode cX3_moveUnit 49 = .ok (.iload_n 2, 1) := by decide +kernel
theorem dX3_moveUnit_50 : decode cX3_moveUnit 50 = .ok (.iconst 0, 1) := by decide +kernel
theorem dX3_moveUnit_51 : decode cX3_moveUnit 51 = .ok (.iastore, 1) := by decide +kernel
theorem dX3_moveUnit_52 : decode cX3_moveUnit 52 = .ok (.aload_n 0, 1) := by decide +kernel
theorem dX3_moveUnit_53 : decode cX3_moveUnit 53 = .ok (.getfield 9, 3) := by decide +kernel
theorem dX3_moveUnit_56 : decode cX3_moveUnit 56 = .ok (.iload_n 1, 1) := by decide +kernel
theorem dX3_moveUnit_57 : decode cX3_moveUnit 57 = .ok (.dup2, 1) := by decide +kernel
theorem dX3_moveUnit_58 : decode cX3_moveUnit 58 = .ok (.iaload, 1) := by decide +kernel
theorem dX3_moveUnit_59 : decode cX3_moveUnit 59 = .ok (.iconst 1, 1) := by decide +kernel
theorem dX3_moveUnit_60 : decode cX3_moveUnit 60 = .ok (.isub, 1) := by decide +kernel
theorem dX3_moveUnit_61 : decode cX3_moveUnit 61 = .ok (.iastore, 1) := by decide +kernel
theorem dX3_moveUnit_62 : decode cX3_moveUnit 62 = .ok (.aload_n 0, 1) := by decide +kernel
theorem dX3_moveUnit_63 : decode cX3_moveUnit 63 = .ok (.getfield 9, 3) := by decide +kernel
theorem dX3_moveUnit_66 : decode cX3_moveUnit 66 = .ok (.iload_n 2, 1) := by decide +kernel
theorem dX3_moveUnit_67 : decode cX3_moveUnit 67 = .ok (.dup2, 1) := by decide +kernel
theorem dX3_moveUnit_68 : decode cX3_moveUnit 68 = .ok (.iaload, 1) := by decide +kernel
theorem dX3_moveUnit_69 : decode cX3_moveUnit 69 = .ok (.iconst 1, 1) := by decide +kernel
theorem dX3_moveUnit_70 : decode cX3_moveUnit 70 = .ok (.iadd, 1) := by decide +kernel
theorem dX3_moveUnit_71 : decode cX3_moveUnit 71 = .ok (.iastore, 1) := by decide +kernel
theorem dX3_moveUnit_72 : decode cX3_moveUnit 72 = .ok (.return_, 1) := by decide +kernel
theorem dX3_heapUp_0 : decode cX3_heapUp 0 = .ok (.iload_n 1, 1) := by decide +kernel
theorem dX3_heapUp_1 : decode cX3_heapUp 1 = .ok (.invokestatic 129, 3) := by decide +kernel
theorem dX3_heapUp_4 : decode cX3_heapUp 4 = .ok (.ifCond .eq 18, 3) := by decide +kernel
theorem dX3_heapUp_7 : decode cX3_heapUp 7 = .ok (.aload_n 0, 1) := by decide +kernel
theorem dX3_heapUp_8 : decode cX3_heapUp 8 = .ok (.getfield 9, 3) := by decide +kernel
theorem dX3_heapUp_11 : decode cX3_heapUp 11 = .ok (.iload_n 1, 1) := by decide +kernel
theorem dX3_heapUp_12 : decode cX3_heapUp 12 = .ok (.dup2, 1) := by decide +kernel
theorem dX3_heapUp_13 : decode cX3_heapUp 13 = .ok (.iaload, 1) := by decide +kernel
theorem dX3_heapUp_14 : decode cX3_heapUp 14 = .ok (.iload_n 2, 1) := by decide +kernel
theorem dX3_heapUp_15 : decode cX3_heapUp 15 = .ok (.iadd, 1) := by decide +kernel
theorem dX3_heapUp_16 : decode cX3_heapUp 16 = .ok (.iastore, 1) := by decide +kernel
theorem dX3_heapUp_17 : decode cX3_heapUp 17 = .ok (.aload_n 0, 1) := by decide +kernel
theorem dX3_heapUp_18 : decode cX3_heapUp 18 = .ok (.iconst 0, 1) := by decide +kernel
theorem dX3_heapUp_19 : decode cX3_heapUp 19 = .ok (.putfield 80, 3) := by decide +kernel
theorem dX3_heapUp_22 : decode cX3_heapUp 22 = .ok (.return_, 1) := by decide +kernel
theorem dX3_meetWaves_0 : decode cX3_meetWaves 0 = .ok (.iconst 0, 1) := by decide +kernel
theorem dX3_meetWaves_1 : decode cX3_meetWaves 1 = .ok (.istore_n 3, 1) := by decide +kernel
theorem dX3_meetWaves_2 : decode cX3_meetWaves 2 = .ok (.iload_n 3, 1) := by decide +kernel
theorem dX3_meetWaves_3 : decode cX3_meetWaves 3 = .ok (.aload_n 2, 1) := by decide +kernel
theorem dX3_meetWaves_4 : decode cX3_meetWaves 4 = .ok (.getfield 146, 3) := by decide +kernel
theorem dX3_meetWaves_7 : decode cX3_meetWaves 7 = .ok (.if_icmp .ge 49, 3) := by decide +kernel
theorem dX3_meetWaves_10 : decode cX3_meetWaves 10 = .ok (.iload_n 3, 1) := by decide +kernel
theorem dX3_meetWaves_11 : decode cX3_meetWaves 11 = .ok (.bipush 12, 2) := by decide +kernel
theorem dX3_meetWaves_13 : decode cX3_meetWaves 13 = .ok (.if_icmp .ge 43, 3) := by decide +kernel
theorem dX3_meetWaves_16 : decode cX3_meetWaves 16 = .ok (.aload_n 2, 1) := by decide +kernel
theorem dX3_meetWaves_17 : decode cX3_meetWaves 17 = .ok (.getfield 151, 3) := by decide +kernel
theorem dX3_meetWaves_20 : decode cX3_meetWaves 20 = .ok (.iload_n 3, 1) := by decide +kernel
theorem dX3_meetWaves_21 : decode cX3_meetWaves 21 = .ok (.iaload, 1) := by decide +kernel
theorem dX3_meetWaves_22 : decode cX3_meetWaves 22 = .ok (.aload_n 0, 1) := by decide +kernel
theorem dX3_meetWaves_23 : decode cX3_meetWaves 23 = .ok (.getfield 62, 3) := by decide +kernel
theorem dX3_meetWaves_26 : decode cX3_meetWaves 26 = .ok (.if_icmp .ne 24, 3) := by decide +kernel
theorem dX3_meetWaves_29 : decode cX3_meetWaves 29 = .ok (.aload_n 0, 1) := by decide +kernel
theorem dX3_meetWaves_30 : decode cX3_meetWaves 30 = .ok (.aload_n 1, 1) := by decide +kernel
theorem dX3_meetWaves_31 : decode cX3_meetWaves 31 = .ok (.aload_n 2, 1) := by decide +kernel
theorem dX3_meetWaves_32 : decode cX3_meetWaves 32 = .ok (.getfield 154, 3) := by decide +kernel
theorem dX3_meetWaves_35 : decode cX3_meetWaves 35 = .ok (.iload_n 3, 1) := by decide +kernel
theorem dX3_meetWaves_36 : decode cX3_meetWaves 36 = .ok (.iaload, 1) := by decide +kernel
theorem dX3_meetWaves_37 : decode cX3_meetWaves 37 = .ok (.aload_n 2, 1) := by decide +kernel
theorem dX3_meetWaves_38 : decode cX3_meetWaves 38 = .ok (.getfield 157, 3) := by decide +kernel
theorem dX3_meetWaves_41 : decode cX3_meetWaves 41 = .ok (.iload_n 3, 1) := by decide +kernel
theorem dX3_meetWaves_42 : decode cX3_meetWaves 42 = .ok (.iaload, 1) := by decide +kernel
theorem dX3_meetWaves_43 : decode cX3_meetWaves 43 = .ok (.aload_n 2, 1) := by decide +kernel
theorem dX3_meetWaves_44 : decode cX3_meetWaves 44 = .ok (.invokevirtual 160, 3) := by decide +kernel
theorem dX3_meetWaves_47 : decode cX3_meetWaves 47 = .ok (.invokevirtual 164, 3) := by decide +kernel
theorem dX3_meetWaves_50 : decode cX3_meetWaves 50 = .ok (.iinc 3 1, 3) := by decide +kernel
theorem dX3_meetWaves_53 : decode cX3_meetWaves 53 = .ok (.goto (-51), 3) := by decide +kernel
theorem dX3_meetWaves_56 : decode cX3_meetWaves 56 = .ok (.aload_n 2, 1) := by decide +kernel
theorem dX3_meetWaves_57 : decode cX3_meetWaves 57 = .ok (.aload_n 0, 1) := by decide +kernel
theorem dX3_meetWaves_58 : decode cX3_meetWaves 58 = .ok (.getfield 62, 3) := by decide +kernel
theorem dX3_meetWaves_61 : decode cX3_meetWaves 61 = .ok (.invokevirtual 168, 3) := by decide +kernel
theorem dX3_meetWaves_64 : decode cX3_meetWaves 64 = .ok (.ifCond .eq 67, 3) := by decide +kernel
theorem dX3_meetWaves_67 : decode cX3_meetWaves 67 = .ok (.aload_n 0, 1) := by decide +kernel
theorem dX3_meetWaves_68 : decode cX3_meetWaves 68 = .ok (.bipush 100, 2) := by decide +kernel
theorem dX3_meetWaves_70 : decode cX3_meetWaves 70 = .ok (.invokevirtual 171, 3) := by decide +kernel
theorem dX3_meetWaves_73 : decode cX3_meetWaves 73 = .ok (.aload_n 2, 1) := by decide +kernel
theorem dX3_meetWaves_74 : decode cX3_meetWaves 74 = .ok (.getfield 174, 3) := by decide +kernel
theorem dX3_meetWaves_77 : decode cX3_meetWaves 77 = .ok (.iconst 3, 1) := by decide +kernel
theorem dX3_meetWaves_78 : decode cX3_meetWaves 78 = .ok (.iaload, 1) := by decide +kernel
theorem dX3_meetWaves_79 : decode cX3_meetWaves 79 = .ok (.if_icmp .ge 52, 3) := by decide +kernel
theorem dX3_meetWaves_82 : decode cX3_meetWaves 82 = .ok (.aload_n 0, 1) := by decide +kernel
theorem dX3_meetWaves_83 : decode cX3_meetWaves 83 = .ok (.aload_n 2, 1) := by decide +kernel
theorem dX3_meetWaves_84 : decode cX3_meetWaves 84 = .ok (.getfield 174, 3) := by decide +kernel
theorem dX3_meetWaves_87 : decode cX3_meetWaves 87 = .ok (.iconst 4, 1) := by decide +kernel
theorem dX3_meetWaves_88 : decode cX3_meetWaves 88 = .ok (.iaload, 1) := by decide +kernel
theorem dX3_meetWaves_89 : decode cX3_meetWaves 89 = .ok (.aload_n 2, 1) := by decide +kernel
theorem dX3_meetWaves_90 : decode cX3_meetWaves 90 = .ok (.getfield 174, 3) := by decide +kernel
theorem dX3_meetWaves_93 : decode cX3_meetWaves 93 = .ok (.iconst 5, 1) := by decide +kernel
theorem dX3_meetWaves_94 : decode cX3_meetWaves 94 = .ok (.iaload, 1) := by decide +kernel
theorem dX3_meetWaves_95 : decode cX3_meetWaves 95 = .ok (.invokevirtual 175, 3) := by decide +kernel
theorem dX3_meetWaves_98 : decode cX3_meetWaves 98 = .ok (.istore_n 3, 1) := by decide +kernel
theorem dX3_meetWaves_99 : decode cX3_meetWaves 99 = .ok (.aload_n 0, 1) := by decide +kernel
theorem dX3_meetWaves_100 : decode cX3_meetWaves 100 = .ok (.aload_n 2, 1) := by decide +kernel
theorem dX3_meetWaves_101 : decode cX3_meetWaves 101 = .ok (.getfield 174, 3) := by decide +kernel
theorem dX3_meetWaves_104 : decode cX3_meetWaves 104 = .ok (.bipush 6, 2) := by decide +kernel
theorem dX3_meetWaves_106 : decode cX3_meetWaves 106 = .ok (.iaload, 1) := by decide +kernel
theorem dX3_meetWaves_107 : decode cX3_meetWaves 107 = .ok (.aload_n 2, 1) := by decide +kernel
theorem dX3_meetWaves_108 : decode cX3_meetWaves 108 = .ok (.getfield 174, 3) := by decide +kernel
theorem dX3_meetWaves_111 : decode cX3_meetWaves 111 = .ok (.bipush 7, 2) := by decide +kernel
theorem dX3_meetWaves_113 : decode cX3_meetWaves 113 = .ok (.iaload, 1) := by decide +kernel
theorem dX3_meetWaves_114 : decode cX3_meetWaves 114 = .ok (.invokevirtual 175, 3) := by decide +kernel
theorem dX3_meetWaves_117 : decode cX3_meetWaves 117 = .ok (.istore 4, 2) := by decide +kernel
theorem dX3_meetWaves_119 : decode cX3_meetWaves 119 = .ok (.aload_n 0, 1) := by decide +kernel
theorem dX3_meetWaves_120 : decode cX3_meetWaves 120 = .ok (.aload_n 1, 1) := by decide +kernel
theorem dX3_meetWaves_121 : decode cX3_meetWaves 121 = .ok (.iload_n 3, 1) := by decide +kernel
theorem dX3_meetWaves_122 : decode cX3_meetWaves 122 = .ok (.iload 4, 2) := by decide +kernel
theorem dX3_meetWaves_124 : decode cX3_meetWaves 124 = .ok (.aload_n 2, 1) := by decide +kernel
theorem dX3_meetWaves_125 : decode cX3_meetWaves 125 = .ok (.invokevirtual 160, 3) := by decide +kernel
theorem dX3_meetWaves_128 : decode cX3_meetWaves 128 = .ok (.invokevirtual 164, 3) := by decide +kernel
theorem dX3_meetWaves_131 : decode cX3_meetWaves 131 = .ok (.return_, 1) := by decide +kernel
theorem dX3_draw_0 : decode cX3_draw 0 = .ok (.aload_n 0, 1) := by decide +kernel
theorem dX3_draw_1 : decode cX3_draw 1 = .ok (.ldc 178, 2) := by decide +kernel
theorem dX3_draw_3 : decode cX3_draw 3 = .ok (.aload_n 0, 1) := by decide +kernel
theorem dX3_draw_4 : decode cX3_draw 4 = .ok (.getfield 37, 3) := by decide +kernel
theorem dX3_draw_7 : decode cX3_draw 7 = .ok (.imul, 1) := by decide +kernel
theorem dX3_draw_8 : decode cX3_draw 8 = .ok (.sipush 12345, 3) := by decide +kernel
theorem dX3_draw_11 : decode cX3_draw 11 = .ok (.iadd, 1) := by decide +kernel
theorem dX3_draw_12 : decode cX3_draw 12 = .ok (.ldc 179, 2) := by decide +kernel
theorem dX3_draw_14 : decode cX3_draw 14 = .ok (.iand, 1) := by decide +kernel
theorem dX3_draw_15 : decode cX3_draw 15 = .ok (.putfield 37, 3) := by decide +kernel
theorem dX3_draw_18 : decode cX3_draw 18 = .ok (.iload_n 1, 1) := by decide +kernel
theorem dX3_draw_19 : decode cX3_draw 19 = .ok (.ifCond .le 15, 3) := by decide +kernel
theorem dX3_draw_22 : decode cX3_draw 22 = .ok (.aload_n 0, 1) := by decide +kernel
theorem dX3_draw_23 : decode cX3_draw 23 = .ok (.getfield 37, 3) := by decide +kernel
theorem dX3_draw_26 : decode cX3_draw 26 = .ok (.bipush 16, 2) := by decide +kernel
theorem dX3_draw_28 : decode cX3_draw 28 = .ok (.ishr, 1) := by decide +kernel
theorem dX3_draw_29 : decode cX3_draw 29 = .ok (.iload_n 1, 1) := by decide +kernel
theorem dX3_draw_30 : decode cX3_draw 30 = .ok (.irem, 1) := by decide +kernel
theorem dX3_draw_31 : decode cX3_draw 31 = .ok (.goto 4, 3) := by decide +kernel
theorem dX3_draw_34 : decode cX3_draw 34 = .ok (.iconst 0, 1) := by decide +kernel
theorem dX3_draw_35 : decode cX3_draw 35 = .ok (.ireturn, 1) := by decide +kernel
theorem dX3_drawFrom_0 : decode cX3_drawFrom 0 = .ok (.iload_n 1, 1) := by decide +kernel
theorem dX3_drawFrom_1 : decode cX3_drawFrom 1 = .ok (.aload_n 0, 1) := by decide +kernel
theorem dX3_drawFrom_2 : decode cX3_drawFrom 2 = .ok (.iload_n 2, 1) := by decide +kernel
theorem dX3_drawFrom_3 : decode cX3_drawFrom 3 = .ok (.iload_n 1, 1) := by decide +kernel
theorem dX3_drawFrom_4 : decode cX3_drawFrom 4 = .ok (.isub, 1) := by decide +kernel
theorem dX3_drawFrom_5 : decode cX3_drawFrom 5 = .ok (.iconst 1, 1) := by decide +kernel
theorem dX3_drawFrom_6 : decode cX3_drawFrom 6 = .ok (.iadd, 1) := by decide +kernel
theorem dX3_drawFrom_7 : decode cX3_drawFrom 7 = .ok (.invokevirtual 171, 3) := by decide +kernel
theorem dX3_drawFrom_10 : decode cX3_drawFrom 10 = .ok (.iadd, 1) := by decide +kernel
theorem dX3_drawFrom_11 : decode cX3_drawFrom 11 = .ok (.ireturn, 1) := by decide +kernel
theorem dX3_runUp_0 : decode cX3_runUp 0 = .ok (.aload_n 0, 1) := by decide +kernel
theorem dX3_runUp_1 : decode cX3_runUp 1 = .ok (.dup, 1) := by decide +kernel
theorem dX3_runUp_2 : decode cX3_runUp 2 = .ok (.getfield 77, 3) := by decide +kernel
theorem dX3_runUp_5 : decode cX3_runUp 5 = .ok (.iconst 1, 1) := by decide +kernel
theorem dX3_runUp_6 : decode cX3_runUp 6 = .ok (.iadd, 1) := by decide +kernel
theorem dX3_runUp_7 : decode cX3_runUp 7 = .ok (.putfield 77, 3) := by decide +kernel
theorem dX3_runUp_10 : decode cX3_runUp 10 = .ok (.iconst 0, 1) := by decide +kernel
theorem dX3_runUp_11 : decode cX3_runUp 11 = .ok (.istore 5, 2) := by decide +kernel
theorem dX3_runUp_13 : decode cX3_runUp 13 = .ok (.iload 5, 2) := by decide +kernel
theorem dX3_runUp_15 : decode cX3_runUp 15 = .ok (.aload_n 1, 1) := by decide +kernel
theorem dX3_runUp_16 : decode cX3_runUp 16 = .ok (.invokevirtual 180, 3) := by decide +kernel
theorem dX3_runUp_19 : decode cX3_runUp 19 = .ok (.if_icmp .ge 20, 3) := by decide +kernel
theorem dX3_runUp_22 : decode cX3_runUp 22 = .ok (.aload_n 0, 1) := by decide +kernel
theorem dX3_runUp_23 : decode cX3_runUp 23 = .ok (.aload_n 1, 1) := by decide +kernel
theorem dX3_runUp_24 : decode cX3_runUp 24 = .ok (.iload 5, 2) := by decide +kernel
theorem dX3_runUp_26 : decode cX3_runUp 26 = .ok (.iload_n 2, 1) := by decide +kernel
theorem dX3_runUp_27 : decode cX3_runUp 27 = .ok (.iload_n 3, 1) := by decide +kernel
theorem dX3_runUp_28 : decode cX3_runUp 28 = .ok (.iload 4, 2) := by decide +kernel
theorem dX3_runUp_30 : decode cX3_runUp 30 = .ok (.invokevirtual 183, 3) := by decide +kernel
theorem dX3_runUp_33 : decode cX3_runUp 33 = .ok (.iinc 5 1, 3) := by decide +kernel
theorem dX3_runUp_36 : decode cX3_runUp 36 = .ok (.goto (-23), 3) := by decide +kernel
theorem dX3_runUp_39 : decode cX3_runUp 39 = .ok (.return_, 1) := by decide +kernel
theorem dX3_runUpColumn_0 : decode cX3_runUpColumn 0 = .ok (.aload_n 1, 1) := by decide +kernel
theorem dX3_runUpColumn_1 : decode cX3_runUpColumn 1 = .ok (.invokevirtual 180, 3) := by decide +kernel
theorem dX3_runUpColumn_4 : decode cX3_runUpColumn 4 = .ok (.istore 6, 2) := by decide +kernel
theorem dX3_runUpColumn_6 : decode cX3_runUpColumn 6 = .ok (.aload_n 1, 1) := by decide +kernel
theorem dX3_runUpColumn_7 : decode cX3_runUpColumn 7 = .ok (.invokevirtual 187, 3) := by decide +kernel
theorem dX3_runUpColumn_10 : decode cX3_runUpColumn 10 = .ok (.istore 7, 2) := by decide +kernel
theorem dX3_runUpColumn_12 : decode cX3_runUpColumn 12 = .ok (.iload_n 2, 1) := by decide +kernel
theorem dX3_runUpColumn_13 : decode cX3_runUpColumn 13 = .ok (.istore 8, 2) := by decide +kernel
theorem dX3_runUpColumn_15 : decode cX3_runUpColumn 15 = .ok (.iconst 0, 1) := by decide +kernel
theorem dX3_runUpColumn_16 : decode cX3_runUpColumn 16 = .ok (.istore 9, 2) := by decide +kernel
theorem dX3_runUpColumn_18 : decode cX3_runUpColumn 18 = .ok (.iload 9, 2) := by decide +kernel
theorem dX3_runUpColumn_20 : decode cX3_runUpColumn 20 = .ok (.iload_n 3, 1) := by decide +kernel
theorem dX3_runUpColumn_21 : decode cX3_runUpColumn 21 = .ok (.if_icmp .ge 90, 3) := by decide +kernel
theorem dX3_runUpColumn_24 : decode cX3_runUpColumn 24 = .ok (.iload 8, 2) := by decide +kernel
theorem dX3_runUpColumn_26 : decode cX3_runUpColumn 26 = .ok (.iload 7, 2) := by decide +kernel
theorem dX3_runUpColumn_28 : decode cX3_runUpColumn 28 = .ok (.if_icmp .ge 83, 3) := by decide +kernel
theorem dX3_runUpColumn_31 : decode cX3_runUpColumn 31 = .ok (.aload_n 0, 1) := by decide +kernel
theorem dX3_runUpColumn_32 : decode cX3_runUpColumn 32 = .ok (.getfield 21, 3) := by decide +kernel
theorem dX3_runUpColumn_35 : decode cX3_runUpColumn 35 = .ok (.iload 8, 2) := by decide +kernel
theorem dX3_runUpColumn_37 : decode cX3_runUpColumn 37 = .ok (.iaload, 1) := by decide +kernel
theorem dX3_runUpColumn_38 : decode cX3_runUpColumn 38 = .ok (.ifCond .eq 23, 3) := by decide +kernel
theorem dX3_runUpColumn_41 : decode cX3_runUpColumn 41 = .ok (.iload 8, 2) := by decide +kernel
theorem dX3_runUpColumn_43 : decode cX3_runUpColumn 43 = .ok (.iload 6, 2) := by decide +kernel
theorem dX3_runUpColumn_45 : decode cX3_runUpColumn 45 = .ok (.iadd, 1) := by decide +kernel
theorem dX3_runUpColumn_46 : decode cX3_runUpColumn 46 = .ok (.iload 7, 2) := by decide +kernel
theorem dX3_runUpColumn_48 : decode cX3_runUpColumn 48 = .ok (.if_icmp .ge 12, 3) := by decide +kernel
theorem dX3_runUpColumn_51 : decode cX3_runUpColumn 51 = .ok (.aload_n 0, 1) := by decide +kernel
theorem dX3_runUpColumn_52 : decode cX3_runUpColumn 52 = .ok (.iload 8, 2) := by decide +kernel
theorem dX3_runUpColumn_54 : decode cX3_runUpColumn 54 = .ok (.iload 6, 2) := by decide +kernel
theorem dX3_runUpColumn_56 : decode cX3_runUpColumn 56 = .ok (.iadd, 1) := by decide +kernel
theorem dX3_runUpColumn_57 : decode cX3_runUpColumn 57 = .ok (.invokevirtual 189, 3) := by decide +kernel
theorem dX3_runUpColumn_60 : decode cX3_runUpColumn 60 = .ok (.return_, 1) := by decide +kernel
theorem dX3_runUpColumn_61 : decode cX3_runUpColumn 61 = .ok (.aload_n 0, 1) := by decide +kernel
theorem dX3_runUpColumn_62 : decode cX3_runUpColumn 62 = .ok (.iload 8, 2) := by decide +kernel
theorem dX3_runUpColumn_64 : decode cX3_runUpColumn 64 = .ok (.invokevirtual 189, 3) := by decide +kernel
theorem dX3_runUpColumn_67 : decode cX3_runUpColumn 67 = .ok (.aload_n 0, 1) := by decide +kernel
theorem dX3_runUpColumn_68 : decode cX3_runUpColumn 68 = .ok (.getfield 9, 3) := by decide +kernel
theorem dX3_runUpColumn_71 : decode cX3_runUpColumn 71 = .ok (.iload 8, 2) := by decide +kernel
theorem dX3_runUpColumn_73 : decode cX3_runUpColumn 73 = .ok (.iaload, 1) := by decide +kernel
theorem dX3_runUpColumn_74 : decode cX3_runUpColumn 74 = .ok (.iload 4, 2) := by decide +kernel
theorem dX3_runUpColumn_76 : decode cX3_runUpColumn 76 = .ok (.if_icmp .le 22, 3) := by decide +kernel
theorem dX3_runUpColumn_79 : decode cX3_runUpColumn 79 = .ok (.aload_n 0, 1) := by decide +kernel
theorem dX3_runUpColumn_80 : decode cX3_runUpColumn 80 = .ok (.iload 8, 2) := by decide +kernel
theorem dX3_runUpColumn_82 : decode cX3_runUpColumn 82 = .ok (.iload 5, 2) := by decide +kernel
theorem dX3_runUpColumn_84 : decode cX3_runUpColumn 84 = .ok (.aload_n 0, 1) := by decide +kernel
theorem dX3_runUpColumn_85 : decode cX3_runUpColumn 85 = .ok (.getfield 9, 3) := by decide +kernel
theorem dX3_runUpColumn_88 : decode cX3_runUpColumn 88 = .ok (.iload 8, 2) := by decide +kernel
theorem dX3_runUpColumn_90 : decode cX3_runUpColumn 90 = .ok (.iaload, 1) := by decide +kernel
theorem dX3_runUpColumn_91 : decode cX3_runUpColumn 91 = .ok (.invokestatic 137, 3) := by decide +kernel
theorem dX3_runUpColumn_94 : decode cX3_runUpColumn 94 = .ok (.invokevirtual 192, 3) := by decide +kernel
theorem dX3_runUpColumn_97 : decode cX3_runUpColumn 97 = .ok (.return_, 1) := by decide +kernel
theorem dX3_runUpColumn_98 : decode cX3_runUpColumn 98 = .ok (.iload 8, 2) := by decide +kernel
theorem dX3_runUpColumn_100 : decode cX3_runUpColumn 100 = .ok (.iload 6, 2) := by decide +kernel
theorem dX3_runUpColumn_102 : decode cX3_runUpColumn 102 = .ok (.iadd, 1) := by decide +kernel
theorem dX3_runUpColumn_103 : decode cX3_runUpColumn 103 = .ok (.istore 8, 2) := by decide +kernel
theorem dX3_runUpColumn_105 : decode cX3_runUpColumn 105 = .ok (.iinc 9 1, 3) := by decide +kernel
theorem dX3_runUpColumn_108 : decode cX3_runUpColumn 108 = .ok (.goto (-90), 3) := by decide +kernel
theorem dX3_runUpColumn_111 : decode cX3_runUpColumn 111 = .ok (.return_, 1) := by decide +kernel
theorem dX3_soak_0 : decode cX3_soak 0 = .ok (.aload_n 0, 1) := by decide +kernel
theorem dX3_soak_1 : decode cX3_soak 1 = .ok (.getfield 15, 3) := by decide +kernel
theorem dX3_soak_4 : decode cX3_soak 4 = .ok (.iload_n 1, 1) := by decide +kernel
theorem dX3_soak_5 : decode cX3_soak 5 = .ok (.iaload, 1) := by decide +kernel
theorem dX3_soak_6 : decode cX3_soak 6 = .ok (.bipush 16, 2) := by decide +kernel
theorem dX3_soak_8 : decode cX3_soak 8 = .ok (.if_icmp .eq 16, 3) := by decide +kernel
theorem dX3_soak_11 : decode cX3_soak 11 = .ok (.aload_n 0, 1) := by decide +kernel
theorem dX3_soak_12 : decode cX3_soak 12 = .ok (.getfield 15, 3) := by decide +kernel
theorem dX3_soak_15 : decode cX3_soak 15 = .ok (.iload_n 1, 1) := by decide +kernel
theorem dX3_soak_16 : decode cX3_soak 16 = .ok (.bipush 16, 2) := by decide +kernel
theorem dX3_soak_18 : decode cX3_soak 18 = .ok (.iastore, 1) := by decide +kernel
theorem dX3_soak_19 : decode cX3_soak 19 = .ok (.aload_n 0, 1) := by decide +kernel
theorem dX3_soak_20 : decode cX3_soak 20 = .ok (.iconst 0, 1) := by decide +kernel
theorem dX3_soak_21 : decode cX3_soak 21 = .ok (.putfield 80, 3) := by decide +kernel
theorem dX3_soak_24 : decode cX3_soak 24 = .ok (.return_, 1) := by decide +kernel
theorem dX3_carryOff_0 : decode cX3_carryOff 0 = .ok (.iload_n 2, 1) := by decide +kernel
theorem dX3_carryOff_1 : decode cX3_carryOff 1 = .ok (.ifCond .le 28, 3) := by decide +kernel
theorem dX3_carryOff_4 : decode cX3_carryOff 4 = .ok (.aload_n 0, 1) := by decide +kernel
theorem dX3_carryOff_5 : decode cX3_carryOff 5 = .ok (.getfield 9, 3) := by decide +kernel
theorem dX3_carryOff_8 : decode cX3_carryOff 8 = .ok (.iload_n 1, 1) := by decide +kernel
theorem dX3_carryOff_9 : decode cX3_carryOff 9 = .ok (.dup2, 1) := by decide +kernel
theorem dX3_carryOff_10 : decode cX3_carryOff 10 = .ok (.iaload, 1) := by decide +kernel
theorem dX3_carryOff_11 : decode cX3_carryOff 11 = .ok (.iload_n 2, 1) := by decide +kernel
theorem dX3_carryOff_12 : decode cX3_carryOff 12 = .ok (.isub, 1) := by decide +kernel
theorem dX3_carryOff_13 : decode cX3_carryOff 13 = .ok (.iastore, 1) := by decide +kernel
theorem dX3_carryOff_14 : decode cX3_carryOff 14 = .ok (.aload_n 0, 1) := by decide +kernel
theorem dX3_carryOff_15 : decode cX3_carryOff 15 = .ok (.dup, 1) := by decide +kernel
theorem dX3_carryOff_16 : decode cX3_carryOff 16 = .ok (.getfield 65, 3) := by decide +kernel
theorem dX3_carryOff_19 : decode cX3_carryOff 19 = .ok (.iload_n 2, 1) := by decide +kernel
theorem dX3_carryOff_20 : decode cX3_carryOff 20 = .ok (.iadd, 1) := by decide +kernel
theorem dX3_carryOff_21 : decode cX3_carryOff 21 = .ok (.putfield 65, 3) := by decide +kernel
theorem dX3_carryOff_24 : decode cX3_carryOff 24 = .ok (.aload_n 0, 1) := by decide +kernel
theorem dX3_carryOff_25 : decode cX3_carryOff 25 = .ok (.iconst 0, 1) := by decide +kernel
theorem dX3_carryOff_26 : decode cX3_carryOff 26 = .ok (.putfield 80, 3) := by decide +kernel
theorem dX3_carryOff_29 : decode cX3_carryOff 29 = .ok (.return_, 1) := by decide +kernel
theorem dX3_shine_0 : decode cX3_shine 0 = .ok (.aload_n 1, 1) := by decide +kernel
theorem dX3_shine_1 : decode cX3_shine 1 = .ok (.invokevirtual 187, 3) := by decide +kernel
theorem dX3_shine_4 : decode cX3_shine 4 = .ok (.istore_n 2, 1) := by decide +kernel
theorem dX3_shine_5 : decode cX3_shine 5 = .ok (.aload_n 1, 1) := by decide +kernel
theorem dX3_shine_6 : decode cX3_shine 6 = .ok (.invokevirtual 180, 3) := by decide +kernel
theorem dX3_shine_9 : decode cX3_shine 9 = .ok (.istore_n 3, 1) := by decide +kernel
theorem dX3_shine_10 : decode cX3_shine 10 = .ok (.iload_n 3, 1) := by decide +kernel
theorem dX3_shine_11 : decode cX3_shine 11 = .ok (.iload_n 2, 1) := by decide +kernel
theorem dX3_shine_12 : decode cX3_shine 12 = .ok (.if_icmp .ge 56, 3) := by decide +kernel
theorem dX3_shine_15 : decode cX3_shine 15 = .ok (.aload_n 0, 1) := by decide +kernel
theorem dX3_shine_16 : decode cX3_shine 16 = .ok (.getfield 15, 3) := by decide +kernel
theorem dX3_shine_19 : decode cX3_shine 19 = .ok (.iload_n 3, 1) := by decide +kernel
theorem dX3_shine_20 : decode cX3_shine 20 = .ok (.iaload, 1) := by decide +kernel
theorem dX3_shine_21 : decode cX3_shine 21 = .ok (.ifCond .le 41, 3) := by decide +kernel
theorem dX3_shine_24 : decode cX3_shine 24 = .ok (.aload_n 0, 1) := by decide +kernel
theorem dX3_shine_25 : decode cX3_shine 25 = .ok (.getfield 15, 3) := by decide +kernel
theorem dX3_shine_28 : decode cX3_shine 28 = .ok (.iload_n 3, 1) := by decide +kernel
theorem dX3_shine_29 : decode cX3_shine 29 = .ok (.iconst 0, 1) := by decide +kernel
theorem dX3_shine_30 : decode cX3_shine 30 = .ok (.aload_n 0, 1) := by decide +kernel
theorem dX3_shine_31 : decode cX3_shine 31 = .ok (.getfield 15, 3) := by decide +kernel
theorem dX3_shine_34 : decode cX3_shine 34 = .ok (.iload_n 3, 1) := by decide +kernel
theorem dX3_shine_35 : decode cX3_shine 35 = .ok (.iaload, 1) := by decide +kernel
theorem dX3_shine_36 : decode cX3_shine 36 = .ok (.aload_n 0, 1) := by decide +kernel
theorem dX3_shine_37 : decode cX3_shine 37 = .ok (.getfield 9, 3) := by decide +kernel
theorem dX3_shine_40 : decode cX3_shine 40 = .ok (.iload_n 3, 1) := by decide +kernel
theorem dX3_shine_41 : decode cX3_shine 41 = .ok (.iaload, 1) := by decide +kernel
theorem dX3_shine_42 : decode cX3_shine 42 = .ok (.bipush 10, 2) := by decide +kernel
theorem dX3_shine_44 : decode cX3_shine 44 = .ok (.if_icmp .lt 7, 3) := by decide +kernel
theorem dX3_shine_47 : decode cX3_shine 47 = .ok (.iconst 2, 1) := by decide +kernel
theorem dX3_shine_48 : decode cX3_shine 48 = .ok (.goto 4, 3) := by decide +kernel
theorem dX3_shine_51 : decode cX3_shine 51 = .ok (.iconst 1, 1) := by decide +kernel
theorem dX3_shine_52 : decode cX3_shine 52 = .ok (.isub, 1) := by decide +kernel
theorem dX3_shine_53 : decode cX3_shine 53 = .ok (.invokestatic 195, 3) := by decide +kernel
theorem dX3_shine_56 : decode cX3_shine 56 = .ok (.iastore, 1) := by decide +kernel
theorem dX3_shine_57 : decode cX3_shine 57 = .ok (.aload_n 0, 1) := by decide +kernel
theorem dX3_shine_58 : decode cX3_shine 58 = .ok (.iconst 0, 1) := by decide +kernel
theorem dX3_shine_59 : decode cX3_shine 59 = .ok (.putfield 80, 3) := by decide +kernel
theorem dX3_shine_62 : decode cX3_shine 62 = .ok (.iinc 3 1, 3) := by decide +kernel
theorem dX3_shine_65 : decode cX3_shine 65 = .ok (.goto (-55), 3) := by decide +kernel
theorem dX3_shine_68 : decode cX3_shine 68 = .ok (.return_, 1) := by decide +kernel
theorem dX3_slide_0 : decode cX3_slide 0 = .ok (.aload_n 1, 1) := by decide +kernel
theorem dX3_slide_1 : decode cX3_slide 1 = .ok (.invokevirtual 180, 3) := by decide +kernel
theorem dX3_slide_4 : decode cX3_slide 4 = .ok (.istore_n 2, 1) := by decide +kernel
theorem dX3_slide_5 : decode cX3_slide 5 = .ok (.aload_n 1, 1) := by decide +kernel
theorem dX3_slide_6 : decode cX3_slide 6 = .ok (.invokevirtual 198, 3) := by decide +kernel
theorem dX3_slide_9 : decode cX3_slide 9 = .ok (.istore_n 3, 1) := by decide +kernel
theorem dX3_slide_10 : decode cX3_slide 10 = .ok (.aload_n 0, 1) := by decide +kernel
theorem dX3_slide_11 : decode cX3_slide 11 = .ok (.iconst 0, 1) := by decide +kernel
theorem dX3_slide_12 : decode cX3_slide 12 = .ok (.putfield 71, 3) := by decide +kernel
theorem dX3_slide_15 : decode cX3_slide 15 = .ok (.aload_n 0, 1) := by decide +kernel
theorem dX3_slide_16 : decode cX3_slide 16 = .ok (.iconst 0, 1) := by decide +kernel
theorem dX3_slide_17 : decode cX3_slide 17 = .ok (.putfield 74, 3) := by decide +kernel
theorem dX3_slide_20 : decode cX3_slide 20 = .ok (.iconst 0, 1) := by decide +kernel
theorem dX3_slide_21 : decode cX3_slide 21 = .ok (.istore 4, 2) := by decide +kernel
theorem dX3_slide_23 : decode cX3_slide 23 = .ok (.iload 4, 2) := by decide +kernel
theorem dX3_slide_25 : decode cX3_slide 25 = .ok (.bipush 50, 2) := by decide +kernel
theorem dX3_slide_27 : decode cX3_slide 27 = .ok (.if_icmp .ge 134, 3) := by decide +kernel
theorem dX3_slide_30 : decode cX3_slide 30 = .ok (.aload_n 0, 1) := by decide +kernel
theorem dX3_slide_31 : decode cX3_slide 31 = .ok (.getfield 80, 3) := by decide +kernel
theorem dX3_slide_34 : decode cX3_slide 34 = .ok (.ifCond .ne 127, 3) := by decide +kernel
theorem dX3_slide_37 : decode cX3_slide 37 = .ok (.iconst 0, 1) := by decide +kernel
theorem dX3_slide_38 : decode cX3_slide 38 = .ok (.istore 5, 2) := by decide +kernel
theorem dX3_slide_40 : decode cX3_slide 40 = .ok (.iconst 0, 1) := by decide +kernel
theorem dX3_slide_41 : decode cX3_slide 41 = .ok (.istore 6, 2) := by decide +kernel
theorem dX3_slide_43 : decode cX3_slide 43 = .ok (.iconst 0, 1) := by decide +kernel
theorem dX3_slide_44 : decode cX3_slide 44 = .ok (.istore 7, 2) := by decide +kernel
theorem dX3_slide_46 : decode cX3_slide 46 = .ok (.iload 7, 2) := by decide +kernel
theorem dX3_slide_48 : decode cX3_slide 48 = .ok (.iload_n 3, 1) := by decide +kernel
theorem dX3_slide_49 : decode cX3_slide 49 = .ok (.if_icmp .ge 62, 3) := by decide +kernel
theorem dX3_slide_52 : decode cX3_slide 52 = .ok (.iconst 0, 1) := by decide +kernel
theorem dX3_slide_53 : decode cX3_slide 53 = .ok (.istore 8, 2) := by decide +kernel
theorem dX3_slide_55 : decode cX3_slide 55 = .ok (.iload 8, 2) := by decide +kernel
theorem dX3_slide_57 : decode cX3_slide 57 = .ok (.iload_n 2, 1) := by decide +kernel
theorem dX3_slide_58 : decode cX3_slide 58 = .ok (.if_icmp .ge 47, 3) := by decide +kernel
theorem dX3_slide_61 : decode cX3_slide 61 = .ok (.aload_n 0, 1) := by decide +kernel
theorem dX3_slide_62 : decode cX3_slide 62 = .ok (.getfield 9, 3) := by decide +kernel
theorem dX3_slide_65 : decode cX3_slide 65 = .ok (.iload 6, 2) := by decide +kernel
theorem dX3_slide_67 : decode cX3_slide 67 = .ok (.iaload, 1) := by decide +kernel
theorem dX3_slide_68 : decode cX3_slide 68 = .ok (.iconst 1, 1) := by decide +kernel
theorem dX3_slide_69 : decode cX3_slide 69 = .ok (.if_icmp .le 27, 3) := by decide +kernel
theorem dX3_slide_72 : decode cX3_slide 72 = .ok (.aload_n 0, 1) := by decide +kernel
theorem dX3_slide_73 : decode cX3_slide 73 = .ok (.getfield 21, 3) := by decide +kernel
theorem dX3_slide_76 : decode cX3_slide 76 = .ok (.iload 6, 2) := by decide +kernel
theorem dX3_slide_78 : decode cX3_slide 78 = .ok (.iaload, 1) := by decide +kernel
theorem dX3_slide_79 : decode cX3_slide 79 = .ok (.ifCond .ne 17, 3) := by decide +kernel
theorem dX3_slide_82 : decode cX3_slide 82 = .ok (.iload 5, 2) := by decide +kernel
theorem dX3_slide_84 : decode cX3_slide 84 = .ok (.aload_n 0, 1) := by decide +kernel
theorem dX3_slide_85 : decode cX3_slide 85 = .ok (.aload_n 1, 1) := by decide +kernel
theorem dX3_slide_86 : decode cX3_slide 86 = .ok (.iload 6, 2) := by decide +kernel
theorem dX3_slide_88 : decode cX3_slide 88 = .ok (.iload 8, 2) := by decide +kernel
theorem dX3_slide_90 : decode cX3_slide 90 = .ok (.invokevirtual 201, 3) := by decide +kernel
theorem dX3_slide_93 : decode cX3_slide 93 = .ok (.iadd, 1) := by decide +kernel
theorem dX3_slide_94 : decode cX3_slide 94 = .ok (.istore 5, 2) := by decide +kernel
theorem dX3_slide_96 : decode cX3_slide 96 = .ok (.iinc 6 1, 3) := by decide +kernel
theorem dX3_slide_99 : decode cX3_slide 99 = .ok (.iinc 8 1, 3) := by decide +kernel
theorem dX3_slide_102 : decode cX3_slide 102 = .ok (.goto (-47), 3) := by decide +kernel
theorem dX3_slide_105 : decode cX3_slide 105 = .ok (.iinc 7 1, 3) := by decide +kernel
theorem dX3_slide_108 : decode cX3_slide 108 = .ok (.goto (-62), 3) := by decide +kernel
theorem dX3_slide_111 : decode cX3_slide 111 = .ok (.aload_n 0, 1) := by decide +kernel
theorem dX3_slide_112 : decode cX3_slide 112 = .ok (.dup, 1) := by decide +kernel
theorem dX3_slide_113 : decode cX3_slide 113 = .ok (.getfield 71, 3) := by decide +kernel
theorem dX3_slide_116 : decode cX3_slide 116 = .ok (.iload 5, 2) := by decide +kernel
theorem dX3_slide_118 : decode cX3_slide 118 = .ok (.iadd, 1) := by decide +kernel
theorem dX3_slide_119 : decode cX3_slide 119 = .ok (.putfield 71, 3) := by decide +kernel
theorem dX3_slide_122 : decode cX3_slide 122 = .ok (.aload_n 0, 1) := by decide +kernel
theorem dX3_slide_123 : decode cX3_slide 123 = .ok (.dup, 1) := by decide +kernel
theorem dX3_slide_124 : decode cX3_slide 124 = .ok (.getfield 74, 3) := by decide +kernel
theorem dX3_slide_127 : decode cX3_slide 127 = .ok (.iload 5, 2) := by decide +kernel
theorem dX3_slide_129 : decode cX3_slide 129 = .ok (.ifCond .le 7, 3) := by decide +kernel
theorem dX3_slide_132 : decode cX3_slide 132 = .ok (.iconst 1, 1) := by decide +kernel
theorem dX3_slide_133 : decode cX3_slide 133 = .ok (.goto 4, 3) := by decide +kernel
theorem dX3_slide_136 : decode cX3_slide 136 = .ok (.iconst 0, 1) := by decide +kernel
theorem dX3_slide_137 : decode cX3_slide 137 = .ok (.iadd, 1) := by decide +kernel
theorem dX3_slide_138 : decode cX3_slide 138 = .ok (.putfield 74, 3) := by decide +kernel
theorem dX3_slide_141 : decode cX3_slide 141 = .ok (.aload_n 0, 1) := by decide +kernel
theorem dX3_slide_142 : decode cX3_slide 142 = .ok (.iload 5, 2) := by decide +kernel
theorem dX3_slide_144 : decode cX3_slide 144 = .ok (.ifCond .ne 7, 3) := by decide +kernel
theorem dX3_slide_147 : decode cX3_slide 147 = .ok (.iconst 1, 1) := by decide +kernel
theorem dX3_slide_148 : decode cX3_slide 148 = .ok (.goto 4, 3) := by decide +kernel
theorem dX3_slide_151 : decode cX3_slide 151 = .ok (.iconst 0, 1) := by decide +kernel
theorem dX3_slide_152 : decode cX3_slide 152 = .ok (.putfield 80, 3) := by decide +kernel
theorem dX3_slide_155 : decode cX3_slide 155 = .ok (.iinc 4 1, 3) := by decide +kernel
theorem dX3_slide_158 : decode cX3_slide 158 = .ok (.goto (-135), 3) := by decide +kernel
theorem dX3_slide_161 : decode cX3_slide 161 = .ok (.aload_n 0, 1) := by decide +kernel
theorem dX3_slide_162 : decode cX3_slide 162 = .ok (.dup, 1) := by decide +kernel
theorem dX3_slide_163 : decode cX3_slide 163 = .ok (.getfield 68, 3) := by decide +kernel
theorem dX3_slide_166 : decode cX3_slide 166 = .ok (.aload_n 0, 1) := by decide +kernel
theorem dX3_slide_167 : decode cX3_slide 167 = .ok (.getfield 71, 3) := by decide +kernel
theorem dX3_slide_170 : decode cX3_slide 170 = .ok (.iadd, 1) := by decide +kernel
theorem dX3_slide_171 : decode cX3_slide 171 = .ok (.putfield 68, 3) := by decide +kernel
theorem dX3_slide_174 : decode cX3_slide 174 = .ok (.return_, 1) := by decide +kernel
theorem dX3_slideFrom_0 : decode cX3_slideFrom 0 = .ok (.aload_n 0, 1) := by decide +kernel
theorem dX3_slideFrom_1 : decode cX3_slideFrom 1 = .ok (.aload_n 1, 1) := by decide +kernel
theorem dX3_slideFrom_2 : decode cX3_slideFrom 2 = .ok (.iload_n 2, 1) := by decide +kernel
theorem dX3_slideFrom_3 : decode cX3_slideFrom 3 = .ok (.iload_n 3, 1) := by decide +kernel
theorem dX3_slideFrom_4 : decode cX3_slideFrom 4 = .ok (.invokevirtual 205, 3) := by decide +kernel
theorem dX3_slideFrom_7 : decode cX3_slideFrom 7 = .ok (.istore 4, 2) := by decide +kernel
theorem dX3_slideFrom_9 : decode cX3_slideFrom 9 = .ok (.iload 4, 2) := by decide +kernel
theorem dX3_slideFrom_11 : decode cX3_slideFrom 11 = .ok (.iconst (-1), 1) := by decide +kernel
theorem dX3_slideFrom_12 : decode cX3_slideFrom 12 = .ok (.if_icmp .eq 36, 3) := by decide +kernel
theorem dX3_slideFrom_15 : decode cX3_slideFrom 15 = .ok (.aload_n 0, 1) := by decide +kernel
theorem dX3_slideFrom_16 : decode cX3_slideFrom 16 = .ok (.getfield 9, 3) := by decide +kernel
theorem dX3_slideFrom_19 : decode cX3_slideFrom 19 = .ok (.iload_n 2, 1) := by decide +kernel
theorem dX3_slideFrom_20 : decode cX3_slideFrom 20 = .ok (.iaload, 1) := by decide +kernel
theorem dX3_slideFrom_21 : decode cX3_slideFrom 21 = .ok (.aload_n 0, 1) := by decide +kernel
theorem dX3_slideFrom_22 : decode cX3_slideFrom 22 = .ok (.getfield 9, 3) := by decide +kernel
theorem dX3_slideFrom_25 : decode cX3_slideFrom 25 = .ok (.iload 4, 2) := by decide +kernel
theorem dX3_slideFrom_27 : decode cX3_slideFrom 27 = .ok (.iaload, 1) := by decide +kernel
theorem dX3_slideFrom_28 : decode cX3_slideFrom 28 = .ok (.isub, 1) := by decide +kernel
theorem dX3_slideFrom_29 : decode cX3_slideFrom 29 = .ok (.aload_n 1, 1) := by decide +kernel
theorem dX3_slideFrom_30 : decode cX3_slideFrom 30 = .ok (.aload_n 0, 1) := by decide +kernel
theorem dX3_slideFrom_31 : decode cX3_slideFrom 31 = .ok (.getfield 15, 3) := by decide +kernel
theorem dX3_slideFrom_34 : decode cX3_slideFrom 34 = .ok (.iload_n 2, 1) := by decide +kernel
theorem dX3_slideFrom_35 : decode cX3_slideFrom 35 = .ok (.iaload, 1) := by decide +kernel
theorem dX3_slideFrom_36 : decode cX3_slideFrom 36 = .ok (.aload_n 0, 1) := by decide +kernel
theorem dX3_slideFrom_37 : decode cX3_slideFrom 37 = .ok (.getfield 18, 3) := by decide +kernel
theorem dX3_slideFrom_40 : decode cX3_slideFrom 40 = .ok (.iload_n 2, 1) := by decide +kernel
theorem dX3_slideFrom_41 : decode cX3_slideFrom 41 = .ok (.iaload, 1) := by decide +kernel
theorem dX3_slideFrom_42 : decode cX3_slideFrom 42 = .ok (.invokevirtual 208, 3) := by decide +kernel
theorem dX3_slideFrom_45 : decode cX3_slideFrom 45 = .ok (.if_icmp .gt 5, 3) := by decide +kernel
theorem dX3_slideFrom_48 : decode cX3_slideFrom 48 = .ok (.iconst 0, 1) := by decide +kernel
theorem dX3_slideFrom_49 : decode cX3_slideFrom 49 = .ok (.ireturn, 1) := by decide +kernel
theorem dX3_slideFrom_50 : decode cX3_slideFrom 50 = .ok (.aload_n 0, 1) := by decide +kernel
theorem dX3_slideFrom_51 : decode cX3_slideFrom 51 = .ok (.iload_n 2, 1) := by decide +kernel
theorem dX3_slideFrom_52 : decode cX3_slideFrom 52 = .ok (.iload 4, 2) := by decide +kernel
theorem dX3_slideFrom_54 : decode cX3_slideFrom 54 = .ok (.invokevirtual 143, 3) := by decide +kernel
theorem dX3_slideFrom_57 : decode cX3_slideFrom 57 = .ok (.iconst 1, 1) := by decide +kernel
theorem dX3_slideFrom_58 : decode cX3_slideFrom 58 = .ok (.ireturn, 1) := by decide +kernel
theorem dX3_lowestBeside_0 : decode cX3_lowestBeside 0 = .ok (.aload_n 1, 1) := by decide +kernel
theorem dX3_lowestBeside_1 : decode cX3_lowestBeside 1 = .ok (.invokevirtual 180, 3) := by decide +kernel
theorem dX3_lowestBeside_4 : decode cX3_lowestBeside 4 = .ok (.istore 4, 2) := by decide +kernel
theorem dX3_lowestBeside_6 : decode cX3_lowestBeside 6 = .ok (.iconst (-1), 1) := by decide +kernel
theorem dX3_lowestBeside_7 : decode cX3_lowestBeside 7 = .ok (.istore 5, 2) := by decide +kernel
theorem dX3_lowestBeside_9 : decode cX3_lowestBeside 9 = .ok (.iload_n 2, 1) := by decide +kernel
theorem dX3_lowestBeside_10 : decode cX3_lowestBeside 10 = .ok (.iload 4, 2) := by decide +kernel
theorem dX3_lowestBeside_12 : decode cX3_lowestBeside 12 = .ok (.if_icmp .lt 15, 3) := by decide +kernel
theorem dX3_lowestBeside_15 : decode cX3_lowestBeside 15 = .ok (.aload_n 0, 1) := by decide +kernel
theorem dX3_lowestBeside_16 : decode cX3_lowestBeside 16 = .ok (.iload 5, 2) := by decide +kernel
theorem dX3_lowestBeside_18 : decode cX3_lowestBeside 18 = .ok (.iload_n 2, 1) := by decide +kernel
theorem dX3_lowestBeside_19 : decode cX3_lowestBeside 19 = .ok (.iload 4, 2) := by decide +kernel
theorem dX3_lowestBeside_21 : decode cX3_lowestBeside 21 = .ok (.isub, 1) := by decide +kernel
theorem dX3_lowestBeside_22 : decode cX3_lowestBeside 22 = .ok (.invokevirtual 211, 3) := by decide +kernel
theorem dX3_lowestBeside_25 : decode cX3_lowestBeside 25 = .ok (.istore 5, 2) := by decide +kernel
theorem dX3_lowestBeside_27 : decode cX3_lowestBeside 27 = .ok (.iload_n 3, 1) := by decide +kernel
theorem dX3_lowestBeside_28 : decode cX3_lowestBeside 28 = .ok (.ifCond .le 14, 3) := by decide +kernel
theorem dX3_lowestBeside_31 : decode cX3_lowestBeside 31 = .ok (.aload_n 0, 1) := by decide +kernel
theorem dX3_lowestBeside_32 : decode cX3_lowestBeside 32 = .ok (.iload 5, 2) := by decide +kernel
theorem dX3_lowestBeside_34 : decode cX3_lowestBeside 34 = .ok (.iload_n 2, 1) := by decide +kernel
theorem dX3_lowestBeside_35 : decode cX3_lowestBeside 35 = .ok (.iconst 1, 1) := by decide +kernel
theorem dX3_lowestBeside_36 : decode cX3_lowestBeside 36 = .ok (.isub, 1) := by decide +kernel
theorem dX3_lowestBeside_37 : decode cX3_lowestBeside 37 = .ok (.invokevirtual 211, 3) := by decide +kernel
theorem dX3_lowestBeside_40 : decode cX3_lowestBeside 40 = .ok (.istore 5, 2) := by decide +kernel
theorem dX3_lowestBeside_42 : decode cX3_lowestBeside 42 = .ok (.iload_n 3, 1) := by decide +kernel
theorem dX3_lowestBeside_43 : decode cX3_lowestBeside 43 = .ok (.iconst 1, 1) := by decide +kernel
theorem dX3_lowestBeside_44 : decode cX3_lowestBeside 44 = .ok (.iadd, 1) := by decide +kernel
theorem dX3_lowestBeside_45 : decode cX3_lowestBeside 45 = .ok (.iload 4, 2) := by decide +kernel
theorem dX3_lowestBeside_47 : decode cX3_lowestBeside 47 = .ok (.if_icmp .ge 14, 3) := by decide +kernel
theorem dX3_lowestBeside_50 : decode cX3_lowestBeside 50 = .ok (.aload_n 0, 1) := by decide +kernel
theorem dX3_lowestBeside_51 : decode cX3_lowestBeside 51 = .ok (.iload 5, 2) := by decide +kernel
theorem dX3_lowestBeside_53 : decode cX3_lowestBeside 53 = .ok (.iload_n 2, 1) := by decide +kernel
theorem dX3_lowestBeside_54 : decode cX3_lowestBeside 54 = .ok (.iconst 1, 1) := by decide +kernel
theorem dX3_lowestBeside_55 : decode cX3_lowestBeside 55 = .ok (.iadd, 1) := by decide +kernel
theorem dX3_lowestBeside_56 : decode cX3_lowestBeside 56 = .ok (.invokevirtual 211, 3) := by decide +kernel
theorem dX3_lowestBeside_59 : decode cX3_lowestBeside 59 = .ok (.istore 5, 2) := by decide +kernel
theorem dX3_lowestBeside_61 : decode cX3_lowestBeside 61 = .ok (.iload_n 2, 1) := by decide +kernel
theorem dX3_lowestBeside_62 : decode cX3_lowestBeside 62 = .ok (.iload 4, 2) := by decide +kernel
theorem dX3_lowestBeside_64 : decode cX3_lowestBeside 64 = .ok (.iadd, 1) := by decide +kernel
theorem dX3_lowestBeside_65 : decode cX3_lowestBeside 65 = .ok (.aload_n 1, 1) := by decide +kernel
theorem dX3_lowestBeside_66 : decode cX3_lowestBeside 66 = .ok (.invokevirtual 187, 3) := by decide +kernel
theorem dX3_lowestBeside_69 : decode cX3_lowestBeside 69 = .ok (.if_icmp .ge 15, 3) := by decide +kernel
theorem dX3_lowestBeside_72 : decode cX3_lowestBeside 72 = .ok (.aload_n 0, 1) := by decide +kernel
theorem dX3_lowestBeside_73 : decode cX3_lowestBeside 73 = .ok (.iload 5, 2) := by decide +kernel
theorem dX3_lowestBeside_75 : decode cX3_lowestBeside 75 = .ok (.iload_n 2, 1) := by decide +kernel
theorem dX3_lowestBeside_76 : decode cX3_lowestBeside 76 = .ok (.iload 4, 2) := by decide +kernel
theorem dX3_lowestBeside_78 : decode cX3_lowestBeside 78 = .ok (.iadd, 1) := by decide +kernel
theorem dX3_lowestBeside_79 : decode cX3_lowestBeside 79 = .ok (.invokevirtual 211, 3) := by decide +kernel
theorem dX3_lowestBeside_82 : decode cX3_lowestBeside 82 = .ok (.istore 5, 2) := by decide +kernel
theorem dX3_lowestBeside_84 : decode cX3_lowestBeside 84 = .ok (.iload 5, 2) := by decide +kernel
theorem dX3_lowestBeside_86 : decode cX3_lowestBeside 86 = .ok (.ireturn, 1) := by decide +kernel
theorem dX3_lowerOf_0 : decode cX3_lowerOf 0 = .ok (.aload_n 0, 1) := by decide +kernel
theorem dX3_lowerOf_1 : decode cX3_lowerOf 1 = .ok (.getfield 21, 3) := by decide +kernel
theorem dX3_lowerOf_4 : decode cX3_lowerOf 4 = .ok (.iload_n 2, 1) := by decide +kernel
theorem dX3_lowerOf_5 : decode cX3_lowerOf 5 = .ok (.iaload, 1) := by decide +kernel
theorem dX3_lowerOf_6 : decode cX3_lowerOf 6 = .ok (.ifCond .ne 23, 3) := by decide +kernel
theorem dX3_lowerOf_9 : decode cX3_lowerOf 9 = .ok (.iload_n 1, 1) := by decide +kernel
theorem dX3_lowerOf_10 : decode cX3_lowerOf 10 = .ok (.iconst (-1), 1) := by decide +kernel
theorem dX3_lowerOf_11 : decode cX3_lowerOf 11 = .ok (.if_icmp .eq 20, 3) := by decide +kernel
theorem dX3_lowerOf_14 : decode cX3_lowerOf 14 = .ok (.aload_n 0, 1) := by decide +kernel
theorem dX3_lowerOf_15 : decode cX3_lowerOf 15 = .ok (.getfield 9, 3) := by decide +kernel
theorem dX3_lowerOf_18 : decode cX3_lowerOf 18 = .ok (.iload_n 1, 1) := by decide +kernel
theorem dX3_lowerOf_19 : decode cX3_lowerOf 19 = .ok (.iaload, 1) := by decide +kernel
theorem dX3_lowerOf_20 : decode cX3_lowerOf 20 = .ok (.aload_n 0, 1) := by decide +kernel
theorem dX3_lowerOf_21 : decode cX3_lowerOf 21 = .ok (.getfield 9, 3) := by decide +kernel
theorem dX3_lowerOf_24 : decode cX3_lowerOf 24 = .ok (.iload_n 2, 1) := by decide +kernel
theorem dX3_lowerOf_25 : decode cX3_lowerOf 25 = .ok (.iaload, 1) := by decide +kernel
theorem dX3_lowerOf_26 : decode cX3_lowerOf 26 = .ok (.if_icmp .gt 5, 3) := by decide +kernel
theorem dX3_lowerOf_29 : decode cX3_lowerOf 29 = .ok (.iload_n 1, 1) := by decide +kernel
theorem dX3_lowerOf_30 : decode cX3_lowerOf 30 = .ok (.ireturn, 1) := by decide +kernel
theorem dX3_lowerOf_31 : decode cX3_lowerOf 31 = .ok (.iload_n 2, 1) := by decide +kernel
theorem dX3_lowerOf_32 : decode cX3_lowerOf 32 = .ok (.ireturn, 1) := by decide +kernel
theorem dX3_dropFlags_0 : decode cX3_dropFlags 0 = .ok (.iconst 0, 1) := by decide +kernel
theorem dX3_dropFlags_1 : decode cX3_dropFlags 1 = .ok (.istore_n 2, 1) := by decide +kernel
theorem dX3_dropFlags_2 : decode cX3_dropFlags 2 = .ok (.iload_n 2, 1) := by decide +kernel
theorem dX3_dropFlags_3 : decode cX3_dropFlags 3 = .ok (.aload_n 1, 1) := by decide +kernel
theorem dX3_dropFlags_4 : decode cX3_dropFlags 4 = .ok (.getfield 214, 3) := by decide +kernel
theorem dX3_dropFlags_7 : decode cX3_dropFlags 7 = .ok (.if_icmp .ge 60, 3) := by decide +kernel
theorem dX3_dropFlags_10 : decode cX3_dropFlags 10 = .ok (.iload_n 2, 1) := by decide +kernel
theorem dX3_dropFlags_11 : decode cX3_dropFlags 11 = .ok (.iconst 3, 1) := by decide +kernel
theorem dX3_dropFlags_12 : decode cX3_dropFlags 12 = .ok (.if_icmp .ge 55, 3) := by decide +kernel
theorem dX3_dropFlags_15 : decode cX3_dropFlags 15 = .ok (.aload_n 1, 1) := by decide +kernel
theorem dX3_dropFlags_16 : decode cX3_dropFlags 16 = .ok (.getfield 217, 3) := by decide +kernel
theorem dX3_dropFlags_19 : decode cX3_dropFlags 19 = .ok (.iload_n 2, 1) := by decide +kernel
theorem dX3_dropFlags_20 : decode cX3_dropFlags 20 = .ok (.iaload, 1) := by decide +kernel
theorem dX3_dropFlags_21 : decode cX3_dropFlags 21 = .ok (.istore_n 3, 1) := by decide +kernel
theorem dX3_dropFlags_22 : decode cX3_dropFlags 22 = .ok (.aload_n 0, 1) := by decide +kernel
theorem dX3_dropFlags_23 : decode cX3_dropFlags 23 = .ok (.getfield 24, 3) := by decide +kernel
theorem dX3_dropFlags_26 : decode cX3_dropFlags 26 = .ok (.iload_n 2, 1) := by decide +kernel
theorem dX3_dropFlags_27 : decode cX3_dropFlags 27 = .ok (.iaload, 1) := by decide +kernel
theorem dX3_dropFlags_28 : decode cX3_dropFlags 28 = .ok (.iconst (-1), 1) := by decide +kernel
theorem dX3_dropFlags_29 : decode cX3_dropFlags 29 = .ok (.if_icmp .ne 32, 3) := by decide +kernel
theorem dX3_dropFlags_32 : decode cX3_dropFlags 32 = .ok (.aload_n 0, 1) := by decide +kernel
theorem dX3_dropFlags_33 : decode cX3_dropFlags 33 = .ok (.getfield 9, 3) := by decide +kernel
theorem dX3_dropFlags_36 : decode cX3_dropFlags 36 = .ok (.iload_n 3, 1) := by decide +kernel
theorem dX3_dropFlags_37 : decode cX3_dropFlags 37 = .ok (.iaload, 1) := by decide +kernel
theorem dX3_dropFlags_38 : decode cX3_dropFlags 38 = .ok (.aload_n 1, 1) := by decide +kernel
theorem dX3_dropFlags_39 : decode cX3_dropFlags 39 = .ok (.iload_n 3, 1) := by decide +kernel
theorem dX3_dropFlags_40 : decode cX3_dropFlags 40 = .ok (.invokevirtual 40, 3) := by decide +kernel
theorem dX3_dropFlags_43 : decode cX3_dropFlags 43 = .ok (.aload_n 1, 1) := by decide +kernel
theorem dX3_dropFlags_44 : decode cX3_dropFlags 44 = .ok (.invokevirtual 220, 3) := by decide +kernel
theorem dX3_dropFlags_47 : decode cX3_dropFlags 47 = .ok (.isub, 1) := by decide +kernel
theorem dX3_dropFlags_48 : decode cX3_dropFlags 48 = .ok (.if_icmp .ge 13, 3) := by decide +kernel
theorem dX3_dropFlags_51 : decode cX3_dropFlags 51 = .ok (.aload_n 0, 1) := by decide +kernel
theorem dX3_dropFlags_52 : decode cX3_dropFlags 52 = .ok (.getfield 24, 3) := by decide +kernel
theorem dX3_dropFlags_55 : decode cX3_dropFlags 55 = .ok (.iload_n 2, 1) := by decide +kernel
theorem dX3_dropFlags_56 : decode cX3_dropFlags 56 = .ok (.aload_n 0, 1) := by decide +kernel
theorem dX3_dropFlags_57 : decode cX3_dropFlags 57 = .ok (.getfield 62, 3) := by decide +kernel
theorem dX3_dropFlags_60 : decode cX3_dropFlags 60 = .ok (.iastore, 1) := by decide +kernel
theorem dX3_dropFlags_61 : decode cX3_dropFlags 61 = .ok (.iinc 2 1, 3) := by decide +kernel
theorem dX3_dropFlags_64 : decode cX3_dropFlags 64 = .ok (.goto (-62), 3) := by decide +kernel
theorem dX3_dropFlags_67 : decode cX3_dropFlags 67 = .ok (.return_, 1) := by decide +kernel
theorem dX4_init_0 : decode cX4_init 0 = .ok (.aload_n 0, 1) := by decide +kernel
theorem dX4_init_1 : decode cX4_init 1 = .ok (.invokespecial 1, 3) := by decide +kernel
theorem dX4_init_4 : decode cX4_init 4 = .ok (.aload_n 0, 1) := by decide +kernel
theorem dX4_init_5 : decode cX4_init 5 = .ok (.bipush 9, 2) := by decide +kernel
theorem dX4_init_7 : decode cX4_init 7 = .ok (.newarray .int, 2) := by decide +kernel
theorem dX4_init_9 : decode cX4_init 9 = .ok (.putfield 9, 3) := by decide +kernel
theorem dX4_init_12 : decode cX4_init 12 = .ok (.return_, 1) := by decide +kernel
theorem dX4_settle_0 : decode cX4_settle 0 = .ok (.aload_n 0, 1) := by decide +kernel
theorem dX4_settle_1 : decode cX4_settle 1 = .ok (.getfield 9, 3) := by decide +kernel
theorem dX4_settle_4 : decode cX4_settle 4 = .ok (.iconst 0, 1) := by decide +kernel
theorem dX4_settle_5 : decode cX4_settle 5 = .ok (.invokestatic 13, 3) := by decide +kernel
theorem dX4_settle_8 : decode cX4_settle 8 = .ok (.aload_n 0, 1) := by decide +kernel
theorem dX4_settle_9 : decode cX4_settle 9 = .ok (.getfield 9, 3) := by decide +kernel
theorem dX4_settle_12 : decode cX4_settle 12 = .ok (.iconst 4, 1) := by decide +kernel
theorem dX4_settle_13 : decode cX4_settle 13 = .ok (.iload_n 1, 1) := by decide +kernel
theorem dX4_settle_14 : decode cX4_settle 14 = .ok (.iastore, 1) := by decide +kernel
theorem dX4_settle_15 : decode cX4_settle 15 = .ok (.iconst 1, 1) := by decide +kernel
theorem dX4_settle_16 : decode cX4_settle 16 = .ok (.istore_n 3, 1) := by decide +kernel
theorem dX4_settle_17 : decode cX4_settle 17 = .ok (.iconst 0, 1) := by decide +kernel
theorem dX4_settle_18 : decode cX4_settle 18 = .ok (.istore 4, 2) := by decide +kernel
theorem dX4_settle_20 : decode cX4_settle 20 = .ok (.iload 4, 2) := by decide +kernel
theorem dX4_settle_22 : decode cX4_settle 22 = .ok (.sipush 2000, 3) := by decide +kernel
theorem dX4_settle_25 : decode cX4_settle 25 = .ok (.if_icmp .ge 82, 3) := by decide +kernel
theorem dX4_settle_28 : decode cX4_settle 28 = .ok (.iload_n 3, 1) := by decide +kernel
theorem dX4_settle_29 : decode cX4_settle 29 = .ok (.ifCond .eq 78, 3) := by decide +kernel
theorem dX4_settle_32 : decode cX4_settle 32 = .ok (.iconst 0, 1) := by decide +kernel
theorem dX4_settle_33 : decode cX4_settle 33 = .ok (.istore_n 3, 1) := by decide +kernel
theorem dX4_settle_34 : decode cX4_settle 34 = .ok (.iconst 0, 1) := by decide +kernel
theorem dX4_settle_35 : decode cX4_settle 35 = .ok (.istore 5, 2) := by decide +kernel
theorem dX4_settle_37 : decode cX4_settle 37 = .ok (.iload 5, 2) := by decide +kernel
theorem dX4_settle_39 : decode cX4_settle 39 = .ok (.bipush 9, 2) := by decide +kernel
theorem dX4_settle_41 : decode cX4_settle 41 = .ok (.if_icmp .ge 60, 3) := by decide +kernel
theorem dX4_settle_44 : decode cX4_settle 44 = .ok (.aload_n 0, 1) := by decide +kernel
theorem dX4_settle_45 : decode cX4_settle 45 = .ok (.iload 5, 2) := by decide +kernel
theorem dX4_settle_47 : decode cX4_settle 47 = .ok (.invokevirtual 19, 3) := by decide +kernel
theorem dX4_settle_50 : decode cX4_settle 50 = .ok (.istore 6, 2) := by decide +kernel
theorem dX4_settle_52 : decode cX4_settle 52 = .ok (.aload_n 0, 1) := by decide +kernel
theorem dX4_settle_53 : decode cX4_settle 53 = .ok (.getfield 9, 3) := by decide +kernel
theorem dX4_settle_56 : decode cX4_settle 56 = .ok (.iload 5, 2) := by decide +kernel
theorem dX4_settle_58 : decode cX4_settle 58 = .ok (.iaload, 1) := by decide +kernel
theorem dX4_settle_59 : decode cX4_settle 59 = .ok (.aload_n 0, 1) := by decide +kernel
theorem dX4_settle_60 : decode cX4_settle 60 = .ok (.getfield 9, 3) := by decide +kernel
theorem dX4_settle_63 : decode cX4_settle 63 = .ok (.iload 6, 2) := by decide +kernel
theorem dX4_settle_65 : decode cX4_settle 65 = .ok (.iaload, 1) := by decide +kernel
theorem dX4_settle_66 : decode cX4_settle 66 = .ok (.isub, 1) := by decide +kernel
theorem dX4_settle_67 : decode cX4_settle 67 = .ok (.iload_n 2, 1) := by decide +kernel
theorem dX4_settle_68 : decode cX4_settle 68 = .ok (.if_icmp .le 27, 3) := by decide +kernel
theorem dX4_settle_71 : decode cX4_settle 71 = .ok (.aload_n 0, 1) := by decide +kernel
theorem dX4_settle_72 : decode cX4_settle 72 = .ok (.getfield 9, 3) := by decide +kernel
theorem dX4_settle_75 : decode cX4_settle 75 = .ok (.iload 5, 2) := by decide +kernel
theorem dX4_settle_77 : decode cX4_settle 77 = .ok (.dup2, 1) := by decide +kernel
theorem dX4_settle_78 : decode cX4_settle 78 = .ok (.iaload, 1) := by decide +kernel
theorem dX4_settle_79 : decode cX4_settle 79 = .ok (.iconst 1, 1) := by decide +kernel
theorem dX4_settle_80 : decode cX4_settle 80 = .ok (.isub, 1) := by decide +kernel
theorem dX4_settle_81 : decode cX4_settle 81 = .ok (.iastore, 1) := by decide +kernel
theorem dX4_settle_82 : decode cX4_settle 82 = .ok (.aload_n 0, 1) := by decide +kernel
theorem dX4_settle_83 : decode cX4_settle 83 = .ok (.getfield 9, 3) := by decide +kernel
theorem dX4_settle_86 : decode cX4_settle 86 = .ok (.iload 6, 2) := by decide +kernel
theorem dX4_settle_88 : decode cX4_settle 88 = .ok (.dup2, 1) := by decide +kernel
theorem dX4_settle_89 : decode cX4_settle 89 = .ok (.iaload, 1) := by decide +kernel
theorem dX4_settle_90 : decode cX4_settle 90 = .ok (.iconst 1, 1) := by decide +kernel
theorem dX4_settle_91 : decode cX4_settle 91 = .ok (.iadd, 1) := by decide +kernel
theorem dX4_settle_92 : decode cX4_settle 92 = .ok (.iastore, 1) := by decide +kernel
theorem dX4_settle_93 : decode cX4_settle 93 = .ok (.iconst 1, 1) := by decide +kernel
theorem dX4_settle_94 : decode cX4_settle 94 = .ok (.istore_n 3, 1) := by decide +kernel
theorem dX4_settle_95 : decode cX4_settle 95 = .ok (.iinc 5 1, 3) := by decide +kernel
theorem dX4_settle_98 : decode cX4_settle 98 = .ok (.goto (-61), 3) := by decide +kernel
theorem dX4_settle_101 : decode cX4_settle 101 = .ok (.iinc 4 1, 3) := by decide +kernel
theorem dX4_settle_104 : decode cX4_settle 104 = .ok (.goto (-84), 3) := by decide +kernel
theorem dX4_settle_107 : decode cX4_settle 107 = .ok (.return_, 1) := by decide +kernel
theorem dX4_lowestBeside_0 : decode cX4_lowestBeside 0 = .ok (.iload_n 1, 1) := by decide +kernel
theorem dX4_lowestBeside_1 : decode cX4_lowestBeside 1 = .ok (.ifCond .gt 5, 3) := by decide +kernel
theorem dX4_lowestBeside_4 : decode cX4_lowestBeside 4 = .ok (.iconst 1, 1) := by decide +kernel
theorem dX4_lowestBeside_5 : decode cX4_lowestBeside 5 = .ok (.ireturn, 1) := by decide +kernel
theorem dX4_lowestBeside_6 : decode cX4_lowestBeside 6 = .ok (.iload_n 1, 1) := by decide +kernel
theorem dX4_lowestBeside_7 : decode cX4_lowestBeside 7 = .ok (.bipush 8, 2) := by decide +kernel
theorem dX4_lowestBeside_9 : decode cX4_lowestBeside 9 = .ok (.if_icmp .lt 6, 3) := by decide +kernel
theorem dX4_lowestBeside_12 : decode cX4_lowestBeside 12 = .ok (.bipush 7, 2) := by decide +kernel
theorem dX4_lowestBeside_14 : decode cX4_lowestBeside 14 = .ok (.ireturn, 1) := by decide +kernel
theorem dX4_lowestBeside_15 : decode cX4_lowestBeside 15 = .ok (.aload_n 0, 1) := by decide +kernel
theorem dX4_lowestBeside_16 : decode cX4_lowestBeside 16 = .ok (.getfield 9, 3) := by decide +kernel
theorem dX4_lowestBeside_19 : decode cX4_lowestBeside 19 = .ok (.iload_n 1, 1) := by decide +kernel
theorem dX4_lowestBeside_20 : decode cX4_lowestBeside 20 = .ok (.iconst 1, 1) := by decide +kernel
theorem dX4_lowestBeside_21 : decode cX4_lowestBeside 21 = .ok (.iadd, 1) := by decide +kernel
theorem dX4_lowestBeside_22 : decode cX4_lowestBeside 22 = .ok (.iaload, 1) := by decide +kernel
theorem dX4_lowestBeside_23 : decode cX4_lowestBeside 23 = .ok (.aload_n 0, 1) := by decide +kernel
theorem dX4_lowestBeside_24 : decode cX4_lowestBeside 24 = .ok (.getfield 9, 3) := by decide +kernel
theorem dX4_lowestBeside_27 : decode cX4_lowestBeside 27 = .ok (.iload_n 1, 1) := by decide +kernel
theorem dX4_lowestBeside_28 : decode cX4_lowestBeside 28 = .ok (.iconst 1, 1) := by decide +kernel
theorem dX4_lowestBeside_29 : decode cX4_lowestBeside 29 = .ok (.isub, 1) := by decide +kernel
theorem dX4_lowestBeside_30 : decode cX4_lowestBeside 30 = .ok (.iaload, 1) := by decide +kernel
theorem dX4_lowestBeside_31 : decode cX4_lowestBeside 31 = .ok (.if_icmp .ge 9, 3) := by decide +kernel
theorem dX4_lowestBeside_34 : decode cX4_lowestBeside 34 = .ok (.iload_n 1, 1) := by decide +kernel
theorem dX4_lowestBeside_35 : decode cX4_lowestBeside 35 = .ok (.iconst 1, 1) := by decide +kernel
theorem dX4_lowestBeside_36 : decode cX4_lowestBeside 36 = .ok (.iadd, 1) := by decide +kernel
theorem dX4_lowestBeside_37 : decode cX4_lowestBeside 37 = .ok (.goto 6, 3) := by decide +kernel
theorem dX4_lowestBeside_40 : decode cX4_lowestBeside 40 = .ok (.iload_n 1, 1) := by decide +kernel
theorem dX4_lowestBeside_41 : decode cX4_lowestBeside 41 = .ok (.iconst 1, 1) := by decide +kernel
theorem dX4_lowestBeside_42 : decode cX4_lowestBeside 42 = .ok (.isub, 1) := by decide +kernel
theorem dX4_lowestBeside_43 : decode cX4_lowestBeside 43 = .ok (.ireturn, 1) := by decide +kernel
theorem dX5_init_0 : decode cX5_init 0 = .ok (.aload_n 0, 1) := by decide +kernel
theorem dX5_init_1 : decode cX5_init 1 = .ok (.invokespecial 3, 3) := by decide +kernel
theorem dX5_init_4 : decode cX5_init 4 = .ok (.aload_n 0, 1) := by decide +kernel
theorem dX5_init_5 : decode cX5_init 5 = .ok (.sipush 900, 3) := by decide +kernel
theorem dX5_init_8 : decode cX5_init 8 = .ok (.newarray .int, 2) := by decide +kernel
theorem dX5_init_10 : decode cX5_init 10 = .ok (.putfield 11, 3) := by decide +kernel
theorem dX5_init_13 : decode cX5_init 13 = .ok (.aload_n 0, 1) := by decide +kernel
theorem dX5_init_14 : decode cX5_init 14 = .ok (.iconst (-1), 1) := by decide +kernel
theorem dX5_init_15 : decode cX5_init 15 = .ok (.putfield 15, 3) := by decide +kernel
theorem dX5_init_18 : decode cX5_init 18 = .ok (.return_, 1) := by decide +kernel
theorem dX5_append_0 : decode cX5_append 0 = .ok (.bipush 24, 2) := by decide +kernel
theorem dX5_append_2 : decode cX5_append 2 = .ok (.istore_n 2, 1) := by decide +kernel
theorem dX5_append_3 : decode cX5_append 3 = .ok (.iload_n 2, 1) := by decide +kernel
theorem dX5_append_4 : decode cX5_append 4 = .ok (.ifCond .lt 45, 3) := by decide +kernel
theorem dX5_append_7 : decode cX5_append 7 = .ok (.aload_n 0, 1) := by decide +kernel
theorem dX5_append_8 : decode cX5_append 8 = .ok (.getfield 19, 3) := by decide +kernel
theorem dX5_append_11 : decode cX5_append 11 = .ok (.sipush 900, 3) := by decide +kernel
theorem dX5_append_14 : decode cX5_append 14 = .ok (.if_icmp .ge 35, 3) := by decide +kernel
theorem dX5_append_17 : decode cX5_append 17 = .ok (.aload_n 0, 1) := by decide +kernel
theorem dX5_append_18 : decode cX5_append 18 = .ok (.getfield 11, 3) := by decide +kernel
theorem dX5_append_21 : decode cX5_append 21 = .ok (.aload_n 0, 1) := by decide +kernel
theorem dX5_append_22 : decode cX5_append 22 = .ok (.getfield 19, 3) := by decide +kernel
theorem dX5_append_25 : decode cX5_append 25 = .ok (.iload_n 1, 1) := by decide +kernel
theorem dX5_append_26 : decode cX5_append 26 = .ok (.iload_n 2, 1) := by decide +kernel
theorem dX5_append_27 : decode cX5_append 27 = .ok (.ishr, 1) := by decide +kernel
theorem dX5_append_28 : decode cX5_append 28 = .ok (.sipush 255, 3) := by decide +kernel
theorem dX5_append_31 : decode cX5_append 31 = .ok (.iand, 1) := by decide +kernel
theorem dX5_append_32 : decode cX5_append 32 = .ok (.iastore, 1) := by decide +kernel
theorem dX5_append_33 : decode cX5_append 33 = .ok (.aload_n 0, 1) := by decide +kernel
theorem dX5_append_34 : decode cX5_append 34 = .ok (.dup, 1) := by decide +kernel
theorem dX5_append_35 : decode cX5_append 35 = .ok (.getfield 19, 3) := by decide +kernel
theorem dX5_append_38 : decode cX5_append 38 = .ok (.iconst 1, 1) := by decide +kernel
theorem dX5_append_39 : decode cX5_append 39 = .ok (.iadd, 1) := by decide +kernel
theorem dX5_append_40 : decode cX5_append 40 = .ok (.putfield 19, 3) := by decide +kernel
theorem dX5_append_43 : decode cX5_append 43 = .ok (.iinc 2 (-8), 3) := by decide +kernel
theorem dX5_append_46 : decode cX5_append 46 = .ok (.goto (-43), 3) := by decide +kernel
theorem dX5_append_49 : decode cX5_append 49 = .ok (.return_, 1) := by decide +kernel
theorem dX5_startReading_0 : decode cX5_startReading 0 = .ok (.aload_n 0, 1) := by decide +kernel
theorem dX5_startReading_1 : decode cX5_startReading 1 = .ok (.iconst 0, 1) := by decide +kernel
theorem dX5_startReading_2 : decode cX5_startReading 2 = .ok (.putfield 22, 3) := by decide +kernel
theorem dX5_startReading_5 : decode cX5_startReading 5 = .ok (.aload_n 0, 1) := by decide +kernel
theorem dX5_startReading_6 : decode cX5_startReading 6 = .ok (.iconst 0, 1) := by decide +kernel
theorem dX5_startReading_7 : decode cX5_startReading 7 = .ok (.putfield 25, 3) := by decide +kernel
theorem dX5_startReading_10 : decode cX5_startReading 10 = .ok (.aload_n 0, 1) := by decide +kernel
theorem dX5_startReading_11 : decode cX5_startReading 11 = .ok (.iconst (-1), 1) := by decide +kernel
theorem dX5_startReading_12 : decode cX5_startReading 12 = .ok (.putfield 15, 3) := by decide +kernel
theorem dX5_startReading_15 : decode cX5_startReading 15 = .ok (.return_, 1) := by decide +kernel
theorem dX5_isFaulty_0 : decode cX5_isFaulty 0 = .ok (.aload_n 0, 1) := by decide +kernel
theorem dX5_isFaulty_1 : decode cX5_isFaulty 1 = .ok (.getfield 25, 3) := by decide +kernel
theorem dX5_isFaulty_4 : decode cX5_isFaulty 4 = .ok (.ifCond .eq 7, 3) := by decide +kernel
theorem dX5_isFaulty_7 : decode cX5_isFaulty 7 = .ok (.iconst 1, 1) := by decide +kernel
theorem dX5_isFaulty_8 : decode cX5_isFaulty 8 = .ok (.goto 4, 3) := by decide +kernel
theorem dX5_isFaulty_11 : decode cX5_isFaulty 11 = .ok (.iconst 0, 1) := by decide +kernel
theorem dX5_isFaulty_12 : decode cX5_isFaulty 12 = .ok (.ireturn, 1) := by decide +kernel
theorem dX5_refuse_0 : decode cX5_refuse 0 = .ok (.aload_n 0, 1) := by decide +kernel
theorem dX5_refuse_1 : decode cX5_refuse 1 = .ok (.getfield 25, 3) := by decide +kernel
theorem dX5_refuse_4 : decode cX5_refuse 4 = .ok (.ifCond .ne 16, 3) := by decide +kernel
theorem dX5_refuse_7 : decode cX5_refuse 7 = .ok (.aload_n 0, 1) := by decide +kernel
theorem dX5_refuse_8 : decode cX5_refuse 8 = .ok (.iload_n 1, 1) := by decide +kernel
theorem dX5_refuse_9 : decode cX5_refuse 9 = .ok (.putfield 25, 3) := by decide +kernel
theorem dX5_refuse_12 : decode cX5_refuse 12 = .ok (.aload_n 0, 1) := by decide +kernel
theorem dX5_refuse_13 : decode cX5_refuse 13 = .ok (.aload_n 0, 1) := by decide +kernel
theorem dX5_refuse_14 : decode cX5_refuse 14 = .ok (.getfield 28, 3) := by decide +kernel
theorem dX5_refuse_17 : decode cX5_refuse 17 = .ok (.putfield 15, 3) := by decide +kernel
theorem dX5_refuse_20 : decode cX5_refuse 20 = .ok (.return_, 1) := by decide +kernel
theorem dX5_advance_0 : decode cX5_advance 0 = .ok (.aload_n 0, 1) := by decide +kernel
theorem dX5_advance_1 : decode cX5_advance 1 = .ok (.getfield 22, 3) := by decide +kernel
theorem dX5_advance_4 : decode cX5_advance 4 = .ok (.aload_n 0, 1) := by decide +kernel
theorem dX5_advance_5 : decode cX5_advance 5 = .ok (.getfield 19, 3) := by decide +kernel
theorem dX5_advance_8 : decode cX5_advance 8 = .ok (.if_icmp .ge 31, 3) := by decide +kernel
theorem dX5_advance_11 : decode cX5_advance 11 = .ok (.aload_n 0, 1) := by decide +kernel
theorem dX5_advance_12 : decode cX5_advance 12 = .ok (.getfield 11, 3) := by decide +kernel
theorem dX5_advance_15 : decode cX5_advance 15 = .ok (.aload_n 0, 1) := by decide +kernel
theorem dX5_advance_16 : decode cX5_advance 16 = .ok (.getfield 22, 3) := by decide +kernel
theorem dX5_advance_19 : decode cX5_advance 19 = .ok (.iaload, 1) := by decide +kernel
theorem dX5_advance_20 : decode cX5_advance 20 = .ok (.invokestatic 31, 3) := by decide +kernel
theorem dX5_advance_23 : decode cX5_advance 23 = .ok (.ifCond .eq 16, 3) := by decide +kernel
theorem dX5_advance_26 : decode cX5_advance 26 = .ok (.aload_n 0, 1) := by decide +kernel
theorem dX5_advance_27 : decode cX5_advance 27 = .ok (.dup, 1) := by decide +kernel
theorem dX5_advance_28 : decode cX5_advance 28 = .ok (.getfield 22, 3) := by decide +kernel
theorem dX5_advance_31 : decode cX5_advance 31 = .ok (.iconst 1, 1) := by decide +kernel
theorem dX5_advance_32 : decode cX5_advance 32 = .ok (.iadd, 1) := by decide +kernel
theorem dX5_advance_33 : decode cX5_advance 33 = .ok (.putfield 22, 3) := by decide +kernel
theorem dX5_advance_36 : decode cX5_advance 36 = .ok (.goto (-36), 3) := by decide +kernel
theorem dX5_advance_39 : decode cX5_advance 39 = .ok (.aload_n 0, 1) := by decide +kernel
theorem dX5_advance_40 : decode cX5_advance 40 = .ok (.aload_n 0, 1) := by decide +kernel
theorem dX5_advance_41 : decode cX5_advance 41 = .ok (.getfield 22, 3) := by decide +kernel
theorem dX5_advance_44 : decode cX5_advance 44 = .ok (.putfield 28, 3) := by decide +kernel
theorem dX5_advance_47 : decode cX5_advance 47 = .ok (.aload_n 0, 1) := by decide +kernel
theorem dX5_advance_48 : decode cX5_advance 48 = .ok (.iconst 0, 1) := by decide +kernel
theorem dX5_advance_49 : decode cX5_advance 49 = .ok (.putfield 35, 3) := by decide +kernel
theorem dX5_advance_52 : decode cX5_advance 52 = .ok (.aload_n 0, 1) := by decide +kernel
theorem dX5_advance_53 : decode cX5_advance 53 = .ok (.getfield 22, 3) := by decide +kernel
theorem dX5_advance_56 : decode cX5_advance 56 = .ok (.aload_n 0, 1) := by decide +kernel
theorem dX5_advance_57 : decode cX5_advance 57 = .ok (.getfield 19, 3) := by decide +kernel
theorem dX5_advance_60 : decode cX5_advance 60 = .ok (.if_icmp .lt 9, 3) := by decide +kernel
theorem dX5_advance_63 : decode cX5_advance 63 = .ok (.aload_n 0, 1) := by decide +kernel
theorem dX5_advance_64 : decode cX5_advance 64 = .ok (.iconst 4, 1) := by decide +kernel
theorem dX5_advance_65 : decode cX5_advance 65 = .ok (.putfield 38, 3) := by decide +kernel
theorem dX5_advance_68 : decode cX5_advance 68 = .ok (.return_, 1) := by decide +kernel
theorem dX5_advance_69 : decode cX5_advance 69 = .ok (.aload_n 0, 1) := by decide +kernel
theorem dX5_advance_70 : decode cX5_advance 70 = .ok (.aload_n 0, 1) := by decide +kernel
theorem dX5_advance_71 : decode cX5_advance 71 = .ok (.getfield 11, 3) := by decide +kernel
theorem dX5_advance_74 : decode cX5_advance 74 = .ok (.aload_n 0, 1) := by decide +kernel
theorem dX5_advance_75 : decode cX5_advance 75 = .ok (.getfield 22, 3) := by decide +kernel
theorem dX5_advance_78 : decode cX5_advance 78 = .ok (.iaload, 1) := by decide +kernel
theorem dX5_advance_79 : decode cX5_advance 79 = .ok (.invokestatic 41, 3) := by decide +kernel
theorem dX5_advance_82 : decode cX5_advance 82 = .ok (.putfield 38, 3) := by decide +kernel
theorem dX5_advance_85 : decode cX5_advance 85 = .ok (.aload_n 0, 1) := by decide +kernel
theorem dX5_advance_86 : decode cX5_advance 86 = .ok (.getfield 38, 3) := by decide +kernel
theorem dX5_advance_89 : decode cX5_advance 89 = .ok (.iconst 1, 1) := by decide +kernel
theorem dX5_advance_90 : decode cX5_advance 90 = .ok (.if_icmp .eq 22, 3) := by decide +kernel
theorem dX5_advance_93 : decode cX5_advance 93 = .ok (.aload_n 0, 1) := by decide +kernel
theorem dX5_advance_94 : decode cX5_advance 94 = .ok (.getfield 38, 3) := by decide +kernel
theorem dX5_advance_97 : decode cX5_advance 97 = .ok (.iconst 2, 1) := by decide +kernel
theorem dX5_advance_98 : decode cX5_advance 98 = .ok (.if_icmp .eq 14, 3) := by decide +kernel
theorem dX5_advance_101 : decode cX5_advance 101 = .ok (.aload_n 0, 1) := by decide +kernel
theorem dX5_advance_102 : decode cX5_advance 102 = .ok (.dup, 1) := by decide +kernel
theorem dX5_advance_103 : decode cX5_advance 103 = .ok (.getfield 22, 3) := by decide +kernel
theorem dX5_advance_106 : decode cX5_advance 106 = .ok (.iconst 1, 1) := by decide +kernel
theorem dX5_advance_107 : decode cX5_advance 107 = .ok (.iadd, 1) := by decide +kernel
theorem dX5_advance_108 : decode cX5_advance 108 = .ok (.putfield 22, 3) := by decide +kernel
theorem dX5_advance_111 : decode cX5_advance 111 = .ok (.return_, 1) := by decide +kernel
theorem dX5_advance_112 : decode cX5_advance 112 = .ok (.aload_n 0, 1) := by decide +kernel
theorem dX5_advance_113 : decode cX5_advance 113 = .ok (.getfield 22, 3) := by decide +kernel
theorem dX5_advance_116 : decode cX5_advance 116 = .ok (.aload_n 0, 1) := by decide +kernel
theorem dX5_advance_117 : decode cX5_advance 117 = .ok (.getfield 19, 3) := by decide +kernel
theorem dX5_advance_120 : decode cX5_advance 120 = .ok (.if_icmp .ge 59, 3) := by decide +kernel
theorem dX5_advance_123 : decode cX5_advance 123 = .ok (.aload_n 0, 1) := by decide +kernel
theorem dX5_advance_124 : decode cX5_advance 124 = .ok (.getfield 11, 3) := by decide +kernel
theorem dX5_advance_127 : decode cX5_advance 127 = .ok (.aload_n 0, 1) := by decide +kernel
theorem dX5_advance_128 : decode cX5_advance 128 = .ok (.getfield 22, 3) := by decide +kernel
theorem dX5_advance_131 : decode cX5_advance 131 = .ok (.iaload, 1) := by decide +kernel
theorem dX5_advance_132 : decode cX5_advance 132 = .ok (.invokestatic 41, 3) := by decide +kernel
theorem dX5_advance_135 : decode cX5_advance 135 = .ok (.aload_n 0, 1) := by decide +kernel
theorem dX5_advance_136 : decode cX5_advance 136 = .ok (.getfield 38, 3) := by decide +kernel
theorem dX5_advance_139 : decode cX5_advance 139 = .ok (.if_icmp .ne 40, 3) := by decide +kernel
theorem dX5_advance_142 : decode cX5_advance 142 = .ok (.aload_n 0, 1) := by decide +kernel
theorem dX5_advance_143 : decode cX5_advance 143 = .ok (.aload_n 0, 1) := by decide +kernel
theorem dX5_advance_144 : decode cX5_advance 144 = .ok (.getfield 35, 3) := by decide +kernel
theorem dX5_advance_147 : decode cX5_advance 147 = .ok (.bipush 10, 2) := by decide +kernel
theorem dX5_advance_149 : decode cX5_advance 149 = .ok (.imul, 1) := by decide +kernel
theorem dX5_advance_150 : decode cX5_advance 150 = .ok (.aload_n 0, 1) := by decide +kernel
theorem dX5_advance_151 : decode cX5_advance 151 = .ok (.getfield 11, 3) := by decide +kernel
theorem dX5_advance_154 : decode cX5_advance 154 = .ok (.aload_n 0, 1) := by decide +kernel
theorem dX5_advance_155 : decode cX5_advance 155 = .ok (.getfield 22, 3) := by decide +kernel
theorem dX5_advance_158 : decode cX5_advance 158 = .ok (.iaload, 1) := by decide +kernel
theorem dX5_advance_159 : decode cX5_advance 159 = .ok (.iadd, 1) := by decide +kernel
theorem dX5_advance_160 : decode cX5_advance 160 = .ok (.bipush 48, 2) := by decide +kernel
theorem dX5_advance_162 : decode cX5_advance 162 = .ok (.isub, 1) := by decide +kernel
theorem dX5_advance_163 : decode cX5_advance 163 = .ok (.putfield 35, 3) := by decide +kernel
theorem dX5_advance_166 : decode cX5_advance 166 = .ok (.aload_n 0, 1) := by decide +kernel
theorem dX5_advance_167 : decode cX5_advance 167 = .ok (.dup, 1) := by decide +kernel
theorem dX5_advance_168 : decode cX5_advance 168 = .ok (.getfield 22, 3) := by decide +kernel
theorem dX5_advance_171 : decode cX5_advance 171 = .ok (.iconst 1, 1) := by decide +kernel
theorem dX5_advance_172 : decode cX5_advance 172 = .ok (.iadd, 1) := by decide +kernel
theorem dX5_advance_173 : decode cX5_advance 173 = .ok (.putfield 22, 3) := by decide +kernel
theorem dX5_advance_176 : decode cX5_advance 176 = .ok (.goto (-64), 3) := by decide +kernel
theorem dX5_advance_179 : decode cX5_advance 179 = .ok (.aload_n 0, 1) := by decide +kernel
theorem dX5_advance_180 : decode cX5_advance 180 = .ok (.getfield 22, 3) := by decide +kernel
theorem dX5_advance_183 : decode cX5_advance 183 = .ok (.aload_n 0, 1) := by decide +kernel
theorem dX5_advance_184 : decode cX5_advance 184 = .ok (.getfield 28, 3) := by decide +kernel
theorem dX5_advance_187 : decode cX5_advance 187 = .ok (.isub, 1) := by decide +kernel
theorem dX5_advance_188 : decode cX5_advance 188 = .ok (.aload_n 0, 1) := by decide +kernel
theorem dX5_advance_189 : decode cX5_advance 189 = .ok (.getfield 38, 3) := by decide +kernel
theorem dX5_advance_192 : decode cX5_advance 192 = .ok (.iconst 1, 1) := by decide +kernel
theorem dX5_advance_193 : decode cX5_advance 193 = .ok (.if_icmp .ne 8, 3) := by decide +kernel
theorem dX5_advance_196 : decode cX5_advance 196 = .ok (.bipush 8, 2) := by decide +kernel
theorem dX5_advance_198 : decode cX5_advance 198 = .ok (.goto 4, 3) := by decide +kernel
theorem dX5_advance_201 : decode cX5_advance 201 = .ok (.iconst 3, 1) := by decide +kernel
theorem dX5_advance_202 : decode cX5_advance 202 = .ok (.if_icmp .le 8, 3) := by decide +kernel
theorem dX5_advance_205 : decode cX5_advance 205 = .ok (.aload_n 0, 1) := by decide +kernel
theorem dX5_advance_206 : decode cX5_advance 206 = .ok (.iconst 0, 1) := by decide +kernel
theorem dX5_advance_207 : decode cX5_advance 207 = .ok (.putfield 38, 3) := by decide +kernel
theorem dX5_advance_210 : decode cX5_advance 210 = .ok (.return_, 1) := by decide +kernel
theorem dX5_isBlank_0 : decode cX5_isBlank 0 = .ok (.iload_n 0, 1) := by decide +kernel
theorem dX5_isBlank_1 : decode cX5_isBlank 1 = .ok (.bipush 32, 2) := by decide +kernel
theorem dX5_isBlank_3 : decode cX5_isBlank 3 = .ok (.if_icmp .eq 9, 3) := by decide +kernel
theorem dX5_isBlank_6 : decode cX5_isBlank 6 = .ok (.iload_n 0, 1) := by decide +kernel
theorem dX5_isBlank_7 : decode cX5_isBlank 7 = .ok (.bipush 10, 2) := by decide +kernel
theorem dX5_isBlank_9 : decode cX5_isBlank 9 = .ok (.if_icmp .ne 7, 3) := by decide +kernel
theorem dX5_isBlank_12 : decode cX5_isBlank 12 = .ok (.iconst 1, 1) := by decide +kernel
theorem dX5_isBlank_13 : decode cX5_isBlank 13 = .ok (.goto 4, 3) := by decide +kernel
theorem dX5_isBlank_16 : decode cX5_isBlank 16 = .ok (.iconst 0, 1) := by decide +kernel
theorem dX5_isBlank_17 : decode cX5_isBlank 17 = .ok (.ireturn, 1) := by decide +kernel
theorem dX5_kindOf_0 : decode cX5_kindOf 0 = .ok (.iload_n 0, 1) := by decide +kernel
theorem dX5_kindOf_1 : decode cX5_kindOf 1 = .ok (.bipush 97, 2) := by decide +kernel
theorem dX5_kindOf_3 : decode cX5_kindOf 3 = .ok (.if_icmp .lt 11, 3) := by decide +kernel
theorem dX5_kindOf_6 : decode cX5_kindOf 6 = .ok (.iload_n 0, 1) := by decide +kernel
theorem dX5_kindOf_7 : decode cX5_kindOf 7 = .ok (.bipush 122, 2) := by decide +kernel
theorem dX5_kindOf_9 : decode cX5_kindOf 9 = .ok (.if_icmp .gt 5, 3) := by decide +kernel
theorem dX5_kindOf_12 : decode cX5_kindOf 12 = .ok (.iconst 1, 1) := by decide +kernel
theorem dX5_kindOf_13 : decode cX5_kindOf 13 = .ok (.ireturn, 1) := by decide +kernel
theorem dX5_kindOf_14 : decode cX5_kindOf 14 = .ok (.iload_n 0, 1) := by decide +kernel
theorem dX5_kindOf_15 : decode cX5_kindOf 15 = .ok (.bipush 48, 2) := by decide +kernel
theorem dX5_kindOf_17 : decode cX5_kindOf 17 = .ok (.if_icmp .lt 11, 3) := by decide +kernel
theorem dX5_kindOf_20 : decode cX5_kindOf 20 = .ok (.iload_n 0, 1) := by decide +kernel
theorem dX5_kindOf_21 : decode cX5_kindOf 21 = .ok (.bipush 57, 2) := by decide +kernel
theorem dX5_kindOf_23 : decode cX5_kindOf 23 = .ok (.if_icmp .gt 5, 3) := by decide +kernel
theorem dX5_kindOf_26 : decode cX5_kindOf 26 = .ok (.iconst 2, 1) := by decide +kernel
theorem dX5_kindOf_27 : decode cX5_kindOf 27 = .ok (.ireturn, 1) := by decide +kernel
theorem dX5_kindOf_28 : decode cX5_kindOf 28 = .ok (.iload_n 0, 1) := by decide +kernel
theorem dX5_kindOf_29 : decode cX5_kindOf 29 = .ok (.bipush 59, 2) := by decide +kernel
theorem dX5_kindOf_31 : decode cX5_kindOf 31 = .ok (.if_icmp .ne 7, 3) := by decide +kernel
theorem dX5_kindOf_34 : decode cX5_kindOf 34 = .ok (.iconst 3, 1) := by decide +kernel
theorem dX5_kindOf_35 : decode cX5_kindOf 35 = .ok (.goto 4, 3) := by decide +kernel
theorem dX5_kindOf_38 : decode cX5_kindOf 38 = .ok (.iconst 0, 1) := by decide +kernel
theorem dX5_kindOf_39 : decode cX5_kindOf 39 = .ok (.ireturn, 1) := by decide +kernel
theorem dX5_isWord_0 : decode cX5_isWord 0 = .ok (.aload_n 0, 1) := by decide +kernel
theorem dX5_isWord_1 : decode cX5_isWord 1 = .ok (.getfield 38, 3) := by decide +kernel
theorem dX5_isWord_4 : decode cX5_isWord 4 = .ok (.iconst 1, 1) := by decide +kernel
theorem dX5_isWord_5 : decode cX5_isWord 5 = .ok (.if_icmp .ne 19, 3) := by decide +kernel
theorem dX5_isWord_8 : decode cX5_isWord 8 = .ok (.aload_n 0, 1) := by decide +kernel
theorem dX5_isWord_9 : decode cX5_isWord 9 = .ok (.getfield 22, 3) := by decide +kernel
theorem dX5_isWord_12 : decode cX5_isWord 12 = .ok (.aload_n 0, 1) := by decide +kernel
theorem dX5_isWord_13 : decode cX5_isWord 13 = .ok (.getfield 28, 3) := by decide +kernel
theorem dX5_isWord_16 : decode cX5_isWord 16 = .ok (.isub, 1) := by decide +kernel
theorem dX5_isWord_17 : decode cX5_isWord 17 = .ok (.aload_n 1, 1) := by decide +kernel
theorem dX5_isWord_18 : decode cX5_isWord 18 = .ok (.invokevirtual 45, 3) := by decide +kernel
theorem dX5_isWord_21 : decode cX5_isWord 21 = .ok (.if_icmp .eq 5, 3) := by decide +kernel
theorem dX5_isWord_24 : decode cX5_isWord 24 = .ok (.iconst 0, 1) := by decide +kernel
theorem dX5_isWord_25 : decode cX5_isWord 25 = .ok (.ireturn, 1) := by decide +kernel
theorem dX5_isWord_26 : decode cX5_isWord 26 = .ok (.iconst 0, 1) := by decide +kernel
theorem dX5_isWord_27 : decode cX5_isWord 27 = .ok (.istore_n 2, 1) := by decide +kernel
theorem dX5_isWord_28 : decode cX5_isWord 28 = .ok (.iload_n 2, 1) := by decide +kernel
theorem dX5_isWord_29 : decode cX5_isWord 29 = .ok (.aload_n 1, 1) := by decide +kernel
theorem dX5_isWord_30 : decode cX5_isWord 30 = .ok (.invokevirtual 45, 3) := by decide +kernel
theorem dX5_isWord_33 : decode cX5_isWord 33 = .ok (.if_icmp .ge 30, 3) := by decide +kernel
theorem dX5_isWord_36 : decode cX5_isWord 36 = .ok (.aload_n 0, 1) := by decide +kernel
theorem dX5_isWord_37 : decode cX5_isWord 37 = .ok (.getfield 11, 3) := by decide +kernel
theorem dX5_isWord_40 : decode cX5_isWord 40 = .ok (.aload_n 0, 1) := by decide +kernel
theorem dX5_isWord_41 : decode cX5_isWord 41 = .ok (.getfield 28, 3) := by decide +kernel
theorem dX5_isWord_44 : decode cX5_isWord 44 = .ok (.iload_n 2, 1) := by decide +kernel
theorem dX5_isWord_45 : decode cX5_isWord 45 = .ok (.iadd, 1) := by decide +kernel
theorem dX5_isWord_46 : decode cX5_isWord 46 = .ok (.iaload, 1) := by decide +kernel
theorem dX5_isWord_47 : decode cX5_isWord 47 = .ok (.aload_n 1, 1) := by decide +kernel
theorem dX5_isWord_48 : decode cX5_isWord 48 = .ok (.iload_n 2, 1) := by decide +kernel
theorem dX5_isWord_49 : decode cX5_isWord 49 = .ok (.invokevirtual 50, 3) := by decide +kernel
theorem dX5_isWord_52 : decode cX5_isWord 52 = .ok (.if_icmp .eq 5, 3) := by decide +kernel
theorem dX5_isWord_55 : decode cX5_isWord 55 = .ok (.iconst 0, 1) := by decide +kernel
theorem dX5_isWord_56 : decode cX5_isWord 56 = .ok (.ireturn, 1) := by decide +kernel
theorem dX5_isWord_57 : decode cX5_isWord 57 = .ok (.iinc 2 1, 3) := by decide +kernel
theorem dX5_isWord_60 : decode cX5_isWord 60 = .ok (.goto (-32), 3) := by decide +kernel
theorem dX5_isWord_63 : decode cX5_isWord 63 = .ok (.iconst 1, 1) := by decide +kernel
theorem dX5_isWord_64 : decode cX5_isWord 64 = .ok (.ireturn, 1) := by decide +kernel
theorem dX5_hasClause_0 : decode cX5_hasClause 0 = .ok (.aload_n 0, 1) := by decide +kernel
theorem dX5_hasClause_1 : decode cX5_hasClause 1 = .ok (.invokevirtual 54, 3) := by decide +kernel
theorem dX5_hasClause_4 : decode cX5_hasClause 4 = .ok (.ifCond .eq 5, 3) := by decide +kernel
theorem dX5_hasClause_7 : decode cX5_hasClause 7 = .ok (.iconst 0, 1) := by decide +kernel
theorem dX5_hasClause_8 : decode cX5_hasClause 8 = .ok (.ireturn, 1) := by decide +kernel
theorem dX5_hasClause_9 : decode cX5_hasClause 9 = .ok (.aload_n 0, 1) := by decide +kernel
theorem dX5_hasClause_10 : decode cX5_hasClause 10 = .ok (.invokevirtual 58, 3) := by decide +kernel
theorem dX5_hasClause_13 : decode cX5_hasClause 13 = .ok (.aload_n 0, 1) := by decide +kernel
theorem dX5_hasClause_14 : decode cX5_hasClause 14 = .ok (.getfield 38, 3) := by decide +kernel
theorem dX5_hasClause_17 : decode cX5_hasClause 17 = .ok (.iconst 4, 1) := by decide +kernel
theorem dX5_hasClause_18 : decode cX5_hasClause 18 = .ok (.if_icmp .eq 7, 3) := by decide +kernel
theorem dX5_hasClause_21 : decode cX5_hasClause 21 = .ok (.iconst 1, 1) := by decide +kernel
theorem dX5_hasClause_22 : decode cX5_hasClause 22 = .ok (.goto 4, 3) := by decide +kernel
theorem dX5_hasClause_25 : decode cX5_hasClause 25 = .ok (.iconst 0, 1) := by decide +kernel
theorem dX5_hasClause_26 : decode cX5_hasClause 26 = .ok (.ireturn, 1) := by decide +kernel
theorem dX5_endClause_0 : decode cX5_endClause 0 = .ok (.aload_n 0, 1) := by decide +kernel
theorem dX5_endClause_1 : decode cX5_endClause 1 = .ok (.invokevirtual 54, 3) := by decide +kernel
theorem dX5_endClause_4 : decode cX5_endClause 4 = .ok (.ifCond .eq 4, 3) := by decide +kernel
theorem dX5_endClause_7 : decode cX5_endClause 7 = .ok (.return_, 1) := by decide +kernel
theorem dX5_endClause_8 : decode cX5_endClause 8 = .ok (.aload_n 0, 1) := by decide +kernel
theorem dX5_endClause_9 : decode cX5_endClause 9 = .ok (.invokevirtual 58, 3) := by decide +kernel
theorem dX5_endClause_12 : decode cX5_endClause 12 = .ok (.aload_n 0, 1) := by decide +kernel
theorem dX5_endClause_13 : decode cX5_endClause 13 = .ok (.getfield 38, 3) := by decide +kernel
theorem dX5_endClause_16 : decode cX5_endClause 16 = .ok (.iconst 3, 1) := by decide +kernel
theorem dX5_endClause_17 : decode cX5_endClause 17 = .ok (.if_icmp .eq 8, 3) := by decide +kernel
theorem dX5_endClause_20 : decode cX5_endClause 20 = .ok (.aload_n 0, 1) := by decide +kernel
theorem dX5_endClause_21 : decode cX5_endClause 21 = .ok (.iconst 1, 1) := by decide +kernel
theorem dX5_endClause_22 : decode cX5_endClause 22 = .ok (.invokevirtual 61, 3) := by decide +kernel
theorem dX5_endClause_25 : decode cX5_endClause 25 = .ok (.return_, 1) := by decide +kernel
theorem dX5_need_0 : decode cX5_need 0 = .ok (.aload_n 0, 1) := by decide +kernel
theorem dX5_need_1 : decode cX5_need 1 = .ok (.invokevirtual 54, 3) := by decide +kernel
theorem dX5_need_4 : decode cX5_need 4 = .ok (.ifCond .eq 5, 3) := by decide +kernel
theorem dX5_need_7 : decode cX5_need 7 = .ok (.iload_n 1, 1) := by decide +kernel
theorem dX5_need_8 : decode cX5_need 8 = .ok (.ireturn, 1) := by decide +kernel
theorem dX5_need_9 : decode cX5_need 9 = .ok (.aload_n 0, 1) := by decide +kernel
theorem dX5_need_10 : decode cX5_need 10 = .ok (.invokevirtual 58, 3) := by decide +kernel
theorem dX5_need_13 : decode cX5_need 13 = .ok (.aload_n 0, 1) := by decide +kernel
theorem dX5_need_14 : decode cX5_need 14 = .ok (.getfield 38, 3) := by decide +kernel
theorem dX5_need_17 : decode cX5_need 17 = .ok (.iconst 2, 1) := by decide +kernel
theorem dX5_need_18 : decode cX5_need 18 = .ok (.if_icmp .eq 10, 3) := by decide +kernel
theorem dX5_need_21 : decode cX5_need 21 = .ok (.aload_n 0, 1) := by decide +kernel
theorem dX5_need_22 : decode cX5_need 22 = .ok (.iconst 1, 1) := by decide +kernel
theorem dX5_need_23 : decode cX5_need 23 = .ok (.invokevirtual 61, 3) := by decide +kernel
theorem dX5_need_26 : decode cX5_need 26 = .ok (.iload_n 1, 1) := by decide +kernel
theorem dX5_need_27 : decode cX5_need 27 = .ok (.ireturn, 1) := by decide +kernel
theorem dX5_need_28 : decode cX5_need 28 = .ok (.aload_n 0, 1) := by decide +kernel
theorem dX5_need_29 : decode cX5_need 29 = .ok (.getfield 35, 3) := by decide +kernel
theorem dX5_need_32 : decode cX5_need 32 = .ok (.iload_n 1, 1) := by decide +kernel
theorem dX5_need_33 : decode cX5_need 33 = .ok (.if_icmp .lt 11, 3) := by decide +kernel
theorem dX5_need_36 : decode cX5_need 36 = .ok (.aload_n 0, 1) := by decide +kernel
theorem dX5_need_37 : decode cX5_need 37 = .ok (.getfield 35, 3) := by decide +kernel
theorem dX5_need_40 : decode cX5_need 40 = .ok (.iload_n 2, 1) := by decide +kernel
theorem dX5_need_41 : decode cX5_need 41 = .ok (.if_icmp .le 10, 3) := by decide +kernel
theorem dX5_need_44 : decode cX5_need 44 = .ok (.aload_n 0, 1) := by decide +kernel
theorem dX5_need_45 : decode cX5_need 45 = .ok (.iconst 2, 1) := by decide +kernel
theorem dX5_need_46 : decode cX5_need 46 = .ok (.invokevirtual 61, 3) := by decide +kernel
theorem dX5_need_49 : decode cX5_need 49 = .ok (.iload_n 1, 1) := by decide +kernel
theorem dX5_need_50 : decode cX5_need 50 = .ok (.ireturn, 1) := by decide +kernel
theorem dX5_need_51 : decode cX5_need 51 = .ok (.aload_n 0, 1) := by decide +kernel
theorem dX5_need_52 : decode cX5_need 52 = .ok (.getfield 35, 3) := by decide +kernel
theorem dX5_need_55 : decode cX5_need 55 = .ok (.ireturn, 1) := by decide +kernel
theorem dX5_isHeights_0 : decode cX5_isHeights 0 = .ok (.aload_n 0, 1) := by decide +kernel
theorem dX5_isHeights_1 : decode cX5_isHeights 1 = .ok (.getfield 19, 3) := by decide +kernel
theorem dX5_isHeights_4 : decode cX5_isHeights 4 = .ok (.iload_n 1, 1) := by decide +kernel
theorem dX5_isHeights_5 : decode cX5_isHeights 5 = .ok (.if_icmp .eq 5, 3) := by decide +kernel
theorem dX5_isHeights_8 : decode cX5_isHeights 8 = .ok (.iconst 0, 1) := by decide +kernel
theorem dX5_isHeights_9 : decode cX5_isHeights 9 = .ok (.ireturn, 1) := by decide +kernel
theorem dX5_isHeights_10 : decode cX5_isHeights 10 = .ok (.iconst 0, 1) := by decide +kernel
theorem dX5_isHeights_11 : decode cX5_isHeights 11 = .ok (.istore_n 2, 1) := by decide +kernel
theorem dX5_isHeights_12 : decode cX5_isHeights 12 = .ok (.iload_n 2, 1) := by decide +kernel
theorem dX5_isHeights_13 : decode cX5_isHeights 13 = .ok (.aload_n 0, 1) := by decide +kernel
theorem dX5_isHeights_14 : decode cX5_isHeights 14 = .ok (.getfield 19, 3) := by decide +kernel
theorem dX5_isHeights_17 : decode cX5_isHeights 17 = .ok (.if_icmp .ge 33, 3) := by decide +kernel
theorem dX5_isHeights_20 : decode cX5_isHeights 20 = .ok (.aload_n 0, 1) := by decide +kernel
theorem dX5_isHeights_21 : decode cX5_isHeights 21 = .ok (.getfield 11, 3) := by decide +kernel
theorem dX5_isHeights_24 : decode cX5_isHeights 24 = .ok (.iload_n 2, 1) := by decide +kernel
theorem dX5_isHeights_25 : decode cX5_isHeights 25 = .ok (.iaload, 1) := by decide +kernel
theorem dX5_isHeights_26 : decode cX5_isHeights 26 = .ok (.bipush 32, 2) := by decide +kernel
theorem dX5_isHeights_28 : decode cX5_isHeights 28 = .ok (.if_icmp .lt 14, 3) := by decide +kernel
theorem dX5_isHeights_31 : decode cX5_isHeights 31 = .ok (.aload_n 0, 1) := by decide +kernel
theorem dX5_isHeights_32 : decode cX5_isHeights 32 = .ok (.getfield 11, 3) := by decide +kernel
theorem dX5_isHeights_35 : decode cX5_isHeights 35 = .ok (.iload_n 2, 1) := by decide +kernel
theorem dX5_isHeights_36 : decode cX5_isHeights 36 = .ok (.iaload, 1) := by decide +kernel
theorem dX5_isHeights_37 : decode cX5_isHeights 37 = .ok (.bipush 126, 2) := by decide +kernel
theorem dX5_isHeights_39 : decode cX5_isHeights 39 = .ok (.if_icmp .le 5, 3) := by decide +kernel
theorem dX5_isHeights_42 : decode cX5_isHeights 42 = .ok (.iconst 0, 1) := by decide +kernel
theorem dX5_isHeights_43 : decode cX5_isHeights 43 = .ok (.ireturn, 1) := by decide +kernel
theorem dX5_isHeights_44 : decode cX5_isHeights 44 = .ok (.iinc 2 1, 3) := by decide +kernel
theorem dX5_isHeights_47 : decode cX5_isHeights 47 = .ok (.goto (-35), 3) := by decide +kernel
theorem dX5_isHeights_50 : decode cX5_isHeights 50 = .ok (.iconst 1, 1) := by decide +kernel
theorem dX5_isHeights_51 : decode cX5_isHeights 51 = .ok (.ireturn, 1) := by decide +kernel
theorem dX5_areHeights_0 : decode cX5_areHeights 0 = .ok (.iconst 0, 1) := by decide +kernel
theorem dX5_areHeights_1 : decode cX5_areHeights 1 = .ok (.istore_n 3, 1) := by decide +kernel
theorem dX5_areHeights_2 : decode cX5_areHeights 2 = .ok (.iload_n 3, 1) := by decide +kernel
theorem dX5_areHeights_3 : decode cX5_areHeights 3 = .ok (.iload_n 2, 1) := by decide +kernel
theorem dX5_areHeights_4 : decode cX5_areHeights 4 = .ok (.if_icmp .ge 32, 3) := by decide +kernel
theorem dX5_areHeights_7 : decode cX5_areHeights 7 = .ok (.iload_n 3, 1) := by decide +kernel
theorem dX5_areHeights_8 : decode cX5_areHeights 8 = .ok (.aload_n 1, 1) := by decide +kernel
theorem dX5_areHeights_9 : decode cX5_areHeights 9 = .ok (.arraylength, 1) := by decide +kernel
theorem dX5_areHeights_10 : decode cX5_areHeights 10 = .ok (.if_icmp .ge 26, 3) := by decide +kernel
theorem dX5_areHeights_13 : decode cX5_areHeights 13 = .ok (.aload_n 1, 1) := by decide +kernel
theorem dX5_areHeights_14 : decode cX5_areHeights 14 = .ok (.iload_n 3, 1) := by decide +kernel
theorem dX5_areHeights_15 : decode cX5_areHeights 15 = .ok (.iaload, 1) := by decide +kernel
theorem dX5_areHeights_16 : decode cX5_areHeights 16 = .ok (.aload_n 0, 1) := by decide +kernel
theorem dX5_areHeights_17 : decode cX5_areHeights 17 = .ok (.getfield 11, 3) := by decide +kernel
theorem dX5_areHeights_20 : decode cX5_areHeights 20 = .ok (.iload_n 3, 1) := by decide +kernel
theorem dX5_areHeights_21 : decode cX5_areHeights 21 = .ok (.iaload, 1) := by decide +kernel
theorem dX5_areHeights_22 : decode cX5_areHeights 22 = .ok (.bipush 32, 2) := by decide +kernel
theorem dX5_areHeights_24 : decode cX5_areHeights 24 = .ok (.isub, 1) := by decide +kernel
theorem dX5_areHeights_25 : decode cX5_areHeights 25 = .ok (.if_icmp .eq 5, 3) := by decide +kernel
theorem dX5_areHeights_28 : decode cX5_areHeights 28 = .ok (.iconst 0, 1) := by decide +kernel
theorem dX5_areHeights_29 : decode cX5_areHeights 29 = .ok (.ireturn, 1) := by decide +kernel
theorem dX5_areHeights_30 : decode cX5_areHeights 30 = .ok (.iinc 3 1, 3) := by decide +kernel
theorem dX5_areHeights_33 : decode cX5_areHeights 33 = .ok (.goto (-31), 3) := by decide +kernel
theorem dX5_areHeights_36 : decode cX5_areHeights 36 = .ok (.iconst 1, 1) := by decide +kernel
theorem dX5_areHeights_37 : decode cX5_areHeights 37 = .ok (.ireturn, 1) := by decide +kernel
theorem dX6_init_0 : decode cX6_init 0 = .ok (.aload_n 0, 1) := by decide +kernel
theorem dX6_init_1 : decode cX6_init 1 = .ok (.invokespecial 3, 3) := by decide +kernel
theorem dX6_init_4 : decode cX6_init 4 = .ok (.aload_n 0, 1) := by decide +kernel
theorem dX6_init_5 : decode cX6_init 5 = .ok (.new 9, 3) := by decide +kernel
theorem dX6_init_8 : decode cX6_init 8 = .ok (.dup, 1) := by decide +kernel
theorem dX6_init_9 : decode cX6_init 9 = .ok (.invokespecial 11, 3) := by decide +kernel
theorem dX6_init_12 : decode cX6_init 12 = .ok (.putfield 12, 3) := by decide +kernel
theorem dX6_init_15 : decode cX6_init 15 = .ok (.aload_n 0, 1) := by decide +kernel
theorem dX6_init_16 : decode cX6_init 16 = .ok (.iconst 2, 1) := by decide +kernel
theorem dX6_init_17 : decode cX6_init 17 = .ok (.newarray .int, 2) := by decide +kernel
theorem dX6_init_19 : decode cX6_init 19 = .ok (.putfield 18, 3) := by decide +kernel
theorem dX6_init_22 : decode cX6_init 22 = .ok (.aload_n 0, 1) := by decide +kernel
theorem dX6_init_23 : decode cX6_init 23 = .ok (.iconst 2, 1) := by decide +kernel
theorem dX6_init_24 : decode cX6_init 24 = .ok (.newarray .int, 2) := by decide +kernel
theorem dX6_init_26 : decode cX6_init 26 = .ok (.putfield 22, 3) := by decide +kernel
theorem dX6_init_29 : decode cX6_init 29 = .ok (.aload_n 0, 1) := by decide +kernel
theorem dX6_init_30 : decode cX6_init 30 = .ok (.iconst 2, 1) := by decide +kernel
theorem dX6_init_31 : decode cX6_init 31 = .ok (.newarray .int, 2) := by decide +kernel
theorem dX6_init_33 : decode cX6_init 33 = .ok (.putfield 25, 3) := by decide +kernel
theorem dX6_init_36 : decode cX6_init 36 = .ok (.aload_n 0, 1) := by decide +kernel
theorem dX6_init_37 : decode cX6_init 37 = .ok (.bipush 99, 2) := by decide +kernel
theorem dX6_init_39 : decode cX6_init 39 = .ok (.newarray .int, 2) := by decide +kernel
theorem dX6_init_41 : decode cX6_init 41 = .ok (.putfield 28, 3) := by decide +kernel
theorem dX6_init_44 : decode cX6_init 44 = .ok (.return_, 1) := by decide +kernel
theorem dX6_start_0 : decode cX6_start 0 = .ok (.aload_n 0, 1) := by decide +kernel
theorem dX6_start_1 : decode cX6_start 1 = .ok (.getfield 12, 3) := by decide +kernel
theorem dX6_start_4 : decode cX6_start 4 = .ok (.aload_n 1, 1) := by decide +kernel
theorem dX6_start_5 : decode cX6_start 5 = .ok (.invokevirtual 31, 3) := by decide +kernel
theorem dX6_start_8 : decode cX6_start 8 = .ok (.aload_n 0, 1) := by decide +kernel
theorem dX6_start_9 : decode cX6_start 9 = .ok (.getfield 12, 3) := by decide +kernel
theorem dX6_start_12 : decode cX6_start 12 = .ok (.iload_n 2, 1) := by decide +kernel
theorem dX6_start_13 : decode cX6_start 13 = .ok (.invokevirtual 35, 3) := by decide +kernel
theorem dX6_start_16 : decode cX6_start 16 = .ok (.aload_n 0, 1) := by decide +kernel
theorem dX6_start_17 : decode cX6_start 17 = .ok (.getfield 12, 3) := by decide +kernel
theorem dX6_start_20 : decode cX6_start 20 = .ok (.iload_n 3, 1) := by decide +kernel
theorem dX6_start_21 : decode cX6_start 21 = .ok (.putfield 39, 3) := by decide +kernel
theorem dX6_start_24 : decode cX6_start 24 = .ok (.aload_n 0, 1) := by decide +kernel
theorem dX6_start_25 : decode cX6_start 25 = .ok (.getfield 28, 3) := by decide +kernel
theorem dX6_start_28 : decode cX6_start 28 = .ok (.iconst (-1), 1) := by decide +kernel
theorem dX6_start_29 : decode cX6_start 29 = .ok (.invokestatic 43, 3) := by decide +kernel
theorem dX6_start_32 : decode cX6_start 32 = .ok (.aload_n 0, 1) := by decide +kernel
theorem dX6_start_33 : decode cX6_start 33 = .ok (.iconst 0, 1) := by decide +kernel
theorem dX6_start_34 : decode cX6_start 34 = .ok (.putfield 49, 3) := by decide +kernel
theorem dX6_start_37 : decode cX6_start 37 = .ok (.return_, 1) := by decide +kernel
theorem dX6_watchFlag_0 : decode cX6_watchFlag 0 = .ok (.aload_n 1, 1) := by decide +kernel
theorem dX6_watchFlag_1 : decode cX6_watchFlag 1 = .ok (.getfield 52, 3) := by decide +kernel
theorem dX6_watchFlag_4 : decode cX6_watchFlag 4 = .ok (.iload_n 2, 1) := by decide +kernel
theorem dX6_watchFlag_5 : decode cX6_watchFlag 5 = .ok (.iaload, 1) := by decide +kernel
theorem dX6_watchFlag_6 : decode cX6_watchFlag 6 = .ok (.istore_n 3, 1) := by decide +kernel
theorem dX6_watchFlag_7 : decode cX6_watchFlag 7 = .ok (.aload_n 0, 1) := by decide +kernel
theorem dX6_watchFlag_8 : decode cX6_watchFlag 8 = .ok (.getfield 12, 3) := by decide +kernel
theorem dX6_watchFlag_11 : decode cX6_watchFlag 11 = .ok (.getfield 57, 3) := by decide +kernel
theorem dX6_watchFlag_14 : decode cX6_watchFlag 14 = .ok (.iload_n 2, 1) := by decide +kernel
theorem dX6_watchFlag_15 : decode cX6_watchFlag 15 = .ok (.iaload, 1) := by decide +kernel
theorem dX6_watchFlag_16 : decode cX6_watchFlag 16 = .ok (.iconst (-1), 1) := by decide +kernel
theorem dX6_watchFlag_17 : decode cX6_watchFlag 17 = .ok (.if_icmp .eq 7, 3) := by decide +kernel
theorem dX6_watchFlag_20 : decode cX6_watchFlag 20 = .ok (.iconst 1, 1) := by decide +kernel
theorem dX6_watchFlag_21 : decode cX6_watchFlag 21 = .ok (.goto 4, 3) := by decide +kernel
theorem dX6_watchFlag_24 : decode cX6_watchFlag 24 = .ok (.iconst 0, 1) := by decide +kernel
theorem dX6_watchFlag_25 : decode cX6_watchFlag 25 = .ok (.istore 4, 2) := by decide +kernel
theorem dX6_watchFlag_27 : decode cX6_watchFlag 27 = .ok (.aload_n 0, 1) := by decide +kernel
theorem dX6_watchFlag_28 : decode cX6_watchFlag 28 = .ok (.iload_n 3, 1) := by decide +kernel
theorem dX6_watchFlag_29 : decode cX6_watchFlag 29 = .ok (.iload 4, 2) := by decide +kernel
theorem dX6_watchFlag_31 : decode cX6_watchFlag 31 = .ok (.ifCond .eq 8, 3) := by decide +kernel
theorem dX6_watchFlag_34 : decode cX6_watchFlag 34 = .ok (.ldc 60, 2) := by decide +kernel
theorem dX6_watchFlag_36 : decode cX6_watchFlag 36 = .ok (.goto 13, 3) := by decide +kernel
theorem dX6_watchFlag_39 : decode cX6_watchFlag 39 = .ok (.aload_n 1, 1) := by decide +kernel
theorem dX6_watchFlag_40 : decode cX6_watchFlag 40 = .ok (.iload_n 3, 1) := by decide +kernel
theorem dX6_watchFlag_41 : decode cX6_watchFlag 41 = .ok (.invokevirtual 61, 3) := by decide +kernel
theorem dX6_watchFlag_44 : decode cX6_watchFlag 44 = .ok (.aload_n 1, 1) := by decide +kernel
theorem dX6_watchFlag_45 : decode cX6_watchFlag 45 = .ok (.invokevirtual 65, 3) := by decide +kernel
theorem dX6_watchFlag_48 : decode cX6_watchFlag 48 = .ok (.isub, 1) := by decide +kernel
theorem dX6_watchFlag_49 : decode cX6_watchFlag 49 = .ok (.invokevirtual 69, 3) := by decide +kernel
theorem dX6_watchFlag_52 : decode cX6_watchFlag 52 = .ok (.return_, 1) := by decide +kernel
theorem dX6_watch_0 : decode cX6_watch 0 = .ok (.aload_n 0, 1) := by decide +kernel
theorem dX6_watch_1 : decode cX6_watch 1 = .ok (.getfield 49, 3) := by decide +kernel
theorem dX6_watch_4 : decode cX6_watch 4 = .ok (.iconst 2, 1) := by decide +kernel
theorem dX6_watch_5 : decode cX6_watch 5 = .ok (.if_icmp .ge 33, 3) := by decide +kernel
theorem dX6_watch_8 : decode cX6_watch 8 = .ok (.aload_n 0, 1) := by decide +kernel
theorem dX6_watch_9 : decode cX6_watch 9 = .ok (.getfield 22, 3) := by decide +kernel
theorem dX6_watch_12 : decode cX6_watch 12 = .ok (.aload_n 0, 1) := by decide +kernel
theorem dX6_watch_13 : decode cX6_watch 13 = .ok (.getfield 49, 3) := by decide +kernel
theorem dX6_watch_16 : decode cX6_watch 16 = .ok (.iload_n 1, 1) := by decide +kernel
theorem dX6_watch_17 : decode cX6_watch 17 = .ok (.iastore, 1) := by decide +kernel
theorem dX6_watch_18 : decode cX6_watch 18 = .ok (.aload_n 0, 1) := by decide +kernel
theorem dX6_watch_19 : decode cX6_watch 19 = .ok (.getfield 25, 3) := by decide +kernel
theorem dX6_watch_22 : decode cX6_watch 22 = .ok (.aload_n 0, 1) := by decide +kernel
theorem dX6_watch_23 : decode cX6_watch 23 = .ok (.getfield 49, 3) := by decide +kernel
theorem dX6_watch_26 : decode cX6_watch 26 = .ok (.iload_n 2, 1) := by decide +kernel
theorem dX6_watch_27 : decode cX6_watch 27 = .ok (.iastore, 1) := by decide +kernel
theorem dX6_watch_28 : decode cX6_watch 28 = .ok (.aload_n 0, 1) := by decide +kernel
theorem dX6_watch_29 : decode cX6_watch 29 = .ok (.dup, 1) := by decide +kernel
theorem dX6_watch_30 : decode cX6_watch 30 = .ok (.getfield 49, 3) := by decide +kernel
theorem dX6_watch_33 : decode cX6_watch 33 = .ok (.iconst 1, 1) := by decide +kernel
theorem dX6_watch_34 : decode cX6_watch 34 = .ok (.iadd, 1) := by decide +kernel
theorem dX6_watch_35 : decode cX6_watch 35 = .ok (.putfield 49, 3) := by decide +kernel
theorem dX6_watch_38 : decode cX6_watch 38 = .ok (.return_, 1) := by decide +kernel
theorem dX6_setWork_0 : decode cX6_setWork 0 = .ok (.iload_n 1, 1) := by decide +kernel
theorem dX6_setWork_1 : decode cX6_setWork 1 = .ok (.ifCond .lt 16, 3) := by decide +kernel
theorem dX6_setWork_4 : decode cX6_setWork 4 = .ok (.iload_n 1, 1) := by decide +kernel
theorem dX6_setWork_5 : decode cX6_setWork 5 = .ok (.bipush 99, 2) := by decide +kernel
theorem dX6_setWork_7 : decode cX6_setWork 7 = .ok (.if_icmp .ge 10, 3) := by decide +kernel
theorem dX6_setWork_10 : decode cX6_setWork 10 = .ok (.aload_n 0, 1) := by decide +kernel
theorem dX6_setWork_11 : decode cX6_setWork 11 = .ok (.getfield 28, 3) := by decide +kernel
theorem dX6_setWork_14 : decode cX6_setWork 14 = .ok (.iload_n 1, 1) := by decide +kernel
theorem dX6_setWork_15 : decode cX6_setWork 15 = .ok (.iload_n 2, 1) := by decide +kernel
theorem dX6_setWork_16 : decode cX6_setWork 16 = .ok (.iastore, 1) := by decide +kernel
theorem dX6_setWork_17 : decode cX6_setWork 17 = .ok (.return_, 1) := by decide +kernel
theorem dX6_run_0 : decode cX6_run 0 = .ok (.aload_n 0, 1) := by decide +kernel
theorem dX6_run_1 : decode cX6_run 1 = .ok (.aload_n 0, 1) := by decide +kernel
theorem dX6_run_2 : decode cX6_run 2 = .ok (.getfield 49, 3) := by decide +kernel
theorem dX6_run_5 : decode cX6_run 5 = .ok (.putfield 73, 3) := by decide +kernel
theorem dX6_run_8 : decode cX6_run 8 = .ok (.iconst 0, 1) := by decide +kernel
theorem dX6_run_9 : decode cX6_run 9 = .ok (.istore 5, 2) := by decide +kernel
theorem dX6_run_11 : decode cX6_run 11 = .ok (.iload 5, 2) := by decide +kernel
theorem dX6_run_13 : decode cX6_run 13 = .ok (.aload_n 0, 1) := by decide +kernel
theorem dX6_run_14 : decode cX6_run 14 = .ok (.getfield 49, 3) := by decide +kernel
theorem dX6_run_17 : decode cX6_run 17 = .ok (.if_icmp .ge 17, 3) := by decide +kernel
theorem dX6_run_20 : decode cX6_run 20 = .ok (.aload_n 0, 1) := by decide +kernel
theorem dX6_run_21 : decode cX6_run 21 = .ok (.getfield 18, 3) := by decide +kernel
theorem dX6_run_24 : decode cX6_run 24 = .ok (.iload 5, 2) := by decide +kernel
theorem dX6_run_26 : decode cX6_run 26 = .ok (.iconst (-1), 1) := by decide +kernel
theorem dX6_run_27 : decode cX6_run 27 = .ok (.iastore, 1) := by decide +kernel
theorem dX6_run_28 : decode cX6_run 28 = .ok (.iinc 5 1, 3) := by decide +kernel
theorem dX6_run_31 : decode cX6_run 31 = .ok (.goto (-20), 3) := by decide +kernel
theorem dX6_run_34 : decode cX6_run 34 = .ok (.iconst 0, 1) := by decide +kernel
theorem dX6_run_35 : decode cX6_run 35 = .ok (.istore 5, 2) := by decide +kernel
theorem dX6_run_37 : decode cX6_run 37 = .ok (.iload 5, 2) := by decide +kernel
theorem dX6_run_39 : decode cX6_run 39 = .ok (.iload 4, 2) := by decide +kernel
theorem dX6_run_41 : decode cX6_run 41 = .ok (.if_icmp .ge 69, 3) := by decide +kernel
theorem dX6_run_44 : decode cX6_run 44 = .ok (.aload_n 0, 1) := by decide +kernel
theorem dX6_run_45 : decode cX6_run 45 = .ok (.getfield 49, 3) := by decide +kernel
theorem dX6_run_48 : decode cX6_run 48 = .ok (.ifCond .eq 10, 3) := by decide +kernel
theorem dX6_run_51 : decode cX6_run 51 = .ok (.aload_n 0, 1) := by decide +kernel
theorem dX6_run_52 : decode cX6_run 52 = .ok (.getfield 73, 3) := by decide +kernel
theorem dX6_run_55 : decode cX6_run 55 = .ok (.ifCond .le 55, 3) := by decide +kernel
theorem dX6_run_58 : decode cX6_run 58 = .ok (.iload 5, 2) := by decide +kernel
theorem dX6_run_60 : decode cX6_run 60 = .ok (.bipush 99, 2) := by decide +kernel
theorem dX6_run_62 : decode cX6_run 62 = .ok (.if_icmp .ge 26, 3) := by decide +kernel
theorem dX6_run_65 : decode cX6_run 65 = .ok (.aload_n 0, 1) := by decide +kernel
theorem dX6_run_66 : decode cX6_run 66 = .ok (.getfield 28, 3) := by decide +kernel
theorem dX6_run_69 : decode cX6_run 69 = .ok (.iload 5, 2) := by decide +kernel
theorem dX6_run_71 : decode cX6_run 71 = .ok (.iaload, 1) := by decide +kernel
theorem dX6_run_72 : decode cX6_run 72 = .ok (.iconst (-1), 1) := by decide +kernel
theorem dX6_run_73 : decode cX6_run 73 = .ok (.if_icmp .eq 15, 3) := by decide +kernel
theorem dX6_run_76 : decode cX6_run 76 = .ok (.aload_n 0, 1) := by decide +kernel
theorem dX6_run_77 : decode cX6_run 77 = .ok (.aload_n 1, 1) := by decide +kernel
theorem dX6_run_78 : decode cX6_run 78 = .ok (.aload_n 0, 1) := by decide +kernel
theorem dX6_run_79 : decode cX6_run 79 = .ok (.getfield 28, 3) := by decide +kernel
theorem dX6_run_82 : decode cX6_run 82 = .ok (.iload 5, 2) := by decide +kernel
theorem dX6_run_84 : decode cX6_run 84 = .ok (.iaload, 1) := by decide +kernel
theorem dX6_run_85 : decode cX6_run 85 = .ok (.invokevirtual 76, 3) := by decide +kernel
theorem dX6_run_88 : decode cX6_run 88 = .ok (.aload_n 0, 1) := by decide +kernel
theorem dX6_run_89 : decode cX6_run 89 = .ok (.getfield 12, 3) := by decide +kernel
theorem dX6_run_92 : decode cX6_run 92 = .ok (.aload_n 1, 1) := by decide +kernel
theorem dX6_run_93 : decode cX6_run 93 = .ok (.aload_n 2, 1) := by decide +kernel
theorem dX6_run_94 : decode cX6_run 94 = .ok (.aload_n 3, 1) := by decide +kernel
theorem dX6_run_95 : decode cX6_run 95 = .ok (.invokevirtual 80, 3) := by decide +kernel
theorem dX6_run_98 : decode cX6_run 98 = .ok (.aload_n 0, 1) := by decide +kernel
theorem dX6_run_99 : decode cX6_run 99 = .ok (.iload 5, 2) := by decide +kernel
theorem dX6_run_101 : decode cX6_run 101 = .ok (.invokevirtual 84, 3) := by decide +kernel
theorem dX6_run_104 : decode cX6_run 104 = .ok (.iinc 5 1, 3) := by decide +kernel
theorem dX6_run_107 : decode cX6_run 107 = .ok (.goto (-70), 3) := by decide +kernel
theorem dX6_run_110 : decode cX6_run 110 = .ok (.iconst 0, 1) := by decide +kernel
theorem dX6_run_111 : decode cX6_run 111 = .ok (.istore 5, 2) := by decide +kernel
theorem dX6_run_113 : decode cX6_run 113 = .ok (.iload 5, 2) := by decide +kernel
theorem dX6_run_115 : decode cX6_run 115 = .ok (.aload_n 0, 1) := by decide +kernel
theorem dX6_run_116 : decode cX6_run 116 = .ok (.getfield 49, 3) := by decide +kernel
theorem dX6_run_119 : decode cX6_run 119 = .ok (.if_icmp .ge 29, 3) := by decide +kernel
theorem dX6_run_122 : decode cX6_run 122 = .ok (.aload_n 0, 1) := by decide +kernel
theorem dX6_run_123 : decode cX6_run 123 = .ok (.getfield 18, 3) := by decide +kernel
theorem dX6_run_126 : decode cX6_run 126 = .ok (.iload 5, 2) := by decide +kernel
theorem dX6_run_128 : decode cX6_run 128 = .ok (.iaload, 1) := by decide +kernel
theorem dX6_run_129 : decode cX6_run 129 = .ok (.iconst (-1), 1) := by decide +kernel
theorem dX6_run_130 : decode cX6_run 130 = .ok (.if_icmp .ne 12, 3) := by decide +kernel
theorem dX6_run_133 : decode cX6_run 133 = .ok (.aload_n 0, 1) := by decide +kernel
theorem dX6_run_134 : decode cX6_run 134 = .ok (.getfield 18, 3) := by decide +kernel
theorem dX6_run_137 : decode cX6_run 137 = .ok (.iload 5, 2) := by decide +kernel
theorem dX6_run_139 : decode cX6_run 139 = .ok (.iload 4, 2) := by decide +kernel
theorem dX6_run_141 : decode cX6_run 141 = .ok (.iastore, 1) := by decide +kernel
theorem dX6_run_142 : decode cX6_run 142 = .ok (.iinc 5 1, 3) := by decide +kernel
theorem dX6_run_145 : decode cX6_run 145 = .ok (.goto (-32), 3) := by decide +kernel
theorem dX6_run_148 : decode cX6_run 148 = .ok (.return_, 1) := by decide +kernel
theorem dX6_doWork_0 : decode cX6_doWork 0 = .ok (.aload_n 0, 1) := by decide +kernel
theorem dX6_doWork_1 : decode cX6_doWork 1 = .ok (.getfield 22, 3) := by decide +kernel
theorem dX6_doWork_4 : decode cX6_doWork 4 = .ok (.iconst 0, 1) := by decide +kernel
theorem dX6_doWork_5 : decode cX6_doWork 5 = .ok (.iaload, 1) := by decide +kernel
theorem dX6_doWork_6 : decode cX6_doWork 6 = .ok (.istore_n 3, 1) := by decide +kernel
theorem dX6_doWork_7 : decode cX6_doWork 7 = .ok (.iload_n 3, 1) := by decide +kernel
theorem dX6_doWork_8 : decode cX6_doWork 8 = .ok (.aload_n 1, 1) := by decide +kernel
theorem dX6_doWork_9 : decode cX6_doWork 9 = .ok (.invokevirtual 87, 3) := by decide +kernel
theorem dX6_doWork_12 : decode cX6_doWork 12 = .ok (.isub, 1) := by decide +kernel
theorem dX6_doWork_13 : decode cX6_doWork 13 = .ok (.istore 4, 2) := by decide +kernel
theorem dX6_doWork_15 : decode cX6_doWork 15 = .ok (.iload_n 3, 1) := by decide +kernel
theorem dX6_doWork_16 : decode cX6_doWork 16 = .ok (.aload_n 1, 1) := by decide +kernel
theorem dX6_doWork_17 : decode cX6_doWork 17 = .ok (.invokevirtual 87, 3) := by decide +kernel
theorem dX6_doWork_20 : decode cX6_doWork 20 = .ok (.iadd, 1) := by decide +kernel
theorem dX6_doWork_21 : decode cX6_doWork 21 = .ok (.istore 5, 2) := by decide +kernel
theorem dX6_doWork_23 : decode cX6_doWork 23 = .ok (.iload_n 2, 1) := by decide +kernel
theorem dX6_doWork_24 : decode cX6_doWork 24 = .ok (.iconst 3, 1) := by decide +kernel
theorem dX6_doWork_25 : decode cX6_doWork 25 = .ok (.if_icmp .ne 16, 3) := by decide +kernel
theorem dX6_doWork_28 : decode cX6_doWork 28 = .ok (.aload_n 0, 1) := by decide +kernel
theorem dX6_doWork_29 : decode cX6_doWork 29 = .ok (.getfield 12, 3) := by decide +kernel
theorem dX6_doWork_32 : decode cX6_doWork 32 = .ok (.iconst 2, 1) := by decide +kernel
theorem dX6_doWork_33 : decode cX6_doWork 33 = .ok (.iload_n 3, 1) := by decide +kernel
theorem dX6_doWork_34 : decode cX6_doWork 34 = .ok (.iconst (-1), 1) := by decide +kernel
theorem dX6_doWork_35 : decode cX6_doWork 35 = .ok (.invokevirtual 90, 3) := by decide +kernel
theorem dX6_doWork_38 : decode cX6_doWork 38 = .ok (.goto 75, 3) := by decide +kernel
theorem dX6_doWork_41 : decode cX6_doWork 41 = .ok (.iload_n 2, 1) := by decide +kernel
theorem dX6_doWork_42 : decode cX6_doWork 42 = .ok (.iconst 2, 1) := by decide +kernel
theorem dX6_doWork_43 : decode cX6_doWork 43 = .ok (.if_icmp .ne 26, 3) := by decide +kernel
theorem dX6_doWork_46 : decode cX6_doWork 46 = .ok (.iload 5, 2) := by decide +kernel
theorem dX6_doWork_48 : decode cX6_doWork 48 = .ok (.aload_n 1, 1) := by decide +kernel
theorem dX6_doWork_49 : decode cX6_doWork 49 = .ok (.invokevirtual 94, 3) := by decide +kernel
theorem dX6_doWork_52 : decode cX6_doWork 52 = .ok (.if_icmp .ge 17, 3) := by decide +kernel
theorem dX6_doWork_55 : decode cX6_doWork 55 = .ok (.aload_n 0, 1) := by decide +kernel
theorem dX6_doWork_56 : decode cX6_doWork 56 = .ok (.getfield 12, 3) := by decide +kernel
theorem dX6_doWork_59 : decode cX6_doWork 59 = .ok (.iconst 0, 1) := by decide +kernel
theorem dX6_doWork_60 : decode cX6_doWork 60 = .ok (.iload 5, 2) := by decide +kernel
theorem dX6_doWork_62 : decode cX6_doWork 62 = .ok (.iload_n 3, 1) := by decide +kernel
theorem dX6_doWork_63 : decode cX6_doWork 63 = .ok (.invokevirtual 90, 3) := by decide +kernel
theorem dX6_doWork_66 : decode cX6_doWork 66 = .ok (.goto 47, 3) := by decide +kernel
theorem dX6_doWork_69 : decode cX6_doWork 69 = .ok (.iload_n 2, 1) := by decide +kernel
theorem dX6_doWork_70 : decode cX6_doWork 70 = .ok (.iconst 1, 1) := by decide +kernel
theorem dX6_doWork_71 : decode cX6_doWork 71 = .ok (.if_icmp .ne 22, 3) := by decide +kernel
theorem dX6_doWork_74 : decode cX6_doWork 74 = .ok (.iload 4, 2) := by decide +kernel
theorem dX6_doWork_76 : decode cX6_doWork 76 = .ok (.ifCond .lt 17, 3) := by decide +kernel
theorem dX6_doWork_79 : decode cX6_doWork 79 = .ok (.aload_n 0, 1) := by decide +kernel
theorem dX6_doWork_80 : decode cX6_doWork 80 = .ok (.getfield 12, 3) := by decide +kernel
theorem dX6_doWork_83 : decode cX6_doWork 83 = .ok (.iconst 0, 1) := by decide +kernel
theorem dX6_doWork_84 : decode cX6_doWork 84 = .ok (.iload 4, 2) := by decide +kernel
theorem dX6_doWork_86 : decode cX6_doWork 86 = .ok (.iload_n 3, 1) := by decide +kernel
theorem dX6_doWork_87 : decode cX6_doWork 87 = .ok (.invokevirtual 90, 3) := by decide +kernel
theorem dX6_doWork_90 : decode cX6_doWork 90 = .ok (.goto 23, 3) := by decide +kernel
theorem dX6_doWork_93 : decode cX6_doWork 93 = .ok (.iload_n 2, 1) := by decide +kernel
theorem dX6_doWork_94 : decode cX6_doWork 94 = .ok (.ifCond .ne 19, 3) := by decide +kernel
theorem dX6_doWork_97 : decode cX6_doWork 97 = .ok (.iload 4, 2) := by decide +kernel
theorem dX6_doWork_99 : decode cX6_doWork 99 = .ok (.ifCond .lt 14, 3) := by decide +kernel
theorem dX6_doWork_102 : decode cX6_doWork 102 = .ok (.aload_n 0, 1) := by decide +kernel
theorem dX6_doWork_103 : decode cX6_doWork 103 = .ok (.getfield 12, 3) := by decide +kernel
theorem dX6_doWork_106 : decode cX6_doWork 106 = .ok (.iconst 3, 1) := by decide +kernel
theorem dX6_doWork_107 : decode cX6_doWork 107 = .ok (.iload 4, 2) := by decide +kernel
theorem dX6_doWork_109 : decode cX6_doWork 109 = .ok (.iconst (-1), 1) := by decide +kernel
theorem dX6_doWork_110 : decode cX6_doWork 110 = .ok (.invokevirtual 90, 3) := by decide +kernel
theorem dX6_doWork_113 : decode cX6_doWork 113 = .ok (.return_, 1) := by decide +kernel
theorem dX6_lookAtFlags_0 : decode cX6_lookAtFlags 0 = .ok (.iconst 0, 1) := by decide +kernel
theorem dX6_lookAtFlags_1 : decode cX6_lookAtFlags 1 = .ok (.istore_n 2, 1) := by decide +kernel
theorem dX6_lookAtFlags_2 : decode cX6_lookAtFlags 2 = .ok (.iload_n 2, 1) := by decide +kernel
theorem dX6_lookAtFlags_3 : decode cX6_lookAtFlags 3 = .ok (.aload_n 0, 1) := by decide +kernel
theorem dX6_lookAtFlags_4 : decode cX6_lookAtFlags 4 = .ok (.getfield 49, 3) := by decide +kernel
theorem dX6_lookAtFlags_7 : decode cX6_lookAtFlags 7 = .ok (.if_icmp .ge 59, 3) := by decide +kernel
theorem dX6_lookAtFlags_10 : decode cX6_lookAtFlags 10 = .ok (.aload_n 0, 1) := by decide +kernel
theorem dX6_lookAtFlags_11 : decode cX6_lookAtFlags 11 = .ok (.getfield 18, 3) := by decide +kernel
theorem dX6_lookAtFlags_14 : decode cX6_lookAtFlags 14 = .ok (.iload_n 2, 1) := by decide +kernel
theorem dX6_lookAtFlags_15 : decode cX6_lookAtFlags 15 = .ok (.iaload, 1) := by decide +kernel
theorem dX6_lookAtFlags_16 : decode cX6_lookAtFlags 16 = .ok (.iconst (-1), 1) := by decide +kernel
theorem dX6_lookAtFlags_17 : decode cX6_lookAtFlags 17 = .ok (.if_icmp .ne 43, 3) := by decide +kernel
theorem dX6_lookAtFlags_20 : decode cX6_lookAtFlags 20 = .ok (.aload_n 0, 1) := by decide +kernel
theorem dX6_lookAtFlags_21 : decode cX6_lookAtFlags 21 = .ok (.getfield 12, 3) := by decide +kernel
theorem dX6_lookAtFlags_24 : decode cX6_lookAtFlags 24 = .ok (.getfield 97, 3) := by decide +kernel
theorem dX6_lookAtFlags_27 : decode cX6_lookAtFlags 27 = .ok (.aload_n 0, 1) := by decide +kernel
theorem dX6_lookAtFlags_28 : decode cX6_lookAtFlags 28 = .ok (.getfield 22, 3) := by decide +kernel
theorem dX6_lookAtFlags_31 : decode cX6_lookAtFlags 31 = .ok (.iload_n 2, 1) := by decide +kernel
theorem dX6_lookAtFlags_32 : decode cX6_lookAtFlags 32 = .ok (.iaload, 1) := by decide +kernel
theorem dX6_lookAtFlags_33 : decode cX6_lookAtFlags 33 = .ok (.iaload, 1) := by decide +kernel
theorem dX6_lookAtFlags_34 : decode cX6_lookAtFlags 34 = .ok (.aload_n 0, 1) := by decide +kernel
theorem dX6_lookAtFlags_35 : decode cX6_lookAtFlags 35 = .ok (.getfield 25, 3) := by decide +kernel
theorem dX6_lookAtFlags_38 : decode cX6_lookAtFlags 38 = .ok (.iload_n 2, 1) := by decide +kernel
theorem dX6_lookAtFlags_39 : decode cX6_lookAtFlags 39 = .ok (.iaload, 1) := by decide +kernel
theorem dX6_lookAtFlags_40 : decode cX6_lookAtFlags 40 = .ok (.if_icmp .ge 20, 3) := by decide +kernel
theorem dX6_lookAtFlags_43 : decode cX6_lookAtFlags 43 = .ok (.aload_n 0, 1) := by decide +kernel
theorem dX6_lookAtFlags_44 : decode cX6_lookAtFlags 44 = .ok (.getfield 18, 3) := by decide +kernel
theorem dX6_lookAtFlags_47 : decode cX6_lookAtFlags 47 = .ok (.iload_n 2, 1) := by decide +kernel
theorem dX6_lookAtFlags_48 : decode cX6_lookAtFlags 48 = .ok (.iload_n 1, 1) := by decide +kernel
theorem dX6_lookAtFlags_49 : decode cX6_lookAtFlags 49 = .ok (.iastore, 1) := by decide +kernel
theorem dX6_lookAtFlags_50 : decode cX6_lookAtFlags 50 = .ok (.aload_n 0, 1) := by decide +kernel
theorem dX6_lookAtFlags_51 : decode cX6_lookAtFlags 51 = .ok (.dup, 1) := by decide +kernel
theorem dX6_lookAtFlags_52 : decode cX6_lookAtFlags 52 = .ok (.getfield 73, 3) := by decide +kernel
theorem dX6_lookAtFlags_55 : decode cX6_lookAtFlags 55 = .ok (.iconst 1, 1) := by decide +kernel
theorem dX6_lookAtFlags_56 : decode cX6_lookAtFlags 56 = .ok (.isub, 1) := by decide +kernel
theorem dX6_lookAtFlags_57 : decode cX6_lookAtFlags 57 = .ok (.putfield 73, 3) := by decide +kernel
theorem dX6_lookAtFlags_60 : decode cX6_lookAtFlags 60 = .ok (.iinc 2 1, 3) := by decide +kernel
theorem dX6_lookAtFlags_63 : decode cX6_lookAtFlags 63 = .ok (.goto (-61), 3) := by decide +kernel
theorem dX6_lookAtFlags_66 : decode cX6_lookAtFlags 66 = .ok (.return_, 1) := by decide +kernel
theorem dX7_init_0 : decode cX7_init 0 = .ok (.aload_n 0, 1) := by decide +kernel
theorem dX7_init_1 : decode cX7_init 1 = .ok (.invokespecial 5, 3) := by decide +kernel
theorem dX7_init_4 : decode cX7_init 4 = .ok (.aload_n 0, 1) := by decide +kernel
theorem dX7_init_5 : decode cX7_init 5 = .ok (.bipush 16, 2) := by decide +kernel
theorem dX7_init_7 : decode cX7_init 7 = .ok (.newarray .int, 2) := by decide +kernel
theorem dX7_init_9 : decode cX7_init 9 = .ok (.putfield 11, 3) := by decide +kernel
theorem dX7_init_12 : decode cX7_init 12 = .ok (.aload_n 0, 1) := by decide +kernel
theorem dX7_init_13 : decode cX7_init 13 = .ok (.bipush 16, 2) := by decide +kernel
theorem dX7_init_15 : decode cX7_init 15 = .ok (.newarray .int, 2) := by decide +kernel
theorem dX7_init_17 : decode cX7_init 17 = .ok (.putfield 15, 3) := by decide +kernel
theorem dX7_init_20 : decode cX7_init 20 = .ok (.aload_n 0, 1) := by decide +kernel
theorem dX7_init_21 : decode cX7_init 21 = .ok (.bipush 16, 2) := by decide +kernel
theorem dX7_init_23 : decode cX7_init 23 = .ok (.newarray .int, 2) := by decide +kernel
theorem dX7_init_25 : decode cX7_init 25 = .ok (.putfield 18, 3) := by decide +kernel
theorem dX7_init_28 : decode cX7_init 28 = .ok (.aload_n 0, 1) := by decide +kernel
theorem dX7_init_29 : decode cX7_init 29 = .ok (.bipush 16, 2) := by decide +kernel
theorem dX7_init_31 : decode cX7_init 31 = .ok (.newarray .int, 2) := by decide +kernel
theorem dX7_init_33 : decode cX7_init 33 = .ok (.putfield 21, 3) := by decide +kernel
theorem dX7_init_36 : decode cX7_init 36 = .ok (.aload_n 0, 1) := by decide +kernel
theorem dX7_init_37 : decode cX7_init 37 = .ok (.bipush 20, 2) := by decide +kernel
theorem dX7_init_39 : decode cX7_init 39 = .ok (.newarray .int, 2) := by decide +kernel
theorem dX7_init_41 : decode cX7_init 41 = .ok (.putfield 24, 3) := by decide +kernel
theorem dX7_init_44 : decode cX7_init 44 = .ok (.aload_n 0, 1) := by decide +kernel
theorem dX7_init_45 : decode cX7_init 45 = .ok (.bipush 20, 2) := by decide +kernel
theorem dX7_init_47 : decode cX7_init 47 = .ok (.newarray .int, 2) := by decide +kernel
theorem dX7_init_49 : decode cX7_init 49 = .ok (.putfield 27, 3) := by decide +kernel
theorem dX7_init_52 : decode cX7_init 52 = .ok (.aload_n 0, 1) := by decide +kernel
theorem dX7_init_53 : decode cX7_init 53 = .ok (.bipush 20, 2) := by decide +kernel
theorem dX7_init_55 : decode cX7_init 55 = .ok (.newarray .int, 2) := by decide +kernel
theorem dX7_init_57 : decode cX7_init 57 = .ok (.putfield 30, 3) := by decide +kernel
theorem dX7_init_60 : decode cX7_init 60 = .ok (.aload_n 0, 1) := by decide +kernel
theorem dX7_init_61 : decode cX7_init 61 = .ok (.bipush 16, 2) := by decide +kernel
theorem dX7_init_63 : decode cX7_init 63 = .ok (.newarray .int, 2) := by decide +kernel
theorem dX7_init_65 : decode cX7_init 65 = .ok (.putfield 33, 3) := by decide +kernel
theorem dX7_init_68 : decode cX7_init 68 = .ok (.aload_n 0, 1) := by decide +kernel
theorem dX7_init_69 : decode cX7_init 69 = .ok (.sipush 336, 3) := by decide +kernel
theorem dX7_init_72 : decode cX7_init 72 = .ok (.newarray .int, 2) := by decide +kernel
theorem dX7_init_74 : decode cX7_init 74 = .ok (.putfield 36, 3) := by decide +kernel
theorem dX7_init_77 : decode cX7_init 77 = .ok (.return_, 1) := by decide +kernel
theorem dX7_isNextStep_0 : decode cX7_isNextStep 0 = .ok (.iload_n 1, 1) := by decide +kernel
theorem dX7_isNextStep_1 : decode cX7_isNextStep 1 = .ok (.aload_n 0, 1) := by decide +kernel
theorem dX7_isNextStep_2 : decode cX7_isNextStep 2 = .ok (.getfield 39, 3) := by decide +kernel
theorem dX7_isNextStep_5 : decode cX7_isNextStep 5 = .ok (.if_icmp .lt 14, 3) := by decide +kernel
theorem dX7_isNextStep_8 : decode cX7_isNextStep 8 = .ok (.iload_n 1, 1) := by decide +kernel
theorem dX7_isNextStep_9 : decode cX7_isNextStep 9 = .ok (.sipush 999, 3) := by decide +kernel
theorem dX7_isNextStep_12 : decode cX7_isNextStep 12 = .ok (.if_icmp .gt 7, 3) := by decide +kernel
theorem dX7_isNextStep_15 : decode cX7_isNextStep 15 = .ok (.iconst 1, 1) := by decide +kernel
theorem dX7_isNextStep_16 : decode cX7_isNextStep 16 = .ok (.goto 4, 3) := by decide +kernel
theorem dX7_isNextStep_19 : decode cX7_isNextStep 19 = .ok (.iconst 0, 1) := by decide +kernel
theorem dX7_isNextStep_20 : decode cX7_isNextStep 20 = .ok (.ireturn, 1) := by decide +kernel
theorem dX7_tell_0 : decode cX7_tell 0 = .ok (.aload_n 0, 1) := by decide +kernel
theorem dX7_tell_1 : decode cX7_tell 1 = .ok (.getfield 43, 3) := by decide +kernel
theorem dX7_tell_4 : decode cX7_tell 4 = .ok (.bipush 16, 2) := by decide +kernel
theorem dX7_tell_6 : decode cX7_tell 6 = .ok (.if_icmp .lt 6, 3) := by decide +kernel
theorem dX7_tell_9 : decode cX7_tell 9 = .ok (.bipush (-3), 2) := by decide +kernel
theorem dX7_tell_11 : decode cX7_tell 11 = .ok (.ireturn, 1) := by decide +kernel
theorem dX7_tell_12 : decode cX7_tell 12 = .ok (.aload_n 0, 1) := by decide +kernel
theorem dX7_tell_13 : decode cX7_tell 13 = .ok (.getfield 11, 3) := by decide +kernel
theorem dX7_tell_16 : decode cX7_tell 16 = .ok (.aload_n 0, 1) := by decide +kernel
theorem dX7_tell_17 : decode cX7_tell 17 = .ok (.getfield 43, 3) := by decide +kernel
theorem dX7_tell_20 : decode cX7_tell 20 = .ok (.iload_n 1, 1) := by decide +kernel
theorem dX7_tell_21 : decode cX7_tell 21 = .ok (.iastore, 1) := by decide +kernel
theorem dX7_tell_22 : decode cX7_tell 22 = .ok (.aload_n 0, 1) := by decide +kernel
theorem dX7_tell_23 : decode cX7_tell 23 = .ok (.getfield 15, 3) := by decide +kernel
theorem dX7_tell_26 : decode cX7_tell 26 = .ok (.aload_n 0, 1) := by decide +kernel
theorem dX7_tell_27 : decode cX7_tell 27 = .ok (.getfield 43, 3) := by decide +kernel
theorem dX7_tell_30 : decode cX7_tell 30 = .ok (.iload_n 2, 1) := by decide +kernel
theorem dX7_tell_31 : decode cX7_tell 31 = .ok (.iastore, 1) := by decide +kernel
theorem dX7_tell_32 : decode cX7_tell 32 = .ok (.aload_n 0, 1) := by decide +kernel
theorem dX7_tell_33 : decode cX7_tell 33 = .ok (.getfield 18, 3) := by decide +kernel
theorem dX7_tell_36 : decode cX7_tell 36 = .ok (.aload_n 0, 1) := by decide +kernel
theorem dX7_tell_37 : decode cX7_tell 37 = .ok (.getfield 43, 3) := by decide +kernel
theorem dX7_tell_40 : decode cX7_tell 40 = .ok (.iload_n 3, 1) := by decide +kernel
theorem dX7_tell_41 : decode cX7_tell 41 = .ok (.iastore, 1) := by decide +kernel
theorem dX7_tell_42 : decode cX7_tell 42 = .ok (.aload_n 0, 1) := by decide +kernel
theorem dX7_tell_43 : decode cX7_tell 43 = .ok (.getfield 21, 3) := by decide +kernel
theorem dX7_tell_46 : decode cX7_tell 46 = .ok (.aload_n 0, 1) := by decide +kernel
theorem dX7_tell_47 : decode cX7_tell 47 = .ok (.getfield 43, 3) := by decide +kernel
theorem dX7_tell_50 : decode cX7_tell 50 = .ok (.iload 4, 2) := by decide +kernel
theorem dX7_tell_52 : decode cX7_tell 52 = .ok (.iastore, 1) := by decide +kernel
theorem dX7_tell_53 : decode cX7_tell 53 = .ok (.aload_n 0, 1) := by decide +kernel
theorem dX7_tell_54 : decode cX7_tell 54 = .ok (.iload_n 1, 1) := by decide +kernel
theorem dX7_tell_55 : decode cX7_tell 55 = .ok (.putfield 39, 3) := by decide +kernel
theorem dX7_tell_58 : decode cX7_tell 58 = .ok (.aload_n 0, 1) := by decide +kernel
theorem dX7_tell_59 : decode cX7_tell 59 = .ok (.dup, 1) := by decide +kernel
theorem dX7_tell_60 : decode cX7_tell 60 = .ok (.getfield 43, 3) := by decide +kernel
theorem dX7_tell_63 : decode cX7_tell 63 = .ok (.iconst 1, 1) := by decide +kernel
theorem dX7_tell_64 : decode cX7_tell 64 = .ok (.iadd, 1) := by decide +kernel
theorem dX7_tell_65 : decode cX7_tell 65 = .ok (.putfield 43, 3) := by decide +kernel
theorem dX7_tell_68 : decode cX7_tell 68 = .ok (.aload_n 0, 1) := by decide +kernel
theorem dX7_tell_69 : decode cX7_tell 69 = .ok (.getfield 43, 3) := by decide +kernel
theorem dX7_tell_72 : decode cX7_tell 72 = .ok (.iconst 1, 1) := by decide +kernel
theorem dX7_tell_73 : decode cX7_tell 73 = .ok (.isub, 1) := by decide +kernel
theorem dX7_tell_74 : decode cX7_tell 74 = .ok (.ireturn, 1) := by decide +kernel
theorem dX7_putRight_0 : decode cX7_putRight 0 = .ok (.aload_n 0, 1) := by decide +kernel
theorem dX7_putRight_1 : decode cX7_putRight 1 = .ok (.getfield 46, 3) := by decide +kernel
theorem dX7_putRight_4 : decode cX7_putRight 4 = .ok (.bipush 20, 2) := by decide +kernel
theorem dX7_putRight_6 : decode cX7_putRight 6 = .ok (.if_icmp .lt 6, 3) := by decide +kernel
theorem dX7_putRight_9 : decode cX7_putRight 9 = .ok (.bipush (-3), 2) := by decide +kernel
theorem dX7_putRight_11 : decode cX7_putRight 11 = .ok (.ireturn, 1) := by decide +kernel
theorem dX7_putRight_12 : decode cX7_putRight 12 = .ok (.aload_n 0, 1) := by decide +kernel
theorem dX7_putRight_13 : decode cX7_putRight 13 = .ok (.getfield 24, 3) := by decide +kernel
theorem dX7_putRight_16 : decode cX7_putRight 16 = .ok (.aload_n 0, 1) := by decide +kernel
theorem dX7_putRight_17 : decode cX7_putRight 17 = .ok (.getfield 46, 3) := by decide +kernel
theorem dX7_putRight_20 : decode cX7_putRight 20 = .ok (.iload_n 1, 1) := by decide +kernel
theorem dX7_putRight_21 : decode cX7_putRight 21 = .ok (.iastore, 1) := by decide +kernel
theorem dX7_putRight_22 : decode cX7_putRight 22 = .ok (.aload_n 0, 1) := by decide +kernel
theorem dX7_putRight_23 : decode cX7_putRight 23 = .ok (.getfield 27, 3) := by decide +kernel
theorem dX7_putRight_26 : decode cX7_putRight 26 = .ok (.aload_n 0, 1) := by decide +kernel
theorem dX7_putRight_27 : decode cX7_putRight 27 = .ok (.getfield 46, 3) := by decide +kernel
theorem dX7_putRight_30 : decode cX7_putRight 30 = .ok (.iload_n 2, 1) := by decide +kernel
theorem dX7_putRight_31 : decode cX7_putRight 31 = .ok (.iastore, 1) := by decide +kernel
theorem dX7_putRight_32 : decode cX7_putRight 32 = .ok (.aload_n 0, 1) := by decide +kernel
theorem dX7_putRight_33 : decode cX7_putRight 33 = .ok (.getfield 30, 3) := by decide +kernel
theorem dX7_putRight_36 : decode cX7_putRight 36 = .ok (.aload_n 0, 1) := by decide +kernel
theorem dX7_putRight_37 : decode cX7_putRight 37 = .ok (.getfield 46, 3) := by decide +kernel
theorem dX7_putRight_40 : decode cX7_putRight 40 = .ok (.iload_n 3, 1) := by decide +kernel
theorem dX7_putRight_41 : decode cX7_putRight 41 = .ok (.iastore, 1) := by decide +kernel
theorem dX7_putRight_42 : decode cX7_putRight 42 = .ok (.aload_n 0, 1) := by decide +kernel
theorem dX7_putRight_43 : decode cX7_putRight 43 = .ok (.iload_n 1, 1) := by decide +kernel
theorem dX7_putRight_44 : decode cX7_putRight 44 = .ok (.putfield 39, 3) := by decide +kernel
theorem dX7_putRight_47 : decode cX7_putRight 47 = .ok (.aload_n 0, 1) := by decide +kernel
theorem dX7_putRight_48 : decode cX7_putRight 48 = .ok (.dup, 1) := by decide +kernel
theorem dX7_putRight_49 : decode cX7_putRight 49 = .ok (.getfield 46, 3) := by decide +kernel
theorem dX7_putRight_52 : decode cX7_putRight 52 = .ok (.iconst 1, 1) := by decide +kernel
theorem dX7_putRight_53 : decode cX7_putRight 53 = .ok (.iadd, 1) := by decide +kernel
theorem dX7_putRight_54 : decode cX7_putRight 54 = .ok (.putfield 46, 3) := by decide +kernel
theorem dX7_putRight_57 : decode cX7_putRight 57 = .ok (.iconst 0, 1) := by decide +kernel
theorem dX7_putRight_58 : decode cX7_putRight 58 = .ok (.istore 4, 2) := by decide +kernel
theorem dX7_putRight_60 : decode cX7_putRight 60 = .ok (.iconst 0, 1) := by decide +kernel
theorem dX7_putRight_61 : decode cX7_putRight 61 = .ok (.istore 5, 2) := by decide +kernel
theorem dX7_putRight_63 : decode cX7_putRight 63 = .ok (.iload 5, 2) := by decide +kernel
theorem dX7_putRight_65 : decode cX7_putRight 65 = .ok (.aload_n 0, 1) := by decide +kernel
theorem dX7_putRight_66 : decode cX7_putRight 66 = .ok (.getfield 46, 3) := by decide +kernel
theorem dX7_putRight_69 : decode cX7_putRight 69 = .ok (.if_icmp .ge 30, 3) := by decide +kernel
theorem dX7_putRight_72 : decode cX7_putRight 72 = .ok (.iload 4, 2) := by decide +kernel
theorem dX7_putRight_74 : decode cX7_putRight 74 = .ok (.aload_n 0, 1) := by decide +kernel
theorem dX7_putRight_75 : decode cX7_putRight 75 = .ok (.getfield 27, 3) := by decide +kernel
theorem dX7_putRight_78 : decode cX7_putRight 78 = .ok (.iload 5, 2) := by decide +kernel
theorem dX7_putRight_80 : decode cX7_putRight 80 = .ok (.iaload, 1) := by decide +kernel
theorem dX7_putRight_81 : decode cX7_putRight 81 = .ok (.iload_n 2, 1) := by decide +kernel
theorem dX7_putRight_82 : decode cX7_putRight 82 = .ok (.if_icmp .ne 7, 3) := by decide +kernel
theorem dX7_putRight_85 : decode cX7_putRight 85 = .ok (.iconst 1, 1) := by decide +kernel
theorem dX7_putRight_86 : decode cX7_putRight 86 = .ok (.goto 4, 3) := by decide +kernel
theorem dX7_putRight_89 : decode cX7_putRight 89 = .ok (.iconst 0, 1) := by decide +kernel
theorem dX7_putRight_90 : decode cX7_putRight 90 = .ok (.iadd, 1) := by decide +kernel
theorem dX7_putRight_91 : decode cX7_putRight 91 = .ok (.istore 4, 2) := by decide +kernel
theorem dX7_putRight_93 : decode cX7_putRight 93 = .ok (.iinc 5 1, 3) := by decide +kernel
theorem dX7_putRight_96 : decode cX7_putRight 96 = .ok (.goto (-33), 3) := by decide +kernel
theorem dX7_putRight_99 : decode cX7_putRight 99 = .ok (.iload 4, 2) := by decide +kernel
theorem dX7_putRight_101 : decode cX7_putRight 101 = .ok (.ireturn, 1) := by decide +kernel
theorem dX7_lookBackTo_0 : decode cX7_lookBackTo 0 = .ok (.iconst 0, 1) := by decide +kernel
theorem dX7_lookBackTo_1 : decode cX7_lookBackTo 1 = .ok (.istore_n 2, 1) := by decide +kernel
theorem dX7_lookBackTo_2 : decode cX7_lookBackTo 2 = .ok (.iload_n 2, 1) := by decide +kernel
theorem dX7_lookBackTo_3 : decode cX7_lookBackTo 3 = .ok (.aload_n 0, 1) := by decide +kernel
theorem dX7_lookBackTo_4 : decode cX7_lookBackTo 4 = .ok (.getfield 43, 3) := by decide +kernel
theorem dX7_lookBackTo_7 : decode cX7_lookBackTo 7 = .ok (.if_icmp .ge 35, 3) := by decide +kernel
theorem dX7_lookBackTo_10 : decode cX7_lookBackTo 10 = .ok (.aload_n 0, 1) := by decide +kernel
theorem dX7_lookBackTo_11 : decode cX7_lookBackTo 11 = .ok (.getfield 33, 3) := by decide +kernel
theorem dX7_lookBackTo_14 : decode cX7_lookBackTo 14 = .ok (.iload_n 2, 1) := by decide +kernel
theorem dX7_lookBackTo_15 : decode cX7_lookBackTo 15 = .ok (.aload_n 0, 1) := by decide +kernel
theorem dX7_lookBackTo_16 : decode cX7_lookBackTo 16 = .ok (.getfield 11, 3) := by decide +kernel
theorem dX7_lookBackTo_19 : decode cX7_lookBackTo 19 = .ok (.iload_n 2, 1) := by decide +kernel
theorem dX7_lookBackTo_20 : decode cX7_lookBackTo 20 = .ok (.iaload, 1) := by decide +kernel
theorem dX7_lookBackTo_21 : decode cX7_lookBackTo 21 = .ok (.iload_n 1, 1) := by decide +kernel
theorem dX7_lookBackTo_22 : decode cX7_lookBackTo 22 = .ok (.if_icmp .gt 12, 3) := by decide +kernel
theorem dX7_lookBackTo_25 : decode cX7_lookBackTo 25 = .ok (.aload_n 0, 1) := by decide +kernel
theorem dX7_lookBackTo_26 : decode cX7_lookBackTo 26 = .ok (.getfield 21, 3) := by decide +kernel
theorem dX7_lookBackTo_29 : decode cX7_lookBackTo 29 = .ok (.iload_n 2, 1) := by decide +kernel
theorem dX7_lookBackTo_30 : decode cX7_lookBackTo 30 = .ok (.iaload, 1) := by decide +kernel
theorem dX7_lookBackTo_31 : decode cX7_lookBackTo 31 = .ok (.goto 4, 3) := by decide +kernel
theorem dX7_lookBackTo_34 : decode cX7_lookBackTo 34 = .ok (.iconst (-1), 1) := by decide +kernel
theorem dX7_lookBackTo_35 : decode cX7_lookBackTo 35 = .ok (.iastore, 1) := by decide +kernel
theorem dX7_lookBackTo_36 : decode cX7_lookBackTo 36 = .ok (.iinc 2 1, 3) := by decide +kernel
theorem dX7_lookBackTo_39 : decode cX7_lookBackTo 39 = .ok (.goto (-37), 3) := by decide +kernel
theorem dX7_lookBackTo_42 : decode cX7_lookBackTo 42 = .ok (.iconst 0, 1) := by decide +kernel
theorem dX7_lookBackTo_43 : decode cX7_lookBackTo 43 = .ok (.istore_n 2, 1) := by decide +kernel
theorem dX7_lookBackTo_44 : decode cX7_lookBackTo 44 = .ok (.iload_n 2, 1) := by decide +kernel
theorem dX7_lookBackTo_45 : decode cX7_lookBackTo 45 = .ok (.aload_n 0, 1) := by decide +kernel
theorem dX7_lookBackTo_46 : decode cX7_lookBackTo 46 = .ok (.getfield 46, 3) := by decide +kernel
theorem dX7_lookBackTo_49 : decode cX7_lookBackTo 49 = .ok (.if_icmp .ge 47, 3) := by decide +kernel
theorem dX7_lookBackTo_52 : decode cX7_lookBackTo 52 = .ok (.aload_n 0, 1) := by decide +kernel
theorem dX7_lookBackTo_53 : decode cX7_lookBackTo 53 = .ok (.getfield 24, 3) := by decide +kernel
theorem dX7_lookBackTo_56 : decode cX7_lookBackTo 56 = .ok (.iload_n 2, 1) := by decide +kernel
theorem dX7_lookBackTo_57 : decode cX7_lookBackTo 57 = .ok (.iaload, 1) := by decide +kernel
theorem dX7_lookBackTo_58 : decode cX7_lookBackTo 58 = .ok (.iload_n 1, 1) := by decide +kernel
theorem dX7_lookBackTo_59 : decode cX7_lookBackTo 59 = .ok (.if_icmp .gt 31, 3) := by decide +kernel
theorem dX7_lookBackTo_62 : decode cX7_lookBackTo 62 = .ok (.aload_n 0, 1) := by decide +kernel
theorem dX7_lookBackTo_63 : decode cX7_lookBackTo 63 = .ok (.getfield 27, 3) := by decide +kernel
theorem dX7_lookBackTo_66 : decode cX7_lookBackTo 66 = .ok (.iload_n 2, 1) := by decide +kernel
theorem dX7_lookBackTo_67 : decode cX7_lookBackTo 67 = .ok (.iaload, 1) := by decide +kernel
theorem dX7_lookBackTo_68 : decode cX7_lookBackTo 68 = .ok (.bipush 16, 2) := by decide +kernel
theorem dX7_lookBackTo_70 : decode cX7_lookBackTo 70 = .ok (.if_icmp .ge 20, 3) := by decide +kernel
theorem dX7_lookBackTo_73 : decode cX7_lookBackTo 73 = .ok (.aload_n 0, 1) := by decide +kernel
theorem dX7_lookBackTo_74 : decode cX7_lookBackTo 74 = .ok (.getfield 33, 3) := by decide +kernel
theorem dX7_lookBackTo_77 : decode cX7_lookBackTo 77 = .ok (.aload_n 0, 1) := by decide +kernel
theorem dX7_lookBackTo_78 : decode cX7_lookBackTo 78 = .ok (.getfield 27, 3) := by decide +kernel
theorem dX7_lookBackTo_81 : decode cX7_lookBackTo 81 = .ok (.iload_n 2, 1) := by decide +kernel
theorem dX7_lookBackTo_82 : decode cX7_lookBackTo 82 = .ok (.iaload, 1) := by decide +kernel
theorem dX7_lookBackTo_83 : decode cX7_lookBackTo 83 = .ok (.aload_n 0, 1) := by decide +kernel
theorem dX7_lookBackTo_84 : decode cX7_lookBackTo 84 = .ok (.getfield 30, 3) := by decide +kernel
theorem dX7_lookBackTo_87 : decode cX7_lookBackTo 87 = .ok (.iload_n 2, 1) := by decide +kernel
theorem dX7_lookBackTo_88 : decode cX7_lookBackTo 88 = .ok (.iaload, 1) := by decide +kernel
theorem dX7_lookBackTo_89 : decode cX7_lookBackTo 89 = .ok (.iastore, 1) := by decide +kernel
theorem dX7_lookBackTo_90 : decode cX7_lookBackTo 90 = .ok (.iinc 2 1, 3) := by decide +kernel
theorem dX7_lookBackTo_93 : decode cX7_lookBackTo 93 = .ok (.goto (-49), 3) := by decide +kernel
theorem dX7_lookBackTo_96 : decode cX7_lookBackTo 96 = .ok (.return_, 1) := by decide +kernel
theorem dX7_fits_0 : decode cX7_fits 0 = .ok (.iconst 0, 1) := by decide +kernel
theorem dX7_fits_1 : decode cX7_fits 1 = .ok (.istore 4, 2) := by decide +kernel
theorem dX7_fits_3 : decode cX7_fits 3 = .ok (.iload 4, 2) := by decide +kernel
theorem dX7_fits_5 : decode cX7_fits 5 = .ok (.aload_n 0, 1) := by decide +kernel
theorem dX7_fits_6 : decode cX7_fits 6 = .ok (.getfield 43, 3) := by decide +kernel
theorem dX7_fits_9 : decode cX7_fits 9 = .ok (.if_icmp .ge 66, 3) := by decide +kernel
theorem dX7_fits_12 : decode cX7_fits 12 = .ok (.aload_n 0, 1) := by decide +kernel
theorem dX7_fits_13 : decode cX7_fits 13 = .ok (.getfield 18, 3) := by decide +kernel
theorem dX7_fits_16 : decode cX7_fits 16 = .ok (.iload 4, 2) := by decide +kernel
theorem dX7_fits_18 : decode cX7_fits 18 = .ok (.iaload, 1) := by decide +kernel
theorem dX7_fits_19 : decode cX7_fits 19 = .ok (.iconst 1, 1) := by decide +kernel
theorem dX7_fits_20 : decode cX7_fits 20 = .ok (.aload_n 0, 1) := by decide +kernel
theorem dX7_fits_21 : decode cX7_fits 21 = .ok (.getfield 15, 3) := by decide +kernel
theorem dX7_fits_24 : decode cX7_fits 24 = .ok (.iload 4, 2) := by decide +kernel
theorem dX7_fits_26 : decode cX7_fits 26 = .ok (.iaload, 1) := by decide +kernel
theorem dX7_fits_27 : decode cX7_fits 27 = .ok (.iload_n 1, 1) := by decide +kernel
theorem dX7_fits_28 : decode cX7_fits 28 = .ok (.iload_n 2, 1) := by decide +kernel
theorem dX7_fits_29 : decode cX7_fits 29 = .ok (.iload_n 3, 1) := by decide +kernel
theorem dX7_fits_30 : decode cX7_fits 30 = .ok (.invokestatic 49, 3) := by decide +kernel
theorem dX7_fits_33 : decode cX7_fits 33 = .ok (.iadd, 1) := by decide +kernel
theorem dX7_fits_34 : decode cX7_fits 34 = .ok (.if_icmp .gt 7, 3) := by decide +kernel
theorem dX7_fits_37 : decode cX7_fits 37 = .ok (.iconst 1, 1) := by decide +kernel
theorem dX7_fits_38 : decode cX7_fits 38 = .ok (.goto 4, 3) := by decide +kernel
theorem dX7_fits_41 : decode cX7_fits 41 = .ok (.iconst 0, 1) := by decide +kernel
theorem dX7_fits_42 : decode cX7_fits 42 = .ok (.istore 5, 2) := by decide +kernel
theorem dX7_fits_44 : decode cX7_fits 44 = .ok (.aload_n 0, 1) := by decide +kernel
theorem dX7_fits_45 : decode cX7_fits 45 = .ok (.getfield 33, 3) := by decide +kernel
theorem dX7_fits_48 : decode cX7_fits 48 = .ok (.iload 4, 2) := by decide +kernel
theorem dX7_fits_50 : decode cX7_fits 50 = .ok (.iaload, 1) := by decide +kernel
theorem dX7_fits_51 : decode cX7_fits 51 = .ok (.iconst (-1), 1) := by decide +kernel
theorem dX7_fits_52 : decode cX7_fits 52 = .ok (.if_icmp .eq 17, 3) := by decide +kernel
theorem dX7_fits_55 : decode cX7_fits 55 = .ok (.aload_n 0, 1) := by decide +kernel
theorem dX7_fits_56 : decode cX7_fits 56 = .ok (.getfield 33, 3) := by decide +kernel
theorem dX7_fits_59 : decode cX7_fits 59 = .ok (.iload 4, 2) := by decide +kernel
theorem dX7_fits_61 : decode cX7_fits 61 = .ok (.iaload, 1) := by decide +kernel
theorem dX7_fits_62 : decode cX7_fits 62 = .ok (.iload 5, 2) := by decide +kernel
theorem dX7_fits_64 : decode cX7_fits 64 = .ok (.if_icmp .eq 5, 3) := by decide +kernel
theorem dX7_fits_67 : decode cX7_fits 67 = .ok (.iconst 0, 1) := by decide +kernel
theorem dX7_fits_68 : decode cX7_fits 68 = .ok (.ireturn, 1) := by decide +kernel
theorem dX7_fits_69 : decode cX7_fits 69 = .ok (.iinc 4 1, 3) := by decide +kernel
theorem dX7_fits_72 : decode cX7_fits 72 = .ok (.goto (-69), 3) := by decide +kernel
theorem dX7_fits_75 : decode cX7_fits 75 = .ok (.iconst 1, 1) := by decide +kernel
theorem dX7_fits_76 : decode cX7_fits 76 = .ok (.ireturn, 1) := by decide +kernel
theorem dX7_ofHumps_0 : decode cX7_ofHumps 0 = .ok (.aload_n 0, 1) := by decide +kernel
theorem dX7_ofHumps_1 : decode cX7_ofHumps 1 = .ok (.iload_n 1, 1) := by decide +kernel
theorem dX7_ofHumps_2 : decode cX7_ofHumps 2 = .ok (.invokevirtual 53, 3) := by decide +kernel
theorem dX7_ofHumps_5 : decode cX7_ofHumps 5 = .ok (.iconst 0, 1) := by decide +kernel
theorem dX7_ofHumps_6 : decode cX7_ofHumps 6 = .ok (.istore_n 3, 1) := by decide +kernel
theorem dX7_ofHumps_7 : decode cX7_ofHumps 7 = .ok (.iconst (-1), 1) := by decide +kernel
theorem dX7_ofHumps_8 : decode cX7_ofHumps 8 = .ok (.istore 4, 2) := by decide +kernel
theorem dX7_ofHumps_10 : decode cX7_ofHumps 10 = .ok (.iconst (-1), 1) := by decide +kernel
theorem dX7_ofHumps_11 : decode cX7_ofHumps 11 = .ok (.istore 5, 2) := by decide +kernel
theorem dX7_ofHumps_13 : decode cX7_ofHumps 13 = .ok (.iconst (-1), 1) := by decide +kernel
theorem dX7_ofHumps_14 : decode cX7_ofHumps 14 = .ok (.istore 6, 2) := by decide +kernel
theorem dX7_ofHumps_16 : decode cX7_ofHumps 16 = .ok (.iconst (-1), 1) := by decide +kernel
theorem dX7_ofHumps_17 : decode cX7_ofHumps 17 = .ok (.istore 7, 2) := by decide +kernel
theorem dX7_ofHumps_19 : decode cX7_ofHumps 19 = .ok (.iconst 1, 1) := by decide +kernel
theorem dX7_ofHumps_20 : decode cX7_ofHumps 20 = .ok (.istore 8, 2) := by decide +kernel
theorem dX7_ofHumps_22 : decode cX7_ofHumps 22 = .ok (.iload 8, 2) := by decide +kernel
theorem dX7_ofHumps_24 : decode cX7_ofHumps 24 = .ok (.bipush 15, 2) := by decide +kernel
theorem dX7_ofHumps_26 : decode cX7_ofHumps 26 = .ok (.if_icmp .gt 93, 3) := by decide +kernel
theorem dX7_ofHumps_29 : decode cX7_ofHumps 29 = .ok (.iconst 0, 1) := by decide +kernel
theorem dX7_ofHumps_30 : decode cX7_ofHumps 30 = .ok (.istore 9, 2) := by decide +kernel
theorem dX7_ofHumps_32 : decode cX7_ofHumps 32 = .ok (.iload 9, 2) := by decide +kernel
theorem dX7_ofHumps_34 : decode cX7_ofHumps 34 = .ok (.bipush 20, 2) := by decide +kernel
theorem dX7_ofHumps_36 : decode cX7_ofHumps 36 = .ok (.if_icmp .gt 77, 3) := by decide +kernel
theorem dX7_ofHumps_39 : decode cX7_ofHumps 39 = .ok (.aload_n 0, 1) := by decide +kernel
theorem dX7_ofHumps_40 : decode cX7_ofHumps 40 = .ok (.iload 8, 2) := by decide +kernel
theorem dX7_ofHumps_42 : decode cX7_ofHumps 42 = .ok (.iload 9, 2) := by decide +kernel
theorem dX7_ofHumps_44 : decode cX7_ofHumps 44 = .ok (.invokevirtual 57, 3) := by decide +kernel
theorem dX7_ofHumps_47 : decode cX7_ofHumps 47 = .ok (.istore 10, 2) := by decide +kernel
theorem dX7_ofHumps_49 : decode cX7_ofHumps 49 = .ok (.iload 10, 2) := by decide +kernel
theorem dX7_ofHumps_51 : decode cX7_ofHumps 51 = .ok (.ifCond .le 56, 3) := by decide +kernel
theorem dX7_ofHumps_54 : decode cX7_ofHumps 54 = .ok (.iload_n 3, 1) := by decide +kernel
theorem dX7_ofHumps_55 : decode cX7_ofHumps 55 = .ok (.iload 10, 2) := by decide +kernel
theorem dX7_ofHumps_57 : decode cX7_ofHumps 57 = .ok (.iadd, 1) := by decide +kernel
theorem dX7_ofHumps_58 : decode cX7_ofHumps 58 = .ok (.istore_n 3, 1) := by decide +kernel
theorem dX7_ofHumps_59 : decode cX7_ofHumps 59 = .ok (.iload 4, 2) := by decide +kernel
theorem dX7_ofHumps_61 : decode cX7_ofHumps 61 = .ok (.iconst (-1), 1) := by decide +kernel
theorem dX7_ofHumps_62 : decode cX7_ofHumps 62 = .ok (.if_icmp .ne 8, 3) := by decide +kernel
theorem dX7_ofHumps_65 : decode cX7_ofHumps 65 = .ok (.iload 8, 2) := by decide +kernel
theorem dX7_ofHumps_67 : decode cX7_ofHumps 67 = .ok (.goto 5, 3) := by decide +kernel
theorem dX7_ofHumps_70 : decode cX7_ofHumps 70 = .ok (.iload 4, 2) := by decide +kernel
theorem dX7_ofHumps_72 : decode cX7_ofHumps 72 = .ok (.istore 4, 2) := by decide +kernel
theorem dX7_ofHumps_74 : decode cX7_ofHumps 74 = .ok (.iload 8, 2) := by decide +kernel
theorem dX7_ofHumps_76 : decode cX7_ofHumps 76 = .ok (.istore 5, 2) := by decide +kernel
theorem dX7_ofHumps_78 : decode cX7_ofHumps 78 = .ok (.iload 6, 2) := by decide +kernel
theorem dX7_ofHumps_80 : decode cX7_ofHumps 80 = .ok (.iconst (-1), 1) := by decide +kernel
theorem dX7_ofHumps_81 : decode cX7_ofHumps 81 = .ok (.if_icmp .ne 8, 3) := by decide +kernel
theorem dX7_ofHumps_84 : decode cX7_ofHumps 84 = .ok (.iload 9, 2) := by decide +kernel
theorem dX7_ofHumps_86 : decode cX7_ofHumps 86 = .ok (.goto 10, 3) := by decide +kernel
theorem dX7_ofHumps_89 : decode cX7_ofHumps 89 = .ok (.iload 6, 2) := by decide +kernel
theorem dX7_ofHumps_91 : decode cX7_ofHumps 91 = .ok (.iload 9, 2) := by decide +kernel
theorem dX7_ofHumps_93 : decode cX7_ofHumps 93 = .ok (.invokestatic 61, 3) := by decide +kernel
theorem dX7_ofHumps_96 : decode cX7_ofHumps 96 = .ok (.istore 6, 2) := by decide +kernel
theorem dX7_ofHumps_98 : decode cX7_ofHumps 98 = .ok (.iload 7, 2) := by decide +kernel
theorem dX7_ofHumps_100 : decode cX7_ofHumps 100 = .ok (.iload 9, 2) := by decide +kernel
theorem dX7_ofHumps_102 : decode cX7_ofHumps 102 = .ok (.invokestatic 66, 3) := by decide +kernel
theorem dX7_ofHumps_105 : decode cX7_ofHumps 105 = .ok (.istore 7, 2) := by decide +kernel
theorem dX7_ofHumps_107 : decode cX7_ofHumps 107 = .ok (.iinc 9 1, 3) := by decide +kernel
theorem dX7_ofHumps_110 : decode cX7_ofHumps 110 = .ok (.goto (-78), 3) := by decide +kernel
theorem dX7_ofHumps_113 : decode cX7_ofHumps 113 = .ok (.iinc 8 1, 3) := by decide +kernel
theorem dX7_ofHumps_116 : decode cX7_ofHumps 116 = .ok (.goto (-94), 3) := by decide +kernel
theorem dX7_ofHumps_119 : decode cX7_ofHumps 119 = .ok (.iload_n 2, 1) := by decide +kernel
theorem dX7_ofHumps_120 : decode cX7_ofHumps 120 = .ok (.tableswitch 51 0 3 #[32, 36, 41, 46], 32) := by decide +kernel
theorem dX7_ofHumps_152 : decode cX7_ofHumps 152 = .ok (.iload_n 3, 1) := by decide +kernel
theorem dX7_ofHumps_153 : decode cX7_ofHumps 153 = .ok (.goto 20, 3) := by decide +kernel
theorem dX7_ofHumps_156 : decode cX7_ofHumps 156 = .ok (.iload 4, 2) := by decide +kernel
theorem dX7_ofHumps_158 : decode cX7_ofHumps 158 = .ok (.goto 15, 3) := by decide +kernel
theorem dX7_ofHumps_161 : decode cX7_ofHumps 161 = .ok (.iload 5, 2) := by decide +kernel
theorem dX7_ofHumps_163 : decode cX7_ofHumps 163 = .ok (.goto 10, 3) := by decide +kernel
theorem dX7_ofHumps_166 : decode cX7_ofHumps 166 = .ok (.iload 6, 2) := by decide +kernel
theorem dX7_ofHumps_168 : decode cX7_ofHumps 168 = .ok (.goto 5, 3) := by decide +kernel
theorem dX7_ofHumps_171 : decode cX7_ofHumps 171 = .ok (.iload 7, 2) := by decide +kernel
theorem dX7_ofHumps_173 : decode cX7_ofHumps 173 = .ok (.ireturn, 1) := by decide +kernel
theorem dX7_howManyFit_0 : decode cX7_howManyFit 0 = .ok (.iconst 0, 1) := by decide +kernel
theorem dX7_howManyFit_1 : decode cX7_howManyFit 1 = .ok (.istore_n 3, 1) := by decide +kernel
theorem dX7_howManyFit_2 : decode cX7_howManyFit 2 = .ok (.iconst 1, 1) := by decide +kernel
theorem dX7_howManyFit_3 : decode cX7_howManyFit 3 = .ok (.istore 4, 2) := by decide +kernel
theorem dX7_howManyFit_5 : decode cX7_howManyFit 5 = .ok (.iload 4, 2) := by decide +kernel
theorem dX7_howManyFit_7 : decode cX7_howManyFit 7 = .ok (.iconst 5, 1) := by decide +kernel
theorem dX7_howManyFit_8 : decode cX7_howManyFit 8 = .ok (.if_icmp .gt 28, 3) := by decide +kernel
theorem dX7_howManyFit_11 : decode cX7_howManyFit 11 = .ok (.iload_n 3, 1) := by decide +kernel
theorem dX7_howManyFit_12 : decode cX7_howManyFit 12 = .ok (.aload_n 0, 1) := by decide +kernel
theorem dX7_howManyFit_13 : decode cX7_howManyFit 13 = .ok (.iload_n 1, 1) := by decide +kernel
theorem dX7_howManyFit_14 : decode cX7_howManyFit 14 = .ok (.iload_n 2, 1) := by decide +kernel
theorem dX7_howManyFit_15 : decode cX7_howManyFit 15 = .ok (.iload 4, 2) := by decide +kernel
theorem dX7_howManyFit_17 : decode cX7_howManyFit 17 = .ok (.invokevirtual 69, 3) := by decide +kernel
theorem dX7_howManyFit_20 : decode cX7_howManyFit 20 = .ok (.ifCond .eq 7, 3) := by decide +kernel
theorem dX7_howManyFit_23 : decode cX7_howManyFit 23 = .ok (.iconst 1, 1) := by decide +kernel
theorem dX7_howManyFit_24 : decode cX7_howManyFit 24 = .ok (.goto 4, 3) := by decide +kernel
theorem dX7_howManyFit_27 : decode cX7_howManyFit 27 = .ok (.iconst 0, 1) := by decide +kernel
theorem dX7_howManyFit_28 : decode cX7_howManyFit 28 = .ok (.iadd, 1) := by decide +kernel
theorem dX7_howManyFit_29 : decode cX7_howManyFit 29 = .ok (.istore_n 3, 1) := by decide +kernel
theorem dX7_howManyFit_30 : decode cX7_howManyFit 30 = .ok (.iinc 4 1, 3) := by decide +kernel
theorem dX7_howManyFit_33 : decode cX7_howManyFit 33 = .ok (.goto (-28), 3) := by decide +kernel
theorem dX7_howManyFit_36 : decode cX7_howManyFit 36 = .ok (.iload_n 3, 1) := by decide +kernel
theorem dX7_howManyFit_37 : decode cX7_howManyFit 37 = .ok (.ireturn, 1) := by decide +kernel
theorem dX7_bestQuestion_0 : decode cX7_bestQuestion 0 = .ok (.aload_n 0, 1) := by decide +kernel
theorem dX7_bestQuestion_1 : decode cX7_bestQuestion 1 = .ok (.invokevirtual 73, 3) := by decide +kernel
theorem dX7_bestQuestion_4 : decode cX7_bestQuestion 4 = .ok (.istore_n 1, 1) := by decide +kernel
theorem dX7_bestQuestion_5 : decode cX7_bestQuestion 5 = .ok (.iload_n 1, 1) := by decide +kernel
theorem dX7_bestQuestion_6 : decode cX7_bestQuestion 6 = .ok (.istore_n 2, 1) := by decide +kernel
theorem dX7_bestQuestion_7 : decode cX7_bestQuestion 7 = .ok (.iconst (-1), 1) := by decide +kernel
theorem dX7_bestQuestion_8 : decode cX7_bestQuestion 8 = .ok (.istore_n 3, 1) := by decide +kernel
theorem dX7_bestQuestion_9 : decode cX7_bestQuestion 9 = .ok (.iconst 1, 1) := by decide +kernel
theorem dX7_bestQuestion_10 : decode cX7_bestQuestion 10 = .ok (.istore 4, 2) := by decide +kernel
theorem dX7_bestQuestion_12 : decode cX7_bestQuestion 12 = .ok (.iload 4, 2) := by decide +kernel
theorem dX7_bestQuestion_14 : decode cX7_bestQuestion 14 = .ok (.bipush 16, 2) := by decide +kernel
theorem dX7_bestQuestion_16 : decode cX7_bestQuestion 16 = .ok (.if_icmp .ge 70, 3) := by decide +kernel
theorem dX7_bestQuestion_19 : decode cX7_bestQuestion 19 = .ok (.iload_n 1, 1) := by decide +kernel
theorem dX7_bestQuestion_20 : decode cX7_bestQuestion 20 = .ok (.istore 5, 2) := by decide +kernel
theorem dX7_bestQuestion_22 : decode cX7_bestQuestion 22 = .ok (.iconst 1, 1) := by decide +kernel
theorem dX7_bestQuestion_23 : decode cX7_bestQuestion 23 = .ok (.istore 6, 2) := by decide +kernel
theorem dX7_bestQuestion_25 : decode cX7_bestQuestion 25 = .ok (.iload 6, 2) := by decide +kernel
theorem dX7_bestQuestion_27 : decode cX7_bestQuestion 27 = .ok (.bipush 30, 2) := by decide +kernel
theorem dX7_bestQuestion_29 : decode cX7_bestQuestion 29 = .ok (.if_icmp .gt 51, 3) := by decide +kernel
theorem dX7_bestQuestion_32 : decode cX7_bestQuestion 32 = .ok (.iload 5, 2) := by decide +kernel
theorem dX7_bestQuestion_34 : decode cX7_bestQuestion 34 = .ok (.aload_n 0, 1) := by decide +kernel
theorem dX7_bestQuestion_35 : decode cX7_bestQuestion 35 = .ok (.iload 4, 2) := by decide +kernel
theorem dX7_bestQuestion_37 : decode cX7_bestQuestion 37 = .ok (.iload 6, 2) := by decide +kernel
theorem dX7_bestQuestion_39 : decode cX7_bestQuestion 39 = .ok (.invokevirtual 77, 3) := by decide +kernel
theorem dX7_bestQuestion_42 : decode cX7_bestQuestion 42 = .ok (.isub, 1) := by decide +kernel
theorem dX7_bestQuestion_43 : decode cX7_bestQuestion 43 = .ok (.istore 5, 2) := by decide +kernel
theorem dX7_bestQuestion_45 : decode cX7_bestQuestion 45 = .ok (.iload 5, 2) := by decide +kernel
theorem dX7_bestQuestion_47 : decode cX7_bestQuestion 47 = .ok (.iload_n 1, 1) := by decide +kernel
theorem dX7_bestQuestion_48 : decode cX7_bestQuestion 48 = .ok (.iload 5, 2) := by decide +kernel
theorem dX7_bestQuestion_50 : decode cX7_bestQuestion 50 = .ok (.isub, 1) := by decide +kernel
theorem dX7_bestQuestion_51 : decode cX7_bestQuestion 51 = .ok (.invokestatic 66, 3) := by decide +kernel
theorem dX7_bestQuestion_54 : decode cX7_bestQuestion 54 = .ok (.istore 7, 2) := by decide +kernel
theorem dX7_bestQuestion_56 : decode cX7_bestQuestion 56 = .ok (.iload 7, 2) := by decide +kernel
theorem dX7_bestQuestion_58 : decode cX7_bestQuestion 58 = .ok (.iload_n 2, 1) := by decide +kernel
theorem dX7_bestQuestion_59 : decode cX7_bestQuestion 59 = .ok (.if_icmp .ge 15, 3) := by decide +kernel
theorem dX7_bestQuestion_62 : decode cX7_bestQuestion 62 = .ok (.iload 7, 2) := by decide +kernel
theorem dX7_bestQuestion_64 : decode cX7_bestQuestion 64 = .ok (.istore_n 2, 1) := by decide +kernel
theorem dX7_bestQuestion_65 : decode cX7_bestQuestion 65 = .ok (.bipush 100, 2) := by decide +kernel
theorem dX7_bestQuestion_67 : decode cX7_bestQuestion 67 = .ok (.iload 4, 2) := by decide +kernel
theorem dX7_bestQuestion_69 : decode cX7_bestQuestion 69 = .ok (.imul, 1) := by decide +kernel
theorem dX7_bestQuestion_70 : decode cX7_bestQuestion 70 = .ok (.iload 6, 2) := by decide +kernel
theorem dX7_bestQuestion_72 : decode cX7_bestQuestion 72 = .ok (.iadd, 1) := by decide +kernel
theorem dX7_bestQuestion_73 : decode cX7_bestQuestion 73 = .ok (.istore_n 3, 1) := by decide +kernel
theorem dX7_bestQuestion_74 : decode cX7_bestQuestion 74 = .ok (.iinc 6 1, 3) := by decide +kernel
theorem dX7_bestQuestion_77 : decode cX7_bestQuestion 77 = .ok (.goto (-52), 3) := by decide +kernel
theorem dX7_bestQuestion_80 : decode cX7_bestQuestion 80 = .ok (.iinc 4 1, 3) := by decide +kernel
theorem dX7_bestQuestion_83 : decode cX7_bestQuestion 83 = .ok (.goto (-71), 3) := by decide +kernel
theorem dX7_bestQuestion_86 : decode cX7_bestQuestion 86 = .ok (.iload_n 3, 1) := by decide +kernel
theorem dX7_bestQuestion_87 : decode cX7_bestQuestion 87 = .ok (.ireturn, 1) := by decide +kernel
theorem dX7_weakerBy_0 : decode cX7_weakerBy 0 = .ok (.iload_n 2, 1) := by decide +kernel
theorem dX7_weakerBy_1 : decode cX7_weakerBy 1 = .ok (.iconst 2, 1) := by decide +kernel
theorem dX7_weakerBy_2 : decode cX7_weakerBy 2 = .ok (.isub, 1) := by decide +kernel
theorem dX7_weakerBy_3 : decode cX7_weakerBy 3 = .ok (.istore_n 3, 1) := by decide +kernel
theorem dX7_weakerBy_4 : decode cX7_weakerBy 4 = .ok (.iload_n 3, 1) := by decide +kernel
theorem dX7_weakerBy_5 : decode cX7_weakerBy 5 = .ok (.ifCond .lt 23, 3) := by decide +kernel
theorem dX7_weakerBy_8 : decode cX7_weakerBy 8 = .ok (.iload_n 3, 1) := by decide +kernel
theorem dX7_weakerBy_9 : decode cX7_weakerBy 9 = .ok (.bipush 21, 2) := by decide +kernel
theorem dX7_weakerBy_11 : decode cX7_weakerBy 11 = .ok (.if_icmp .ge 17, 3) := by decide +kernel
theorem dX7_weakerBy_14 : decode cX7_weakerBy 14 = .ok (.aload_n 0, 1) := by decide +kernel
theorem dX7_weakerBy_15 : decode cX7_weakerBy 15 = .ok (.getfield 36, 3) := by decide +kernel
theorem dX7_weakerBy_18 : decode cX7_weakerBy 18 = .ok (.iload_n 1, 1) := by decide +kernel
theorem dX7_weakerBy_19 : decode cX7_weakerBy 19 = .ok (.bipush 21, 2) := by decide +kernel
theorem dX7_weakerBy_21 : decode cX7_weakerBy 21 = .ok (.imul, 1) := by decide +kernel
theorem dX7_weakerBy_22 : decode cX7_weakerBy 22 = .ok (.iload_n 3, 1) := by decide +kernel
theorem dX7_weakerBy_23 : decode cX7_weakerBy 23 = .ok (.iadd, 1) := by decide +kernel
theorem dX7_weakerBy_24 : decode cX7_weakerBy 24 = .ok (.iaload, 1) := by decide +kernel
theorem dX7_weakerBy_25 : decode cX7_weakerBy 25 = .ok (.goto 4, 3) := by decide +kernel
theorem dX7_weakerBy_28 : decode cX7_weakerBy 28 = .ok (.iconst 0, 1) := by decide +kernel
theorem dX7_weakerBy_29 : decode cX7_weakerBy 29 = .ok (.ireturn, 1) := by decide +kernel
theorem dX7_tallyAll_0 : decode cX7_tallyAll 0 = .ok (.aload_n 0, 1) := by decide +kernel
theorem dX7_tallyAll_1 : decode cX7_tallyAll 1 = .ok (.sipush 999, 3) := by decide +kernel
theorem dX7_tallyAll_4 : decode cX7_tallyAll 4 = .ok (.invokevirtual 53, 3) := by decide +kernel
theorem dX7_tallyAll_7 : decode cX7_tallyAll 7 = .ok (.aload_n 0, 1) := by decide +kernel
theorem dX7_tallyAll_8 : decode cX7_tallyAll 8 = .ok (.getfield 36, 3) := by decide +kernel
theorem dX7_tallyAll_11 : decode cX7_tallyAll 11 = .ok (.iconst 0, 1) := by decide +kernel
theorem dX7_tallyAll_12 : decode cX7_tallyAll 12 = .ok (.invokestatic 80, 3) := by decide +kernel
theorem dX7_tallyAll_15 : decode cX7_tallyAll 15 = .ok (.iconst 0, 1) := by decide +kernel
theorem dX7_tallyAll_16 : decode cX7_tallyAll 16 = .ok (.istore_n 1, 1) := by decide +kernel
theorem dX7_tallyAll_17 : decode cX7_tallyAll 17 = .ok (.iconst 1, 1) := by decide +kernel
theorem dX7_tallyAll_18 : decode cX7_tallyAll 18 = .ok (.istore_n 2, 1) := by decide +kernel
theorem dX7_tallyAll_19 : decode cX7_tallyAll 19 = .ok (.iload_n 2, 1) := by decide +kernel
theorem dX7_tallyAll_20 : decode cX7_tallyAll 20 = .ok (.bipush 15, 2) := by decide +kernel
theorem dX7_tallyAll_22 : decode cX7_tallyAll 22 = .ok (.if_icmp .gt 60, 3) := by decide +kernel
theorem dX7_tallyAll_25 : decode cX7_tallyAll 25 = .ok (.iconst 0, 1) := by decide +kernel
theorem dX7_tallyAll_26 : decode cX7_tallyAll 26 = .ok (.istore_n 3, 1) := by decide +kernel
theorem dX7_tallyAll_27 : decode cX7_tallyAll 27 = .ok (.iload_n 3, 1) := by decide +kernel
theorem dX7_tallyAll_28 : decode cX7_tallyAll 28 = .ok (.bipush 20, 2) := by decide +kernel
theorem dX7_tallyAll_30 : decode cX7_tallyAll 30 = .ok (.if_icmp .gt 46, 3) := by decide +kernel
theorem dX7_tallyAll_33 : decode cX7_tallyAll 33 = .ok (.iconst 1, 1) := by decide +kernel
theorem dX7_tallyAll_34 : decode cX7_tallyAll 34 = .ok (.istore 4, 2) := by decide +kernel
theorem dX7_tallyAll_36 : decode cX7_tallyAll 36 = .ok (.iload 4, 2) := by decide +kernel
theorem dX7_tallyAll_38 : decode cX7_tallyAll 38 = .ok (.iconst 5, 1) := by decide +kernel
theorem dX7_tallyAll_39 : decode cX7_tallyAll 39 = .ok (.if_icmp .gt 31, 3) := by decide +kernel
theorem dX7_tallyAll_42 : decode cX7_tallyAll 42 = .ok (.aload_n 0, 1) := by decide +kernel
theorem dX7_tallyAll_43 : decode cX7_tallyAll 43 = .ok (.iload_n 2, 1) := by decide +kernel
theorem dX7_tallyAll_44 : decode cX7_tallyAll 44 = .ok (.iload_n 3, 1) := by decide +kernel
theorem dX7_tallyAll_45 : decode cX7_tallyAll 45 = .ok (.iload 4, 2) := by decide +kernel
theorem dX7_tallyAll_47 : decode cX7_tallyAll 47 = .ok (.invokevirtual 69, 3) := by decide +kernel
theorem dX7_tallyAll_50 : decode cX7_tallyAll 50 = .ok (.ifCond .eq 14, 3) := by decide +kernel
theorem dX7_tallyAll_53 : decode cX7_tallyAll 53 = .ok (.iinc 1 1, 3) := by decide +kernel
theorem dX7_tallyAll_56 : decode cX7_tallyAll 56 = .ok (.aload_n 0, 1) := by decide +kernel
theorem dX7_tallyAll_57 : decode cX7_tallyAll 57 = .ok (.iload_n 2, 1) := by decide +kernel
theorem dX7_tallyAll_58 : decode cX7_tallyAll 58 = .ok (.iload_n 3, 1) := by decide +kernel
theorem dX7_tallyAll_59 : decode cX7_tallyAll 59 = .ok (.iload 4, 2) := by decide +kernel
theorem dX7_tallyAll_61 : decode cX7_tallyAll 61 = .ok (.invokevirtual 86, 3) := by decide +kernel
theorem dX7_tallyAll_64 : decode cX7_tallyAll 64 = .ok (.iinc 4 1, 3) := by decide +kernel
theorem dX7_tallyAll_67 : decode cX7_tallyAll 67 = .ok (.goto (-31), 3) := by decide +kernel
theorem dX7_tallyAll_70 : decode cX7_tallyAll 70 = .ok (.iinc 3 1, 3) := by decide +kernel
theorem dX7_tallyAll_73 : decode cX7_tallyAll 73 = .ok (.goto (-46), 3) := by decide +kernel
theorem dX7_tallyAll_76 : decode cX7_tallyAll 76 = .ok (.iinc 2 1, 3) := by decide +kernel
theorem dX7_tallyAll_79 : decode cX7_tallyAll 79 = .ok (.goto (-60), 3) := by decide +kernel
theorem dX7_tallyAll_82 : decode cX7_tallyAll 82 = .ok (.iload_n 1, 1) := by decide +kernel
theorem dX7_tallyAll_83 : decode cX7_tallyAll 83 = .ok (.ireturn, 1) := by decide +kernel
theorem dX7_tallyHump_0 : decode cX7_tallyHump 0 = .ok (.iconst 1, 1) := by decide +kernel
theorem dX7_tallyHump_1 : decode cX7_tallyHump 1 = .ok (.istore 4, 2) := by decide +kernel
theorem dX7_tallyHump_3 : decode cX7_tallyHump 3 = .ok (.iload 4, 2) := by decide +kernel
theorem dX7_tallyHump_5 : decode cX7_tallyHump 5 = .ok (.bipush 16, 2) := by decide +kernel
theorem dX7_tallyHump_7 : decode cX7_tallyHump 7 = .ok (.if_icmp .ge 32, 3) := by decide +kernel
theorem dX7_tallyHump_10 : decode cX7_tallyHump 10 = .ok (.aload_n 0, 1) := by decide +kernel
theorem dX7_tallyHump_11 : decode cX7_tallyHump 11 = .ok (.getfield 36, 3) := by decide +kernel
theorem dX7_tallyHump_14 : decode cX7_tallyHump 14 = .ok (.iload 4, 2) := by decide +kernel
theorem dX7_tallyHump_16 : decode cX7_tallyHump 16 = .ok (.bipush 21, 2) := by decide +kernel
theorem dX7_tallyHump_18 : decode cX7_tallyHump 18 = .ok (.imul, 1) := by decide +kernel
theorem dX7_tallyHump_19 : decode cX7_tallyHump 19 = .ok (.iload 4, 2) := by decide +kernel
theorem dX7_tallyHump_21 : decode cX7_tallyHump 21 = .ok (.iload_n 1, 1) := by decide +kernel
theorem dX7_tallyHump_22 : decode cX7_tallyHump 22 = .ok (.iload_n 2, 1) := by decide +kernel
theorem dX7_tallyHump_23 : decode cX7_tallyHump 23 = .ok (.iload_n 3, 1) := by decide +kernel
theorem dX7_tallyHump_24 : decode cX7_tallyHump 24 = .ok (.invokestatic 49, 3) := by decide +kernel
theorem dX7_tallyHump_27 : decode cX7_tallyHump 27 = .ok (.iadd, 1) := by decide +kernel
theorem dX7_tallyHump_28 : decode cX7_tallyHump 28 = .ok (.dup2, 1) := by decide +kernel
theorem dX7_tallyHump_29 : decode cX7_tallyHump 29 = .ok (.iaload, 1) := by decide +kernel
theorem dX7_tallyHump_30 : decode cX7_tallyHump 30 = .ok (.iconst 1, 1) := by decide +kernel
theorem dX7_tallyHump_31 : decode cX7_tallyHump 31 = .ok (.iadd, 1) := by decide +kernel
theorem dX7_tallyHump_32 : decode cX7_tallyHump 32 = .ok (.iastore, 1) := by decide +kernel
theorem dX7_tallyHump_33 : decode cX7_tallyHump 33 = .ok (.iinc 4 1, 3) := by decide +kernel
theorem dX7_tallyHump_36 : decode cX7_tallyHump 36 = .ok (.goto (-33), 3) := by decide +kernel
theorem dX7_tallyHump_39 : decode cX7_tallyHump 39 = .ok (.return_, 1) := by decide +kernel
theorem dX8_init_0 : decode cX8_init 0 = .ok (.aload_n 0, 1) := by decide +kernel
theorem dX8_init_1 : decode cX8_init 1 = .ok (.invokespecial 1, 3) := by decide +kernel
theorem dX8_init_4 : decode cX8_init 4 = .ok (.aload_n 0, 1) := by decide +kernel
theorem dX8_init_5 : decode cX8_init 5 = .ok (.new 7, 3) := by decide +kernel
theorem dX8_init_8 : decode cX8_init 8 = .ok (.dup, 1) := by decide +kernel
theorem dX8_init_9 : decode cX8_init 9 = .ok (.invokespecial 9, 3) := by decide +kernel
theorem dX8_init_12 : decode cX8_init 12 = .ok (.putfield 10, 3) := by decide +kernel
theorem dX8_init_15 : decode cX8_init 15 = .ok (.aload_n 0, 1) := by decide +kernel
theorem dX8_init_16 : decode cX8_init 16 = .ok (.new 16, 3) := by decide +kernel
theorem dX8_init_19 : decode cX8_init 19 = .ok (.dup, 1) := by decide +kernel
theorem dX8_init_20 : decode cX8_init 20 = .ok (.invokespecial 18, 3) := by decide +kernel
theorem dX8_init_23 : decode cX8_init 23 = .ok (.putfield 19, 3) := by decide +kernel
theorem dX8_init_26 : decode cX8_init 26 = .ok (.aload_n 0, 1) := by decide +kernel
theorem dX8_init_27 : decode cX8_init 27 = .ok (.new 16, 3) := by decide +kernel
theorem dX8_init_30 : decode cX8_init 30 = .ok (.dup, 1) := by decide +kernel
theorem dX8_init_31 : decode cX8_init 31 = .ok (.invokespecial 18, 3) := by decide +kernel
theorem dX8_init_34 : decode cX8_init 34 = .ok (.putfield 23, 3) := by decide +kernel
theorem dX8_init_37 : decode cX8_init 37 = .ok (.aload_n 0, 1) := by decide +kernel
theorem dX8_init_38 : decode cX8_init 38 = .ok (.new 26, 3) := by decide +kernel
theorem dX8_init_41 : decode cX8_init 41 = .ok (.dup, 1) := by decide +kernel
theorem dX8_init_42 : decode cX8_init 42 = .ok (.invokespecial 28, 3) := by decide +kernel
theorem dX8_init_45 : decode cX8_init 45 = .ok (.putfield 29, 3) := by decide +kernel
theorem dX8_init_48 : decode cX8_init 48 = .ok (.aload_n 0, 1) := by decide +kernel
theorem dX8_init_49 : decode cX8_init 49 = .ok (.new 26, 3) := by decide +kernel
theorem dX8_init_52 : decode cX8_init 52 = .ok (.dup, 1) := by decide +kernel
theorem dX8_init_53 : decode cX8_init 53 = .ok (.invokespecial 28, 3) := by decide +kernel
theorem dX8_init_56 : decode cX8_init 56 = .ok (.putfield 33, 3) := by decide +kernel
theorem dX8_init_59 : decode cX8_init 59 = .ok (.aload_n 0, 1) := by decide +kernel
theorem dX8_init_60 : decode cX8_init 60 = .ok (.iconst 3, 1) := by decide +kernel
theorem dX8_init_61 : decode cX8_init 61 = .ok (.anewarray 36, 3) := by decide +kernel
theorem dX8_init_64 : decode cX8_init 64 = .ok (.putfield 38, 3) := by decide +kernel
theorem dX8_init_67 : decode cX8_init 67 = .ok (.aload_n 0, 1) := by decide +kernel
theorem dX8_init_68 : decode cX8_init 68 = .ok (.new 42, 3) := by decide +kernel
theorem dX8_init_71 : decode cX8_init 71 = .ok (.dup, 1) := by decide +kernel
theorem dX8_init_72 : decode cX8_init 72 = .ok (.invokespecial 44, 3) := by decide +kernel
theorem dX8_init_75 : decode cX8_init 75 = .ok (.putfield 45, 3) := by decide +kernel
theorem dX8_init_78 : decode cX8_init 78 = .ok (.aload_n 0, 1) := by decide +kernel
theorem dX8_init_79 : decode cX8_init 79 = .ok (.iconst 3, 1) := by decide +kernel
theorem dX8_init_80 : decode cX8_init 80 = .ok (.anewarray 42, 3) := by decide +kernel
theorem dX8_init_83 : decode cX8_init 83 = .ok (.putfield 49, 3) := by decide +kernel
theorem dX8_init_86 : decode cX8_init 86 = .ok (.aload_n 0, 1) := by decide +kernel
theorem dX8_init_87 : decode cX8_init 87 = .ok (.iconst 3, 1) := by decide +kernel
theorem dX8_init_88 : decode cX8_init 88 = .ok (.newarray .boolean, 2) := by decide +kernel
theorem dX8_init_90 : decode cX8_init 90 = .ok (.putfield 53, 3) := by decide +kernel
theorem dX8_init_93 : decode cX8_init 93 = .ok (.aload_n 0, 1) := by decide +kernel
theorem dX8_init_94 : decode cX8_init 94 = .ok (.new 57, 3) := by decide +kernel
theorem dX8_init_97 : decode cX8_init 97 = .ok (.dup, 1) := by decide +kernel
theorem dX8_init_98 : decode cX8_init 98 = .ok (.invokespecial 59, 3) := by decide +kernel
theorem dX8_init_101 : decode cX8_init 101 = .ok (.putfield 60, 3) := by decide +kernel
theorem dX8_init_104 : decode cX8_init 104 = .ok (.aload_n 0, 1) := by decide +kernel
theorem dX8_init_105 : decode cX8_init 105 = .ok (.new 64, 3) := by decide +kernel
theorem dX8_init_108 : decode cX8_init 108 = .ok (.dup, 1) := by decide +kernel
theorem dX8_init_109 : decode cX8_init 109 = .ok (.invokespecial 66, 3) := by decide +kernel
theorem dX8_init_112 : decode cX8_init 112 = .ok (.putfield 67, 3) := by decide +kernel
theorem dX8_init_115 : decode cX8_init 115 = .ok (.aload_n 0, 1) := by decide +kernel
theorem dX8_init_116 : decode cX8_init 116 = .ok (.new 71, 3) := by decide +kernel
theorem dX8_init_119 : decode cX8_init 119 = .ok (.dup, 1) := by decide +kernel
theorem dX8_init_120 : decode cX8_init 120 = .ok (.invokespecial 73, 3) := by decide +kernel
theorem dX8_init_123 : decode cX8_init 123 = .ok (.putfield 74, 3) := by decide +kernel
theorem dX8_init_126 : decode cX8_init 126 = .ok (.iconst 0, 1) := by decide +kernel
theorem dX8_init_127 : decode cX8_init 127 = .ok (.istore_n 1, 1) := by decide +kernel
theorem dX8_init_128 : decode cX8_init 128 = .ok (.iload_n 1, 1) := by decide +kernel
theorem dX8_init_129 : decode cX8_init 129 = .ok (.iconst 3, 1) := by decide +kernel
theorem dX8_init_130 : decode cX8_init 130 = .ok (.if_icmp .ge 22, 3) := by decide +kernel
theorem dX8_init_133 : decode cX8_init 133 = .ok (.aload_n 0, 1) := by decide +kernel
theorem dX8_init_134 : decode cX8_init 134 = .ok (.getfield 38, 3) := by decide +kernel
theorem dX8_init_137 : decode cX8_init 137 = .ok (.iload_n 1, 1) := by decide +kernel
theorem dX8_init_138 : decode cX8_init 138 = .ok (.new 36, 3) := by decide +kernel
theorem dX8_init_141 : decode cX8_init 141 = .ok (.dup, 1) := by decide +kernel
theorem dX8_init_142 : decode cX8_init 142 = .ok (.invokespecial 78, 3) := by decide +kernel
theorem dX8_init_145 : decode cX8_init 145 = .ok (.aastore, 1) := by decide +kernel
theorem dX8_init_146 : decode cX8_init 146 = .ok (.iinc 1 1, 3) := by decide +kernel
theorem dX8_init_149 : decode cX8_init 149 = .ok (.goto (-21), 3) := by decide +kernel
theorem dX8_init_152 : decode cX8_init 152 = .ok (.iconst 0, 1) := by decide +kernel
theorem dX8_init_153 : decode cX8_init 153 = .ok (.istore_n 1, 1) := by decide +kernel
theorem dX8_init_154 : decode cX8_init 154 = .ok (.iload_n 1, 1) := by decide +kernel
theorem dX8_init_155 : decode cX8_init 155 = .ok (.iconst 3, 1) := by decide +kernel
theorem dX8_init_156 : decode cX8_init 156 = .ok (.if_icmp .ge 22, 3) := by decide +kernel
theorem dX8_init_159 : decode cX8_init 159 = .ok (.aload_n 0, 1) := by decide +kernel
theorem dX8_init_160 : decode cX8_init 160 = .ok (.getfield 49, 3) := by decide +kernel
theorem dX8_init_163 : decode cX8_init 163 = .ok (.iload_n 1, 1) := by decide +kernel
theorem dX8_init_164 : decode cX8_init 164 = .ok (.new 42, 3) := by decide +kernel
theorem dX8_init_167 : decode cX8_init 167 = .ok (.dup, 1) := by decide +kernel
theorem dX8_init_168 : decode cX8_init 168 = .ok (.invokespecial 44, 3) := by decide +kernel
theorem dX8_init_171 : decode cX8_init 171 = .ok (.aastore, 1) := by decide +kernel
theorem dX8_init_172 : decode cX8_init 172 = .ok (.iinc 1 1, 3) := by decide +kernel
theorem dX8_init_175 : decode cX8_init 175 = .ok (.goto (-21), 3) := by decide +kernel
theorem dX8_init_178 : decode cX8_init 178 = .ok (.aload_n 0, 1) := by decide +kernel
theorem dX8_init_179 : decode cX8_init 179 = .ok (.getfield 45, 3) := by decide +kernel
theorem dX8_init_182 : decode cX8_init 182 = .ok (.aload_n 0, 1) := by decide +kernel
theorem dX8_init_183 : decode cX8_init 183 = .ok (.getfield 19, 3) := by decide +kernel
theorem dX8_init_186 : decode cX8_init 186 = .ok (.invokevirtual 79, 3) := by decide +kernel
theorem dX8_init_189 : decode cX8_init 189 = .ok (.return_, 1) := by decide +kernel
theorem dX8_feed_0 : decode cX8_feed 0 = .ok (.aload_n 0, 1) := by decide +kernel
theorem dX8_feed_1 : decode cX8_feed 1 = .ok (.getfield 10, 3) := by decide +kernel
theorem dX8_feed_4 : decode cX8_feed 4 = .ok (.getfield 83, 3) := by decide +kernel
theorem dX8_feed_7 : decode cX8_feed 7 = .ok (.bipush 20, 2) := by decide +kernel
theorem dX8_feed_9 : decode cX8_feed 9 = .ok (.iadd, 1) := by decide +kernel
theorem dX8_feed_10 : decode cX8_feed 10 = .ok (.sipush 900, 3) := by decide +kernel
theorem dX8_feed_13 : decode cX8_feed 13 = .ok (.if_icmp .le 6, 3) := by decide +kernel
theorem dX8_feed_16 : decode cX8_feed 16 = .ok (.bipush (-3), 2) := by decide +kernel
theorem dX8_feed_18 : decode cX8_feed 18 = .ok (.ireturn, 1) := by decide +kernel
theorem dX8_feed_19 : decode cX8_feed 19 = .ok (.aload_n 0, 1) := by decide +kernel
theorem dX8_feed_20 : decode cX8_feed 20 = .ok (.getfield 10, 3) := by decide +kernel
theorem dX8_feed_23 : decode cX8_feed 23 = .ok (.iload_n 1, 1) := by decide +kernel
theorem dX8_feed_24 : decode cX8_feed 24 = .ok (.invokevirtual 87, 3) := by decide +kernel
theorem dX8_feed_27 : decode cX8_feed 27 = .ok (.aload_n 0, 1) := by decide +kernel
theorem dX8_feed_28 : decode cX8_feed 28 = .ok (.getfield 10, 3) := by decide +kernel
theorem dX8_feed_31 : decode cX8_feed 31 = .ok (.iload_n 2, 1) := by decide +kernel
theorem dX8_feed_32 : decode cX8_feed 32 = .ok (.invokevirtual 87, 3) := by decide +kernel
theorem dX8_feed_35 : decode cX8_feed 35 = .ok (.aload_n 0, 1) := by decide +kernel
theorem dX8_feed_36 : decode cX8_feed 36 = .ok (.getfield 10, 3) := by decide +kernel
theorem dX8_feed_39 : decode cX8_feed 39 = .ok (.iload_n 3, 1) := by decide +kernel
theorem dX8_feed_40 : decode cX8_feed 40 = .ok (.invokevirtual 87, 3) := by decide +kernel
theorem dX8_feed_43 : decode cX8_feed 43 = .ok (.aload_n 0, 1) := by decide +kernel
theorem dX8_feed_44 : decode cX8_feed 44 = .ok (.getfield 10, 3) := by decide +kernel
theorem dX8_feed_47 : decode cX8_feed 47 = .ok (.iload 4, 2) := by decide +kernel
theorem dX8_feed_49 : decode cX8_feed 49 = .ok (.invokevirtual 87, 3) := by decide +kernel
theorem dX8_feed_52 : decode cX8_feed 52 = .ok (.aload_n 0, 1) := by decide +kernel
theorem dX8_feed_53 : decode cX8_feed 53 = .ok (.getfield 10, 3) := by decide +kernel
theorem dX8_feed_56 : decode cX8_feed 56 = .ok (.iload 5, 2) := by decide +kernel
theorem dX8_feed_58 : decode cX8_feed 58 = .ok (.invokevirtual 87, 3) := by decide +kernel
theorem dX8_feed_61 : decode cX8_feed 61 = .ok (.aload_n 0, 1) := by decide +kernel
theorem dX8_feed_62 : decode cX8_feed 62 = .ok (.getfield 10, 3) := by decide +kernel
theorem dX8_feed_65 : decode cX8_feed 65 = .ok (.getfield 83, 3) := by decide +kernel
theorem dX8_feed_68 : decode cX8_feed 68 = .ok (.ireturn, 1) := by decide +kernel
theorem dX8_end_0 : decode cX8_end 0 = .ok (.iload_n 1, 1) := by decide +kernel
theorem dX8_end_1 : decode cX8_end 1 = .ok (.ifCond .lt 14, 3) := by decide +kernel
theorem dX8_end_4 : decode cX8_end 4 = .ok (.iload_n 1, 1) := by decide +kernel
theorem dX8_end_5 : decode cX8_end 5 = .ok (.aload_n 0, 1) := by decide +kernel
theorem dX8_end_6 : decode cX8_end 6 = .ok (.getfield 10, 3) := by decide +kernel
theorem dX8_end_9 : decode cX8_end 9 = .ok (.getfield 83, 3) := by decide +kernel
theorem dX8_end_12 : decode cX8_end 12 = .ok (.if_icmp .le 5, 3) := by decide +kernel
theorem dX8_end_15 : decode cX8_end 15 = .ok (.iconst (-1), 1) := by decide +kernel
theorem dX8_end_16 : decode cX8_end 16 = .ok (.ireturn, 1) := by decide +kernel
theorem dX8_end_17 : decode cX8_end 17 = .ok (.aload_n 0, 1) := by decide +kernel
theorem dX8_end_18 : decode cX8_end 18 = .ok (.getfield 10, 3) := by decide +kernel
theorem dX8_end_21 : decode cX8_end 21 = .ok (.iload_n 1, 1) := by decide +kernel
theorem dX8_end_22 : decode cX8_end 22 = .ok (.putfield 83, 3) := by decide +kernel
theorem dX8_end_25 : decode cX8_end 25 = .ok (.iload_n 1, 1) := by decide +kernel
theorem dX8_end_26 : decode cX8_end 26 = .ok (.ireturn, 1) := by decide +kernel
theorem dX8_beach_0 : decode cX8_beach 0 = .ok (.aload_n 0, 1) := by decide +kernel
theorem dX8_beach_1 : decode cX8_beach 1 = .ok (.getfield 10, 3) := by decide +kernel
theorem dX8_beach_4 : decode cX8_beach 4 = .ok (.invokevirtual 91, 3) := by decide +kernel
theorem dX8_beach_7 : decode cX8_beach 7 = .ok (.aload_n 0, 1) := by decide +kernel
theorem dX8_beach_8 : decode cX8_beach 8 = .ok (.getfield 23, 3) := by decide +kernel
theorem dX8_beach_11 : decode cX8_beach 11 = .ok (.aload_n 0, 1) := by decide +kernel
theorem dX8_beach_12 : decode cX8_beach 12 = .ok (.getfield 10, 3) := by decide +kernel
theorem dX8_beach_15 : decode cX8_beach 15 = .ok (.invokevirtual 94, 3) := by decide +kernel
theorem dX8_beach_18 : decode cX8_beach 18 = .ok (.aload_n 0, 1) := by decide +kernel
theorem dX8_beach_19 : decode cX8_beach 19 = .ok (.getfield 10, 3) := by decide +kernel
theorem dX8_beach_22 : decode cX8_beach 22 = .ok (.iconst 0, 1) := by decide +kernel
theorem dX8_beach_23 : decode cX8_beach 23 = .ok (.putfield 83, 3) := by decide +kernel
theorem dX8_beach_26 : decode cX8_beach 26 = .ok (.aload_n 0, 1) := by decide +kernel
theorem dX8_beach_27 : decode cX8_beach 27 = .ok (.getfield 10, 3) := by decide +kernel
theorem dX8_beach_30 : decode cX8_beach 30 = .ok (.invokevirtual 98, 3) := by decide +kernel
theorem dX8_beach_33 : decode cX8_beach 33 = .ok (.ifCond .eq 5, 3) := by decide +kernel
theorem dX8_beach_36 : decode cX8_beach 36 = .ok (.iconst (-1), 1) := by decide +kernel
theorem dX8_beach_37 : decode cX8_beach 37 = .ok (.ireturn, 1) := by decide +kernel
theorem dX8_beach_38 : decode cX8_beach 38 = .ok (.aload_n 0, 1) := by decide +kernel
theorem dX8_beach_39 : decode cX8_beach 39 = .ok (.getfield 23, 3) := by decide +kernel
theorem dX8_beach_42 : decode cX8_beach 42 = .ok (.astore_n 1, 1) := by decide +kernel
theorem dX8_beach_43 : decode cX8_beach 43 = .ok (.aload_n 0, 1) := by decide +kernel
theorem dX8_beach_44 : decode cX8_beach 44 = .ok (.aload_n 0, 1) := by decide +kernel
theorem dX8_beach_45 : decode cX8_beach 45 = .ok (.getfield 19, 3) := by decide +kernel
theorem dX8_beach_48 : decode cX8_beach 48 = .ok (.putfield 23, 3) := by decide +kernel
theorem dX8_beach_51 : decode cX8_beach 51 = .ok (.aload_n 0, 1) := by decide +kernel
theorem dX8_beach_52 : decode cX8_beach 52 = .ok (.aload_n 1, 1) := by decide +kernel
theorem dX8_beach_53 : decode cX8_beach 53 = .ok (.putfield 19, 3) := by decide +kernel
theorem dX8_beach_56 : decode cX8_beach 56 = .ok (.aload_n 0, 1) := by decide +kernel
theorem dX8_beach_57 : decode cX8_beach 57 = .ok (.iconst 0, 1) := by decide +kernel
theorem dX8_beach_58 : decode cX8_beach 58 = .ok (.putfield 102, 3) := by decide +kernel
theorem dX8_beach_61 : decode cX8_beach 61 = .ok (.iconst 0, 1) := by decide +kernel
theorem dX8_beach_62 : decode cX8_beach 62 = .ok (.istore_n 2, 1) := by decide +kernel
theorem dX8_beach_63 : decode cX8_beach 63 = .ok (.iload_n 2, 1) := by decide +kernel
theorem dX8_beach_64 : decode cX8_beach 64 = .ok (.iconst 3, 1) := by decide +kernel
theorem dX8_beach_65 : decode cX8_beach 65 = .ok (.if_icmp .ge 16, 3) := by decide +kernel
theorem dX8_beach_68 : decode cX8_beach 68 = .ok (.aload_n 0, 1) := by decide +kernel
theorem dX8_beach_69 : decode cX8_beach 69 = .ok (.getfield 53, 3) := by decide +kernel
theorem dX8_beach_72 : decode cX8_beach 72 = .ok (.iload_n 2, 1) := by decide +kernel
theorem dX8_beach_73 : decode cX8_beach 73 = .ok (.iconst 0, 1) := by decide +kernel
theorem dX8_beach_74 : decode cX8_beach 74 = .ok (.bastore, 1) := by decide +kernel
theorem dX8_beach_75 : decode cX8_beach 75 = .ok (.iinc 2 1, 3) := by decide +kernel
theorem dX8_beach_78 : decode cX8_beach 78 = .ok (.goto (-15), 3) := by decide +kernel
theorem dX8_beach_81 : decode cX8_beach 81 = .ok (.aload_n 0, 1) := by decide +kernel
theorem dX8_beach_82 : decode cX8_beach 82 = .ok (.getfield 45, 3) := by decide +kernel
theorem dX8_beach_85 : decode cX8_beach 85 = .ok (.aload_n 0, 1) := by decide +kernel
theorem dX8_beach_86 : decode cX8_beach 86 = .ok (.getfield 19, 3) := by decide +kernel
theorem dX8_beach_89 : decode cX8_beach 89 = .ok (.invokevirtual 79, 3) := by decide +kernel
theorem dX8_beach_92 : decode cX8_beach 92 = .ok (.aload_n 0, 1) := by decide +kernel
theorem dX8_beach_93 : decode cX8_beach 93 = .ok (.getfield 19, 3) := by decide +kernel
theorem dX8_beach_96 : decode cX8_beach 96 = .ok (.getfield 105, 3) := by decide +kernel
theorem dX8_beach_99 : decode cX8_beach 99 = .ok (.ireturn, 1) := by decide +kernel
theorem dX8_sea_0 : decode cX8_sea 0 = .ok (.aload_n 0, 1) := by decide +kernel
theorem dX8_sea_1 : decode cX8_sea 1 = .ok (.getfield 10, 3) := by decide +kernel
theorem dX8_sea_4 : decode cX8_sea 4 = .ok (.invokevirtual 91, 3) := by decide +kernel
theorem dX8_sea_7 : decode cX8_sea 7 = .ok (.aload_n 0, 1) := by decide +kernel
theorem dX8_sea_8 : decode cX8_sea 8 = .ok (.getfield 33, 3) := by decide +kernel
theorem dX8_sea_11 : decode cX8_sea 11 = .ok (.aload_n 0, 1) := by decide +kernel
theorem dX8_sea_12 : decode cX8_sea 12 = .ok (.getfield 10, 3) := by decide +kernel
theorem dX8_sea_15 : decode cX8_sea 15 = .ok (.invokevirtual 108, 3) := by decide +kernel
theorem dX8_sea_18 : decode cX8_sea 18 = .ok (.aload_n 0, 1) := by decide +kernel
theorem dX8_sea_19 : decode cX8_sea 19 = .ok (.getfield 10, 3) := by decide +kernel
theorem dX8_sea_22 : decode cX8_sea 22 = .ok (.iconst 0, 1) := by decide +kernel
theorem dX8_sea_23 : decode cX8_sea 23 = .ok (.putfield 83, 3) := by decide +kernel
theorem dX8_sea_26 : decode cX8_sea 26 = .ok (.aload_n 0, 1) := by decide +kernel
theorem dX8_sea_27 : decode cX8_sea 27 = .ok (.getfield 10, 3) := by decide +kernel
theorem dX8_sea_30 : decode cX8_sea 30 = .ok (.invokevirtual 98, 3) := by decide +kernel
theorem dX8_sea_33 : decode cX8_sea 33 = .ok (.ifCond .eq 5, 3) := by decide +kernel
theorem dX8_sea_36 : decode cX8_sea 36 = .ok (.iconst (-1), 1) := by decide +kernel
theorem dX8_sea_37 : decode cX8_sea 37 = .ok (.ireturn, 1) := by decide +kernel
theorem dX8_sea_38 : decode cX8_sea 38 = .ok (.aload_n 0, 1) := by decide +kernel
theorem dX8_sea_39 : decode cX8_sea 39 = .ok (.getfield 33, 3) := by decide +kernel
theorem dX8_sea_42 : decode cX8_sea 42 = .ok (.astore_n 1, 1) := by decide +kernel
theorem dX8_sea_43 : decode cX8_sea 43 = .ok (.aload_n 0, 1) := by decide +kernel
theorem dX8_sea_44 : decode cX8_sea 44 = .ok (.aload_n 0, 1) := by decide +kernel
theorem dX8_sea_45 : decode cX8_sea 45 = .ok (.getfield 29, 3) := by decide +kernel
theorem dX8_sea_48 : decode cX8_sea 48 = .ok (.putfield 33, 3) := by decide +kernel
theorem dX8_sea_51 : decode cX8_sea 51 = .ok (.aload_n 0, 1) := by decide +kernel
theorem dX8_sea_52 : decode cX8_sea 52 = .ok (.aload_n 1, 1) := by decide +kernel
theorem dX8_sea_53 : decode cX8_sea 53 = .ok (.putfield 29, 3) := by decide +kernel
theorem dX8_sea_56 : decode cX8_sea 56 = .ok (.aload_n 0, 1) := by decide +kernel
theorem dX8_sea_57 : decode cX8_sea 57 = .ok (.getfield 29, 3) := by decide +kernel
theorem dX8_sea_60 : decode cX8_sea 60 = .ok (.getfield 109, 3) := by decide +kernel
theorem dX8_sea_63 : decode cX8_sea 63 = .ok (.ireturn, 1) := by decide +kernel
theorem dX8_plan_0 : decode cX8_plan 0 = .ok (.aload_n 0, 1) := by decide +kernel
theorem dX8_plan_1 : decode cX8_plan 1 = .ok (.getfield 102, 3) := by decide +kernel
theorem dX8_plan_4 : decode cX8_plan 4 = .ok (.iconst 3, 1) := by decide +kernel
theorem dX8_plan_5 : decode cX8_plan 5 = .ok (.if_icmp .lt 14, 3) := by decide +kernel
theorem dX8_plan_8 : decode cX8_plan 8 = .ok (.aload_n 0, 1) := by decide +kernel
theorem dX8_plan_9 : decode cX8_plan 9 = .ok (.getfield 10, 3) := by decide +kernel
theorem dX8_plan_12 : decode cX8_plan 12 = .ok (.iconst 0, 1) := by decide +kernel
theorem dX8_plan_13 : decode cX8_plan 13 = .ok (.putfield 83, 3) := by decide +kernel
theorem dX8_plan_16 : decode cX8_plan 16 = .ok (.bipush (-3), 2) := by decide +kernel
theorem dX8_plan_18 : decode cX8_plan 18 = .ok (.ireturn, 1) := by decide +kernel
theorem dX8_plan_19 : decode cX8_plan 19 = .ok (.aload_n 0, 1) := by decide +kernel
theorem dX8_plan_20 : decode cX8_plan 20 = .ok (.getfield 10, 3) := by decide +kernel
theorem dX8_plan_23 : decode cX8_plan 23 = .ok (.invokevirtual 91, 3) := by decide +kernel
theorem dX8_plan_26 : decode cX8_plan 26 = .ok (.aload_n 0, 1) := by decide +kernel
theorem dX8_plan_27 : decode cX8_plan 27 = .ok (.getfield 38, 3) := by decide +kernel
theorem dX8_plan_30 : decode cX8_plan 30 = .ok (.aload_n 0, 1) := by decide +kernel
theorem dX8_plan_31 : decode cX8_plan 31 = .ok (.getfield 102, 3) := by decide +kernel
theorem dX8_plan_34 : decode cX8_plan 34 = .ok (.aaload, 1) := by decide +kernel
theorem dX8_plan_35 : decode cX8_plan 35 = .ok (.aload_n 0, 1) := by decide +kernel
theorem dX8_plan_36 : decode cX8_plan 36 = .ok (.getfield 10, 3) := by decide +kernel
theorem dX8_plan_39 : decode cX8_plan 39 = .ok (.aload_n 0, 1) := by decide +kernel
theorem dX8_plan_40 : decode cX8_plan 40 = .ok (.getfield 19, 3) := by decide +kernel
theorem dX8_plan_43 : decode cX8_plan 43 = .ok (.invokevirtual 110, 3) := by decide +kernel
theorem dX8_plan_46 : decode cX8_plan 46 = .ok (.aload_n 0, 1) := by decide +kernel
theorem dX8_plan_47 : decode cX8_plan 47 = .ok (.getfield 10, 3) := by decide +kernel
theorem dX8_plan_50 : decode cX8_plan 50 = .ok (.iconst 0, 1) := by decide +kernel
theorem dX8_plan_51 : decode cX8_plan 51 = .ok (.putfield 83, 3) := by decide +kernel
theorem dX8_plan_54 : decode cX8_plan 54 = .ok (.aload_n 0, 1) := by decide +kernel
theorem dX8_plan_55 : decode cX8_plan 55 = .ok (.getfield 10, 3) := by decide +kernel
theorem dX8_plan_58 : decode cX8_plan 58 = .ok (.invokevirtual 98, 3) := by decide +kernel
theorem dX8_plan_61 : decode cX8_plan 61 = .ok (.ifCond .eq 5, 3) := by decide +kernel
theorem dX8_plan_64 : decode cX8_plan 64 = .ok (.iconst (-1), 1) := by decide +kernel
theorem dX8_plan_65 : decode cX8_plan 65 = .ok (.ireturn, 1) := by decide +kernel
theorem dX8_plan_66 : decode cX8_plan 66 = .ok (.aload_n 0, 1) := by decide +kernel
theorem dX8_plan_67 : decode cX8_plan 67 = .ok (.dup, 1) := by decide +kernel
theorem dX8_plan_68 : decode cX8_plan 68 = .ok (.getfield 102, 3) := by decide +kernel
theorem dX8_plan_71 : decode cX8_plan 71 = .ok (.iconst 1, 1) := by decide +kernel
theorem dX8_plan_72 : decode cX8_plan 72 = .ok (.iadd, 1) := by decide +kernel
theorem dX8_plan_73 : decode cX8_plan 73 = .ok (.putfield 102, 3) := by decide +kernel
theorem dX8_plan_76 : decode cX8_plan 76 = .ok (.aload_n 0, 1) := by decide +kernel
theorem dX8_plan_77 : decode cX8_plan 77 = .ok (.getfield 102, 3) := by decide +kernel
theorem dX8_plan_80 : decode cX8_plan 80 = .ok (.iconst 1, 1) := by decide +kernel
theorem dX8_plan_81 : decode cX8_plan 81 = .ok (.isub, 1) := by decide +kernel
theorem dX8_plan_82 : decode cX8_plan 82 = .ok (.ireturn, 1) := by decide +kernel
theorem dX8_fault_0 : decode cX8_fault 0 = .ok (.iload_n 1, 1) := by decide +kernel
theorem dX8_fault_1 : decode cX8_fault 1 = .ok (.lookupswitch 47 #[(0, 27), (1, 37)], 27) := by decide +kernel
theorem dX8_fault_28 : decode cX8_fault 28 = .ok (.aload_n 0, 1) := by decide +kernel
theorem dX8_fault_29 : decode cX8_fault 29 = .ok (.getfield 10, 3) := by decide +kernel
theorem dX8_fault_32 : decode cX8_fault 32 = .ok (.getfield 113, 3) := by decide +kernel
theorem dX8_fault_35 : decode cX8_fault 35 = .ok (.goto 14, 3) := by decide +kernel
theorem dX8_fault_38 : decode cX8_fault 38 = .ok (.aload_n 0, 1) := by decide +kernel
theorem dX8_fault_39 : decode cX8_fault 39 = .ok (.getfield 10, 3) := by decide +kernel
theorem dX8_fault_42 : decode cX8_fault 42 = .ok (.getfield 116, 3) := by decide +kernel
theorem dX8_fault_45 : decode cX8_fault 45 = .ok (.goto 4, 3) := by decide +kernel
theorem dX8_fault_48 : decode cX8_fault 48 = .ok (.iconst (-1), 1) := by decide +kernel
theorem dX8_fault_49 : decode cX8_fault 49 = .ok (.ireturn, 1) := by decide +kernel
theorem dX8_told_0 : decode cX8_told 0 = .ok (.iload_n 1, 1) := by decide +kernel
theorem dX8_told_1 : decode cX8_told 1 = .ok (.ifCond .lt 19, 3) := by decide +kernel
theorem dX8_told_4 : decode cX8_told 4 = .ok (.iload_n 1, 1) := by decide +kernel
theorem dX8_told_5 : decode cX8_told 5 = .ok (.bipush 11, 2) := by decide +kernel
theorem dX8_told_7 : decode cX8_told 7 = .ok (.if_icmp .ge 13, 3) := by decide +kernel
theorem dX8_told_10 : decode cX8_told 10 = .ok (.aload_n 0, 1) := by decide +kernel
theorem dX8_told_11 : decode cX8_told 11 = .ok (.getfield 19, 3) := by decide +kernel
theorem dX8_told_14 : decode cX8_told 14 = .ok (.getfield 119, 3) := by decide +kernel
theorem dX8_told_17 : decode cX8_told 17 = .ok (.iload_n 1, 1) := by decide +kernel
theorem dX8_told_18 : decode cX8_told 18 = .ok (.iaload, 1) := by decide +kernel
theorem dX8_told_19 : decode cX8_told 19 = .ok (.ireturn, 1) := by decide +kernel
theorem dX8_told_20 : decode cX8_told 20 = .ok (.iload_n 1, 1) := by decide +kernel
theorem dX8_told_21 : decode cX8_told 21 = .ok (.bipush 13, 2) := by decide +kernel
theorem dX8_told_23 : decode cX8_told 23 = .ok (.isub, 1) := by decide +kernel
theorem dX8_told_24 : decode cX8_told 24 = .ok (.istore_n 2, 1) := by decide +kernel
theorem dX8_told_25 : decode cX8_told 25 = .ok (.iload_n 2, 1) := by decide +kernel
theorem dX8_told_26 : decode cX8_told 26 = .ok (.ifCond .lt 19, 3) := by decide +kernel
theorem dX8_told_29 : decode cX8_told 29 = .ok (.iload_n 2, 1) := by decide +kernel
theorem dX8_told_30 : decode cX8_told 30 = .ok (.bipush 9, 2) := by decide +kernel
theorem dX8_told_32 : decode cX8_told 32 = .ok (.if_icmp .ge 13, 3) := by decide +kernel
theorem dX8_told_35 : decode cX8_told 35 = .ok (.aload_n 0, 1) := by decide +kernel
theorem dX8_told_36 : decode cX8_told 36 = .ok (.getfield 29, 3) := by decide +kernel
theorem dX8_told_39 : decode cX8_told 39 = .ok (.getfield 123, 3) := by decide +kernel
theorem dX8_told_42 : decode cX8_told 42 = .ok (.iload_n 2, 1) := by decide +kernel
theorem dX8_told_43 : decode cX8_told 43 = .ok (.iaload, 1) := by decide +kernel
theorem dX8_told_44 : decode cX8_told 44 = .ok (.ireturn, 1) := by decide +kernel
theorem dX8_told_45 : decode cX8_told 45 = .ok (.iload_n 1, 1) := by decide +kernel
theorem dX8_told_46 : decode cX8_told 46 = .ok (.lookupswitch 79 #[(11, 42), (12, 52), (22, 62), (23, 69)], 42) := by decide +kernel
theorem dX8_told_88 : decode cX8_told 88 = .ok (.aload_n 0, 1) := by decide +kernel
theorem dX8_told_89 : decode cX8_told 89 = .ok (.getfield 19, 3) := by decide +kernel
theorem dX8_told_92 : decode cX8_told 92 = .ok (.getfield 124, 3) := by decide +kernel
theorem dX8_told_95 : decode cX8_told 95 = .ok (.goto 31, 3) := by decide +kernel
theorem dX8_told_98 : decode cX8_told 98 = .ok (.aload_n 0, 1) := by decide +kernel
theorem dX8_told_99 : decode cX8_told 99 = .ok (.getfield 29, 3) := by decide +kernel
theorem dX8_told_102 : decode cX8_told 102 = .ok (.getfield 127, 3) := by decide +kernel
theorem dX8_told_105 : decode cX8_told 105 = .ok (.goto 21, 3) := by decide +kernel
theorem dX8_told_108 : decode cX8_told 108 = .ok (.aload_n 0, 1) := by decide +kernel
theorem dX8_told_109 : decode cX8_told 109 = .ok (.getfield 102, 3) := by decide +kernel
theorem dX8_told_112 : decode cX8_told 112 = .ok (.goto 14, 3) := by decide +kernel
theorem dX8_told_115 : decode cX8_told 115 = .ok (.aload_n 0, 1) := by decide +kernel
theorem dX8_told_116 : decode cX8_told 116 = .ok (.getfield 45, 3) := by decide +kernel
theorem dX8_told_119 : decode cX8_told 119 = .ok (.getfield 130, 3) := by decide +kernel
theorem dX8_told_122 : decode cX8_told 122 = .ok (.goto 4, 3) := by decide +kernel
theorem dX8_told_125 : decode cX8_told 125 = .ok (.iconst (-1), 1) := by decide +kernel
theorem dX8_told_126 : decode cX8_told 126 = .ok (.ireturn, 1) := by decide +kernel
theorem dX8_wave_0 : decode cX8_wave 0 = .ok (.iload_n 1, 1) := by decide +kernel
theorem dX8_wave_1 : decode cX8_wave 1 = .ok (.ifCond .lt 14, 3) := by decide +kernel
theorem dX8_wave_4 : decode cX8_wave 4 = .ok (.iload_n 1, 1) := by decide +kernel
theorem dX8_wave_5 : decode cX8_wave 5 = .ok (.aload_n 0, 1) := by decide +kernel
theorem dX8_wave_6 : decode cX8_wave 6 = .ok (.getfield 29, 3) := by decide +kernel
theorem dX8_wave_9 : decode cX8_wave 9 = .ok (.getfield 127, 3) := by decide +kernel
theorem dX8_wave_12 : decode cX8_wave 12 = .ok (.if_icmp .lt 6, 3) := by decide +kernel
theorem dX8_wave_15 : decode cX8_wave 15 = .ok (.bipush (-2), 2) := by decide +kernel
theorem dX8_wave_17 : decode cX8_wave 17 = .ok (.ireturn, 1) := by decide +kernel
theorem dX8_wave_18 : decode cX8_wave 18 = .ok (.iload_n 2, 1) := by decide +kernel
theorem dX8_wave_19 : decode cX8_wave 19 = .ok (.tableswitch 61 0 2 #[25, 37, 49], 25) := by decide +kernel
theorem dX8_wave_44 : decode cX8_wave 44 = .ok (.aload_n 0, 1) := by decide +kernel
theorem dX8_wave_45 : decode cX8_wave 45 = .ok (.getfield 29, 3) := by decide +kernel
theorem dX8_wave_48 : decode cX8_wave 48 = .ok (.getfield 133, 3) := by decide +kernel
theorem dX8_wave_51 : decode cX8_wave 51 = .ok (.iload_n 1, 1) := by decide +kernel
theorem dX8_wave_52 : decode cX8_wave 52 = .ok (.iaload, 1) := by decide +kernel
theorem dX8_wave_53 : decode cX8_wave 53 = .ok (.goto 29, 3) := by decide +kernel
theorem dX8_wave_56 : decode cX8_wave 56 = .ok (.aload_n 0, 1) := by decide +kernel
theorem dX8_wave_57 : decode cX8_wave 57 = .ok (.getfield 29, 3) := by decide +kernel
theorem dX8_wave_60 : decode cX8_wave 60 = .ok (.getfield 136, 3) := by decide +kernel
theorem dX8_wave_63 : decode cX8_wave 63 = .ok (.iload_n 1, 1) := by decide +kernel
theorem dX8_wave_64 : decode cX8_wave 64 = .ok (.iaload, 1) := by decide +kernel
theorem dX8_wave_65 : decode cX8_wave 65 = .ok (.goto 17, 3) := by decide +kernel
theorem dX8_wave_68 : decode cX8_wave 68 = .ok (.aload_n 0, 1) := by decide +kernel
theorem dX8_wave_69 : decode cX8_wave 69 = .ok (.getfield 29, 3) := by decide +kernel
theorem dX8_wave_72 : decode cX8_wave 72 = .ok (.getfield 139, 3) := by decide +kernel
theorem dX8_wave_75 : decode cX8_wave 75 = .ok (.iload_n 1, 1) := by decide +kernel
theorem dX8_wave_76 : decode cX8_wave 76 = .ok (.iaload, 1) := by decide +kernel
theorem dX8_wave_77 : decode cX8_wave 77 = .ok (.goto 5, 3) := by decide +kernel
theorem dX8_wave_80 : decode cX8_wave 80 = .ok (.bipush (-2), 2) := by decide +kernel
theorem dX8_wave_82 : decode cX8_wave 82 = .ok (.ireturn, 1) := by decide +kernel
theorem dX8_act_0 : decode cX8_act 0 = .ok (.iload_n 1, 1) := by decide +kernel
theorem dX8_act_1 : decode cX8_act 1 = .ok (.ifCond .lt 11, 3) := by decide +kernel
theorem dX8_act_4 : decode cX8_act 4 = .ok (.iload_n 1, 1) := by decide +kernel
theorem dX8_act_5 : decode cX8_act 5 = .ok (.aload_n 0, 1) := by decide +kernel
theorem dX8_act_6 : decode cX8_act 6 = .ok (.getfield 102, 3) := by decide +kernel
theorem dX8_act_9 : decode cX8_act 9 = .ok (.if_icmp .lt 6, 3) := by decide +kernel
theorem dX8_act_12 : decode cX8_act 12 = .ok (.bipush (-2), 2) := by decide +kernel
theorem dX8_act_14 : decode cX8_act 14 = .ok (.ireturn, 1) := by decide +kernel
theorem dX8_act_15 : decode cX8_act 15 = .ok (.aload_n 0, 1) := by decide +kernel
theorem dX8_act_16 : decode cX8_act 16 = .ok (.getfield 38, 3) := by decide +kernel
theorem dX8_act_19 : decode cX8_act 19 = .ok (.iload_n 1, 1) := by decide +kernel
theorem dX8_act_20 : decode cX8_act 20 = .ok (.aaload, 1) := by decide +kernel
theorem dX8_act_21 : decode cX8_act 21 = .ok (.astore 5, 2) := by decide +kernel
theorem dX8_act_23 : decode cX8_act 23 = .ok (.iload_n 2, 1) := by decide +kernel
theorem dX8_act_24 : decode cX8_act 24 = .ok (.iconst (-1), 1) := by decide +kernel
theorem dX8_act_25 : decode cX8_act 25 = .ok (.if_icmp .ne 9, 3) := by decide +kernel
theorem dX8_act_28 : decode cX8_act 28 = .ok (.aload 5, 2) := by decide +kernel
theorem dX8_act_30 : decode cX8_act 30 = .ok (.getfield 142, 3) := by decide +kernel
theorem dX8_act_33 : decode cX8_act 33 = .ok (.ireturn, 1) := by decide +kernel
theorem dX8_act_34 : decode cX8_act 34 = .ok (.iload_n 2, 1) := by decide +kernel
theorem dX8_act_35 : decode cX8_act 35 = .ok (.ifCond .lt 12, 3) := by decide +kernel
theorem dX8_act_38 : decode cX8_act 38 = .ok (.iload_n 2, 1) := by decide +kernel
theorem dX8_act_39 : decode cX8_act 39 = .ok (.aload 5, 2) := by decide +kernel
theorem dX8_act_41 : decode cX8_act 41 = .ok (.getfield 142, 3) := by decide +kernel
theorem dX8_act_44 : decode cX8_act 44 = .ok (.if_icmp .lt 6, 3) := by decide +kernel
theorem dX8_act_47 : decode cX8_act 47 = .ok (.bipush (-2), 2) := by decide +kernel
theorem dX8_act_49 : decode cX8_act 49 = .ok (.ireturn, 1) := by decide +kernel
theorem dX8_act_50 : decode cX8_act 50 = .ok (.iload_n 3, 1) := by decide +kernel
theorem dX8_act_51 : decode cX8_act 51 = .ok (.iconst (-1), 1) := by decide +kernel
theorem dX8_act_52 : decode cX8_act 52 = .ok (.if_icmp .ne 11, 3) := by decide +kernel
theorem dX8_act_55 : decode cX8_act 55 = .ok (.aload 5, 2) := by decide +kernel
theorem dX8_act_57 : decode cX8_act 57 = .ok (.getfield 145, 3) := by decide +kernel
theorem dX8_act_60 : decode cX8_act 60 = .ok (.iload_n 2, 1) := by decide +kernel
theorem dX8_act_61 : decode cX8_act 61 = .ok (.iaload, 1) := by decide +kernel
theorem dX8_act_62 : decode cX8_act 62 = .ok (.ireturn, 1) := by decide +kernel
theorem dX8_act_63 : decode cX8_act 63 = .ok (.iload_n 3, 1) := by decide +kernel
theorem dX8_act_64 : decode cX8_act 64 = .ok (.ifCond .lt 14, 3) := by decide +kernel
theorem dX8_act_67 : decode cX8_act 67 = .ok (.iload_n 3, 1) := by decide +kernel
theorem dX8_act_68 : decode cX8_act 68 = .ok (.aload 5, 2) := by decide +kernel
theorem dX8_act_70 : decode cX8_act 70 = .ok (.getfield 145, 3) := by decide +kernel
theorem dX8_act_73 : decode cX8_act 73 = .ok (.iload_n 2, 1) := by decide +kernel
theorem dX8_act_74 : decode cX8_act 74 = .ok (.iaload, 1) := by decide +kernel
theorem dX8_act_75 : decode cX8_act 75 = .ok (.if_icmp .lt 6, 3) := by decide +kernel
theorem dX8_act_78 : decode cX8_act 78 = .ok (.bipush (-2), 2) := by decide +kernel
theorem dX8_act_80 : decode cX8_act 80 = .ok (.ireturn, 1) := by decide +kernel
theorem dX8_act_81 : decode cX8_act 81 = .ok (.iload_n 2, 1) := by decide +kernel
theorem dX8_act_82 : decode cX8_act 82 = .ok (.bipush 8, 2) := by decide +kernel
theorem dX8_act_84 : decode cX8_act 84 = .ok (.imul, 1) := by decide +kernel
theorem dX8_act_85 : decode cX8_act 85 = .ok (.iload_n 3, 1) := by decide +kernel
theorem dX8_act_86 : decode cX8_act 86 = .ok (.iadd, 1) := by decide +kernel
theorem dX8_act_87 : decode cX8_act 87 = .ok (.istore 6, 2) := by decide +kernel
theorem dX8_act_89 : decode cX8_act 89 = .ok (.iload 4, 2) := by decide +kernel
theorem dX8_act_91 : decode cX8_act 91 = .ok (.tableswitch 58 0 2 #[25, 36, 47], 25) := by decide +kernel
theorem dX8_act_116 : decode cX8_act 116 = .ok (.aload 5, 2) := by decide +kernel
theorem dX8_act_118 : decode cX8_act 118 = .ok (.getfield 148, 3) := by decide +kernel
theorem dX8_act_121 : decode cX8_act 121 = .ok (.iload 6, 2) := by decide +kernel
theorem dX8_act_123 : decode cX8_act 123 = .ok (.iaload, 1) := by decide +kernel
theorem dX8_act_124 : decode cX8_act 124 = .ok (.goto 27, 3) := by decide +kernel
theorem dX8_act_127 : decode cX8_act 127 = .ok (.aload 5, 2) := by decide +kernel
theorem dX8_act_129 : decode cX8_act 129 = .ok (.getfield 151, 3) := by decide +kernel
theorem dX8_act_132 : decode cX8_act 132 = .ok (.iload 6, 2) := by decide +kernel
theorem dX8_act_134 : decode cX8_act 134 = .ok (.iaload, 1) := by decide +kernel
theorem dX8_act_135 : decode cX8_act 135 = .ok (.goto 16, 3) := by decide +kernel
theorem dX8_act_138 : decode cX8_act 138 = .ok (.aload 5, 2) := by decide +kernel
theorem dX8_act_140 : decode cX8_act 140 = .ok (.getfield 154, 3) := by decide +kernel
theorem dX8_act_143 : decode cX8_act 143 = .ok (.iload 6, 2) := by decide +kernel
theorem dX8_act_145 : decode cX8_act 145 = .ok (.iaload, 1) := by decide +kernel
theorem dX8_act_146 : decode cX8_act 146 = .ok (.goto 5, 3) := by decide +kernel
theorem dX8_act_149 : decode cX8_act 149 = .ok (.bipush (-2), 2) := by decide +kernel
theorem dX8_act_151 : decode cX8_act 151 = .ok (.ireturn, 1) := by decide +kernel
theorem dX8_chance_0 : decode cX8_chance 0 = .ok (.iload_n 1, 1) := by decide +kernel
theorem dX8_chance_1 : decode cX8_chance 1 = .ok (.ifCond .ge 6, 3) := by decide +kernel
theorem dX8_chance_4 : decode cX8_chance 4 = .ok (.bipush (-2), 2) := by decide +kernel
theorem dX8_chance_6 : decode cX8_chance 6 = .ok (.ireturn, 1) := by decide +kernel
theorem dX8_chance_7 : decode cX8_chance 7 = .ok (.aload_n 0, 1) := by decide +kernel
theorem dX8_chance_8 : decode cX8_chance 8 = .ok (.getfield 45, 3) := by decide +kernel
theorem dX8_chance_11 : decode cX8_chance 11 = .ok (.iload_n 1, 1) := by decide +kernel
theorem dX8_chance_12 : decode cX8_chance 12 = .ok (.putfield 157, 3) := by decide +kernel
theorem dX8_chance_15 : decode cX8_chance 15 = .ok (.iconst 1, 1) := by decide +kernel
theorem dX8_chance_16 : decode cX8_chance 16 = .ok (.ireturn, 1) := by decide +kernel
theorem dX8_work_0 : decode cX8_work 0 = .ok (.aload_n 0, 1) := by decide +kernel
theorem dX8_work_1 : decode cX8_work 1 = .ok (.iload_n 1, 1) := by decide +kernel
theorem dX8_work_2 : decode cX8_work 2 = .ok (.invokevirtual 160, 3) := by decide +kernel
theorem dX8_work_5 : decode cX8_work 5 = .ok (.ifCond .ne 6, 3) := by decide +kernel
theorem dX8_work_8 : decode cX8_work 8 = .ok (.bipush (-2), 2) := by decide +kernel
theorem dX8_work_10 : decode cX8_work 10 = .ok (.ireturn, 1) := by decide +kernel
theorem dX8_work_11 : decode cX8_work 11 = .ok (.aload_n 0, 1) := by decide +kernel
theorem dX8_work_12 : decode cX8_work 12 = .ok (.getfield 45, 3) := by decide +kernel
theorem dX8_work_15 : decode cX8_work 15 = .ok (.iload_n 1, 1) := by decide +kernel
theorem dX8_work_16 : decode cX8_work 16 = .ok (.invokevirtual 164, 3) := by decide +kernel
theorem dX8_work_19 : decode cX8_work 19 = .ok (.iconst 1, 1) := by decide +kernel
theorem dX8_work_20 : decode cX8_work 20 = .ok (.ireturn, 1) := by decide +kernel
theorem dX8_pass_0 : decode cX8_pass 0 = .ok (.iload_n 1, 1) := by decide +kernel
theorem dX8_pass_1 : decode cX8_pass 1 = .ok (.ifCond .lt 10, 3) := by decide +kernel
theorem dX8_pass_4 : decode cX8_pass 4 = .ok (.iload_n 1, 1) := by decide +kernel
theorem dX8_pass_5 : decode cX8_pass 5 = .ok (.sipush 360, 3) := by decide +kernel
theorem dX8_pass_8 : decode cX8_pass 8 = .ok (.if_icmp .le 6, 3) := by decide +kernel
theorem dX8_pass_11 : decode cX8_pass 11 = .ok (.bipush (-2), 2) := by decide +kernel
theorem dX8_pass_13 : decode cX8_pass 13 = .ok (.ireturn, 1) := by decide +kernel
theorem dX8_pass_14 : decode cX8_pass 14 = .ok (.aload_n 0, 1) := by decide +kernel
theorem dX8_pass_15 : decode cX8_pass 15 = .ok (.aload_n 0, 1) := by decide +kernel
theorem dX8_pass_16 : decode cX8_pass 16 = .ok (.getfield 45, 3) := by decide +kernel
theorem dX8_pass_19 : decode cX8_pass 19 = .ok (.getfield 130, 3) := by decide +kernel
theorem dX8_pass_22 : decode cX8_pass 22 = .ok (.invokevirtual 167, 3) := by decide +kernel
theorem dX8_pass_25 : decode cX8_pass 25 = .ok (.astore_n 2, 1) := by decide +kernel
theorem dX8_pass_26 : decode cX8_pass 26 = .ok (.iconst 0, 1) := by decide +kernel
theorem dX8_pass_27 : decode cX8_pass 27 = .ok (.istore_n 3, 1) := by decide +kernel
theorem dX8_pass_28 : decode cX8_pass 28 = .ok (.iload_n 3, 1) := by decide +kernel
theorem dX8_pass_29 : decode cX8_pass 29 = .ok (.iload_n 1, 1) := by decide +kernel
theorem dX8_pass_30 : decode cX8_pass 30 = .ok (.if_icmp .ge 25, 3) := by decide +kernel
theorem dX8_pass_33 : decode cX8_pass 33 = .ok (.aload_n 0, 1) := by decide +kernel
theorem dX8_pass_34 : decode cX8_pass 34 = .ok (.getfield 45, 3) := by decide +kernel
theorem dX8_pass_37 : decode cX8_pass 37 = .ok (.aload_n 0, 1) := by decide +kernel
theorem dX8_pass_38 : decode cX8_pass 38 = .ok (.getfield 19, 3) := by decide +kernel
theorem dX8_pass_41 : decode cX8_pass 41 = .ok (.aload_n 0, 1) := by decide +kernel
theorem dX8_pass_42 : decode cX8_pass 42 = .ok (.getfield 29, 3) := by decide +kernel
theorem dX8_pass_45 : decode cX8_pass 45 = .ok (.aload_n 2, 1) := by decide +kernel
theorem dX8_pass_46 : decode cX8_pass 46 = .ok (.invokevirtual 171, 3) := by decide +kernel
theorem dX8_pass_49 : decode cX8_pass 49 = .ok (.iinc 3 1, 3) := by decide +kernel
theorem dX8_pass_52 : decode cX8_pass 52 = .ok (.goto (-24), 3) := by decide +kernel
theorem dX8_pass_55 : decode cX8_pass 55 = .ok (.aload_n 0, 1) := by decide +kernel
theorem dX8_pass_56 : decode cX8_pass 56 = .ok (.getfield 45, 3) := by decide +kernel
theorem dX8_pass_59 : decode cX8_pass 59 = .ok (.getfield 175, 3) := by decide +kernel
theorem dX8_pass_62 : decode cX8_pass 62 = .ok (.ireturn, 1) := by decide +kernel
theorem dX8_cell_0 : decode cX8_cell 0 = .ok (.iload_n 1, 1) := by decide +kernel
theorem dX8_cell_1 : decode cX8_cell 1 = .ok (.ifCond .lt 29, 3) := by decide +kernel
theorem dX8_cell_4 : decode cX8_cell 4 = .ok (.iload_n 1, 1) := by decide +kernel
theorem dX8_cell_5 : decode cX8_cell 5 = .ok (.aload_n 0, 1) := by decide +kernel
theorem dX8_cell_6 : decode cX8_cell 6 = .ok (.getfield 19, 3) := by decide +kernel
theorem dX8_cell_9 : decode cX8_cell 9 = .ok (.invokevirtual 178, 3) := by decide +kernel
theorem dX8_cell_12 : decode cX8_cell 12 = .ok (.if_icmp .ge 18, 3) := by decide +kernel
theorem dX8_cell_15 : decode cX8_cell 15 = .ok (.iload_n 2, 1) := by decide +kernel
theorem dX8_cell_16 : decode cX8_cell 16 = .ok (.ifCond .lt 14, 3) := by decide +kernel
theorem dX8_cell_19 : decode cX8_cell 19 = .ok (.iload_n 2, 1) := by decide +kernel
theorem dX8_cell_20 : decode cX8_cell 20 = .ok (.aload_n 0, 1) := by decide +kernel
theorem dX8_cell_21 : decode cX8_cell 21 = .ok (.getfield 19, 3) := by decide +kernel
theorem dX8_cell_24 : decode cX8_cell 24 = .ok (.invokevirtual 182, 3) := by decide +kernel
theorem dX8_cell_27 : decode cX8_cell 27 = .ok (.if_icmp .lt 6, 3) := by decide +kernel
theorem dX8_cell_30 : decode cX8_cell 30 = .ok (.bipush (-2), 2) := by decide +kernel
theorem dX8_cell_32 : decode cX8_cell 32 = .ok (.ireturn, 1) := by decide +kernel
theorem dX8_cell_33 : decode cX8_cell 33 = .ok (.iload_n 2, 1) := by decide +kernel
theorem dX8_cell_34 : decode cX8_cell 34 = .ok (.aload_n 0, 1) := by decide +kernel
theorem dX8_cell_35 : decode cX8_cell 35 = .ok (.getfield 19, 3) := by decide +kernel
theorem dX8_cell_38 : decode cX8_cell 38 = .ok (.invokevirtual 178, 3) := by decide +kernel
theorem dX8_cell_41 : decode cX8_cell 41 = .ok (.imul, 1) := by decide +kernel
theorem dX8_cell_42 : decode cX8_cell 42 = .ok (.iload_n 1, 1) := by decide +kernel
theorem dX8_cell_43 : decode cX8_cell 43 = .ok (.iadd, 1) := by decide +kernel
theorem dX8_cell_44 : decode cX8_cell 44 = .ok (.istore 4, 2) := by decide +kernel
theorem dX8_cell_46 : decode cX8_cell 46 = .ok (.iload_n 3, 1) := by decide +kernel
theorem dX8_cell_47 : decode cX8_cell 47 = .ok (.tableswitch 115 0 4 #[33, 46, 59, 72, 85], 33) := by decide +kernel
theorem dX8_cell_80 : decode cX8_cell 80 = .ok (.aload_n 0, 1) := by decide +kernel
theorem dX8_cell_81 : decode cX8_cell 81 = .ok (.getfield 45, 3) := by decide +kernel
theorem dX8_cell_84 : decode cX8_cell 84 = .ok (.getfield 185, 3) := by decide +kernel
theorem dX8_cell_87 : decode cX8_cell 87 = .ok (.iload 4, 2) := by decide +kernel
theorem dX8_cell_89 : decode cX8_cell 89 = .ok (.iaload, 1) := by decide +kernel
theorem dX8_cell_90 : decode cX8_cell 90 = .ok (.goto 74, 3) := by decide +kernel
theorem dX8_cell_93 : decode cX8_cell 93 = .ok (.aload_n 0, 1) := by decide +kernel
theorem dX8_cell_94 : decode cX8_cell 94 = .ok (.getfield 45, 3) := by decide +kernel
theorem dX8_cell_97 : decode cX8_cell 97 = .ok (.getfield 188, 3) := by decide +kernel
theorem dX8_cell_100 : decode cX8_cell 100 = .ok (.iload 4, 2) := by decide +kernel
theorem dX8_cell_102 : decode cX8_cell 102 = .ok (.iaload, 1) := by decide +kernel
theorem dX8_cell_103 : decode cX8_cell 103 = .ok (.goto 61, 3) := by decide +kernel
theorem dX8_cell_106 : decode cX8_cell 106 = .ok (.aload_n 0, 1) := by decide +kernel
theorem dX8_cell_107 : decode cX8_cell 107 = .ok (.getfield 45, 3) := by decide +kernel
theorem dX8_cell_110 : decode cX8_cell 110 = .ok (.getfield 191, 3) := by decide +kernel
theorem dX8_cell_113 : decode cX8_cell 113 = .ok (.iload 4, 2) := by decide +kernel
theorem dX8_cell_115 : decode cX8_cell 115 = .ok (.iaload, 1) := by decide +kernel
theorem dX8_cell_116 : decode cX8_cell 116 = .ok (.goto 48, 3) := by decide +kernel
theorem dX8_cell_119 : decode cX8_cell 119 = .ok (.aload_n 0, 1) := by decide +kernel
theorem dX8_cell_120 : decode cX8_cell 120 = .ok (.getfield 45, 3) := by decide +kernel
theorem dX8_cell_123 : decode cX8_cell 123 = .ok (.getfield 194, 3) := by decide +kernel
theorem dX8_cell_126 : decode cX8_cell 126 = .ok (.iload 4, 2) := by decide +kernel
theorem dX8_cell_128 : decode cX8_cell 128 = .ok (.iaload, 1) := by decide +kernel
theorem dX8_cell_129 : decode cX8_cell 129 = .ok (.goto 35, 3) := by decide +kernel
theorem dX8_cell_132 : decode cX8_cell 132 = .ok (.aload_n 0, 1) := by decide +kernel
theorem dX8_cell_133 : decode cX8_cell 133 = .ok (.getfield 19, 3) := by decide +kernel
theorem dX8_cell_136 : decode cX8_cell 136 = .ok (.aload_n 0, 1) := by decide +kernel
theorem dX8_cell_137 : decode cX8_cell 137 = .ok (.getfield 45, 3) := by decide +kernel
theorem dX8_cell_140 : decode cX8_cell 140 = .ok (.getfield 188, 3) := by decide +kernel
theorem dX8_cell_143 : decode cX8_cell 143 = .ok (.iload 4, 2) := by decide +kernel
theorem dX8_cell_145 : decode cX8_cell 145 = .ok (.iaload, 1) := by decide +kernel
theorem dX8_cell_146 : decode cX8_cell 146 = .ok (.aload_n 0, 1) := by decide +kernel
theorem dX8_cell_147 : decode cX8_cell 147 = .ok (.getfield 45, 3) := by decide +kernel
theorem dX8_cell_150 : decode cX8_cell 150 = .ok (.getfield 191, 3) := by decide +kernel
theorem dX8_cell_153 : decode cX8_cell 153 = .ok (.iload 4, 2) := by decide +kernel
theorem dX8_cell_155 : decode cX8_cell 155 = .ok (.iaload, 1) := by decide +kernel
theorem dX8_cell_156 : decode cX8_cell 156 = .ok (.invokevirtual 197, 3) := by decide +kernel
theorem dX8_cell_159 : decode cX8_cell 159 = .ok (.goto 5, 3) := by decide +kernel
theorem dX8_cell_162 : decode cX8_cell 162 = .ok (.bipush (-2), 2) := by decide +kernel
theorem dX8_cell_164 : decode cX8_cell 164 = .ok (.ireturn, 1) := by decide +kernel
theorem dX8_flag_0 : decode cX8_flag 0 = .ok (.aload_n 0, 1) := by decide +kernel
theorem dX8_flag_1 : decode cX8_flag 1 = .ok (.iload_n 1, 1) := by decide +kernel
theorem dX8_flag_2 : decode cX8_flag 2 = .ok (.invokevirtual 201, 3) := by decide +kernel
theorem dX8_flag_5 : decode cX8_flag 5 = .ok (.ifCond .ne 6, 3) := by decide +kernel
theorem dX8_flag_8 : decode cX8_flag 8 = .ok (.bipush (-2), 2) := by decide +kernel
theorem dX8_flag_10 : decode cX8_flag 10 = .ok (.ireturn, 1) := by decide +kernel
theorem dX8_flag_11 : decode cX8_flag 11 = .ok (.iload_n 2, 1) := by decide +kernel
theorem dX8_flag_12 : decode cX8_flag 12 = .ok (.tableswitch 96 0 3 #[32, 53, 65, 84], 32) := by decide +kernel
theorem dX8_flag_44 : decode cX8_flag 44 = .ok (.aload_n 0, 1) := by decide +kernel
theorem dX8_flag_45 : decode cX8_flag 45 = .ok (.getfield 45, 3) := by decide +kernel
theorem dX8_flag_48 : decode cX8_flag 48 = .ok (.getfield 204, 3) := by decide +kernel
theorem dX8_flag_51 : decode cX8_flag 51 = .ok (.iload_n 1, 1) := by decide +kernel
theorem dX8_flag_52 : decode cX8_flag 52 = .ok (.iaload, 1) := by decide +kernel
theorem dX8_flag_53 : decode cX8_flag 53 = .ok (.iconst (-1), 1) := by decide +kernel
theorem dX8_flag_54 : decode cX8_flag 54 = .ok (.if_icmp .ne 7, 3) := by decide +kernel
theorem dX8_flag_57 : decode cX8_flag 57 = .ok (.iconst 1, 1) := by decide +kernel
theorem dX8_flag_58 : decode cX8_flag 58 = .ok (.goto 52, 3) := by decide +kernel
theorem dX8_flag_61 : decode cX8_flag 61 = .ok (.iconst 0, 1) := by decide +kernel
theorem dX8_flag_62 : decode cX8_flag 62 = .ok (.goto 48, 3) := by decide +kernel
theorem dX8_flag_65 : decode cX8_flag 65 = .ok (.aload_n 0, 1) := by decide +kernel
theorem dX8_flag_66 : decode cX8_flag 66 = .ok (.getfield 19, 3) := by decide +kernel
theorem dX8_flag_69 : decode cX8_flag 69 = .ok (.getfield 207, 3) := by decide +kernel
theorem dX8_flag_72 : decode cX8_flag 72 = .ok (.iload_n 1, 1) := by decide +kernel
theorem dX8_flag_73 : decode cX8_flag 73 = .ok (.iaload, 1) := by decide +kernel
theorem dX8_flag_74 : decode cX8_flag 74 = .ok (.goto 36, 3) := by decide +kernel
theorem dX8_flag_77 : decode cX8_flag 77 = .ok (.aload_n 0, 1) := by decide +kernel
theorem dX8_flag_78 : decode cX8_flag 78 = .ok (.getfield 19, 3) := by decide +kernel
theorem dX8_flag_81 : decode cX8_flag 81 = .ok (.aload_n 0, 1) := by decide +kernel
theorem dX8_flag_82 : decode cX8_flag 82 = .ok (.getfield 19, 3) := by decide +kernel
theorem dX8_flag_85 : decode cX8_flag 85 = .ok (.getfield 207, 3) := by decide +kernel
theorem dX8_flag_88 : decode cX8_flag 88 = .ok (.iload_n 1, 1) := by decide +kernel
theorem dX8_flag_89 : decode cX8_flag 89 = .ok (.iaload, 1) := by decide +kernel
theorem dX8_flag_90 : decode cX8_flag 90 = .ok (.invokevirtual 210, 3) := by decide +kernel
theorem dX8_flag_93 : decode cX8_flag 93 = .ok (.goto 17, 3) := by decide +kernel
theorem dX8_flag_96 : decode cX8_flag 96 = .ok (.aload_n 0, 1) := by decide +kernel
theorem dX8_flag_97 : decode cX8_flag 97 = .ok (.getfield 45, 3) := by decide +kernel
theorem dX8_flag_100 : decode cX8_flag 100 = .ok (.getfield 204, 3) := by decide +kernel
theorem dX8_flag_103 : decode cX8_flag 103 = .ok (.iload_n 1, 1) := by decide +kernel
theorem dX8_flag_104 : decode cX8_flag 104 = .ok (.iaload, 1) := by decide +kernel
theorem dX8_flag_105 : decode cX8_flag 105 = .ok (.goto 5, 3) := by decide +kernel
theorem dX8_flag_108 : decode cX8_flag 108 = .ok (.bipush (-2), 2) := by decide +kernel
theorem dX8_flag_110 : decode cX8_flag 110 = .ok (.ireturn, 1) := by decide +kernel
theorem dX8_sum_0 : decode cX8_sum 0 = .ok (.iload_n 1, 1) := by decide +kernel
theorem dX8_sum_1 : decode cX8_sum 1 = .ok (.tableswitch 120 0 6 #[43, 60, 70, 80, 90, 100, 110], 43) := by decide +kernel
theorem dX8_sum_44 : decode cX8_sum 44 = .ok (.aload_n 0, 1) := by decide +kernel
theorem dX8_sum_45 : decode cX8_sum 45 = .ok (.getfield 45, 3) := by decide +kernel
theorem dX8_sum_48 : decode cX8_sum 48 = .ok (.aload_n 0, 1) := by decide +kernel
theorem dX8_sum_49 : decode cX8_sum 49 = .ok (.getfield 19, 3) := by decide +kernel
theorem dX8_sum_52 : decode cX8_sum 52 = .ok (.invokevirtual 214, 3) := by decide +kernel
theorem dX8_sum_55 : decode cX8_sum 55 = .ok (.invokevirtual 216, 3) := by decide +kernel
theorem dX8_sum_58 : decode cX8_sum 58 = .ok (.goto 64, 3) := by decide +kernel
theorem dX8_sum_61 : decode cX8_sum 61 = .ok (.aload_n 0, 1) := by decide +kernel
theorem dX8_sum_62 : decode cX8_sum 62 = .ok (.getfield 45, 3) := by decide +kernel
theorem dX8_sum_65 : decode cX8_sum 65 = .ok (.getfield 219, 3) := by decide +kernel
theorem dX8_sum_68 : decode cX8_sum 68 = .ok (.goto 54, 3) := by decide +kernel
theorem dX8_sum_71 : decode cX8_sum 71 = .ok (.aload_n 0, 1) := by decide +kernel
theorem dX8_sum_72 : decode cX8_sum 72 = .ok (.getfield 45, 3) := by decide +kernel
theorem dX8_sum_75 : decode cX8_sum 75 = .ok (.getfield 175, 3) := by decide +kernel
theorem dX8_sum_78 : decode cX8_sum 78 = .ok (.goto 44, 3) := by decide +kernel
theorem dX8_sum_81 : decode cX8_sum 81 = .ok (.aload_n 0, 1) := by decide +kernel
theorem dX8_sum_82 : decode cX8_sum 82 = .ok (.getfield 45, 3) := by decide +kernel
theorem dX8_sum_85 : decode cX8_sum 85 = .ok (.getfield 222, 3) := by decide +kernel
theorem dX8_sum_88 : decode cX8_sum 88 = .ok (.goto 34, 3) := by decide +kernel
theorem dX8_sum_91 : decode cX8_sum 91 = .ok (.aload_n 0, 1) := by decide +kernel
theorem dX8_sum_92 : decode cX8_sum 92 = .ok (.getfield 45, 3) := by decide +kernel
theorem dX8_sum_95 : decode cX8_sum 95 = .ok (.getfield 225, 3) := by decide +kernel
theorem dX8_sum_98 : decode cX8_sum 98 = .ok (.goto 24, 3) := by decide +kernel
theorem dX8_sum_101 : decode cX8_sum 101 = .ok (.aload_n 0, 1) := by decide +kernel
theorem dX8_sum_102 : decode cX8_sum 102 = .ok (.getfield 45, 3) := by decide +kernel
theorem dX8_sum_105 : decode cX8_sum 105 = .ok (.getfield 228, 3) := by decide +kernel
theorem dX8_sum_108 : decode cX8_sum 108 = .ok (.goto 14, 3) := by decide +kernel
theorem dX8_sum_111 : decode cX8_sum 111 = .ok (.aload_n 0, 1) := by decide +kernel
theorem dX8_sum_112 : decode cX8_sum 112 = .ok (.getfield 45, 3) := by decide +kernel
theorem dX8_sum_115 : decode cX8_sum 115 = .ok (.getfield 231, 3) := by decide +kernel
theorem dX8_sum_118 : decode cX8_sum 118 = .ok (.goto 4, 3) := by decide +kernel
theorem dX8_sum_121 : decode cX8_sum 121 = .ok (.iconst (-1), 1) := by decide +kernel
theorem dX8_sum_122 : decode cX8_sum 122 = .ok (.ireturn, 1) := by decide +kernel
theorem dX8_keep_0 : decode cX8_keep 0 = .ok (.iload_n 1, 1) := by decide +kernel
theorem dX8_keep_1 : decode cX8_keep 1 = .ok (.ifCond .lt 8, 3) := by decide +kernel
theorem dX8_keep_4 : decode cX8_keep 4 = .ok (.iload_n 1, 1) := by decide +kernel
theorem dX8_keep_5 : decode cX8_keep 5 = .ok (.iconst 3, 1) := by decide +kernel
theorem dX8_keep_6 : decode cX8_keep 6 = .ok (.if_icmp .lt 6, 3) := by decide +kernel
theorem dX8_keep_9 : decode cX8_keep 9 = .ok (.bipush (-2), 2) := by decide +kernel
theorem dX8_keep_11 : decode cX8_keep 11 = .ok (.ireturn, 1) := by decide +kernel
theorem dX8_keep_12 : decode cX8_keep 12 = .ok (.aload_n 0, 1) := by decide +kernel
theorem dX8_keep_13 : decode cX8_keep 13 = .ok (.getfield 49, 3) := by decide +kernel
theorem dX8_keep_16 : decode cX8_keep 16 = .ok (.iload_n 1, 1) := by decide +kernel
theorem dX8_keep_17 : decode cX8_keep 17 = .ok (.aaload, 1) := by decide +kernel
theorem dX8_keep_18 : decode cX8_keep 18 = .ok (.aload_n 0, 1) := by decide +kernel
theorem dX8_keep_19 : decode cX8_keep 19 = .ok (.getfield 45, 3) := by decide +kernel
theorem dX8_keep_22 : decode cX8_keep 22 = .ok (.invokevirtual 234, 3) := by decide +kernel
theorem dX8_keep_25 : decode cX8_keep 25 = .ok (.aload_n 0, 1) := by decide +kernel
theorem dX8_keep_26 : decode cX8_keep 26 = .ok (.getfield 53, 3) := by decide +kernel
theorem dX8_keep_29 : decode cX8_keep 29 = .ok (.iload_n 1, 1) := by decide +kernel
theorem dX8_keep_30 : decode cX8_keep 30 = .ok (.iconst 1, 1) := by decide +kernel
theorem dX8_keep_31 : decode cX8_keep 31 = .ok (.bastore, 1) := by decide +kernel
theorem dX8_keep_32 : decode cX8_keep 32 = .ok (.aload_n 0, 1) := by decide +kernel
theorem dX8_keep_33 : decode cX8_keep 33 = .ok (.getfield 45, 3) := by decide +kernel
theorem dX8_keep_36 : decode cX8_keep 36 = .ok (.getfield 175, 3) := by decide +kernel
theorem dX8_keep_39 : decode cX8_keep 39 = .ok (.ireturn, 1) := by decide +kernel
theorem dX8_take_0 : decode cX8_take 0 = .ok (.iload_n 1, 1) := by decide +kernel
theorem dX8_take_1 : decode cX8_take 1 = .ok (.ifCond .lt 8, 3) := by decide +kernel
theorem dX8_take_4 : decode cX8_take 4 = .ok (.iload_n 1, 1) := by decide +kernel
theorem dX8_take_5 : decode cX8_take 5 = .ok (.iconst 3, 1) := by decide +kernel
theorem dX8_take_6 : decode cX8_take 6 = .ok (.if_icmp .lt 6, 3) := by decide +kernel
theorem dX8_take_9 : decode cX8_take 9 = .ok (.bipush (-2), 2) := by decide +kernel
theorem dX8_take_11 : decode cX8_take 11 = .ok (.ireturn, 1) := by decide +kernel
theorem dX8_take_12 : decode cX8_take 12 = .ok (.aload_n 0, 1) := by decide +kernel
theorem dX8_take_13 : decode cX8_take 13 = .ok (.getfield 53, 3) := by decide +kernel
theorem dX8_take_16 : decode cX8_take 16 = .ok (.iload_n 1, 1) := by decide +kernel
theorem dX8_take_17 : decode cX8_take 17 = .ok (.baload, 1) := by decide +kernel
theorem dX8_take_18 : decode cX8_take 18 = .ok (.ifCond .ne 6, 3) := by decide +kernel
theorem dX8_take_21 : decode cX8_take 21 = .ok (.bipush (-4), 2) := by decide +kernel
theorem dX8_take_23 : decode cX8_take 23 = .ok (.ireturn, 1) := by decide +kernel
theorem dX8_take_24 : decode cX8_take 24 = .ok (.aload_n 0, 1) := by decide +kernel
theorem dX8_take_25 : decode cX8_take 25 = .ok (.getfield 45, 3) := by decide +kernel
theorem dX8_take_28 : decode cX8_take 28 = .ok (.aload_n 0, 1) := by decide +kernel
theorem dX8_take_29 : decode cX8_take 29 = .ok (.getfield 49, 3) := by decide +kernel
theorem dX8_take_32 : decode cX8_take 32 = .ok (.iload_n 1, 1) := by decide +kernel
theorem dX8_take_33 : decode cX8_take 33 = .ok (.aaload, 1) := by decide +kernel
theorem dX8_take_34 : decode cX8_take 34 = .ok (.invokevirtual 234, 3) := by decide +kernel
theorem dX8_take_37 : decode cX8_take 37 = .ok (.aload_n 0, 1) := by decide +kernel
theorem dX8_take_38 : decode cX8_take 38 = .ok (.getfield 45, 3) := by decide +kernel
theorem dX8_take_41 : decode cX8_take 41 = .ok (.getfield 175, 3) := by decide +kernel
theorem dX8_take_44 : decode cX8_take 44 = .ok (.ireturn, 1) := by decide +kernel
theorem dX8_holds_0 : decode cX8_holds 0 = .ok (.iload_n 1, 1) := by decide +kernel
theorem dX8_holds_1 : decode cX8_holds 1 = .ok (.iload_n 2, 1) := by decide +kernel
theorem dX8_holds_2 : decode cX8_holds 2 = .ok (.invokestatic 238, 3) := by decide +kernel
theorem dX8_holds_5 : decode cX8_holds 5 = .ok (.ifCond .eq 15, 3) := by decide +kernel
theorem dX8_holds_8 : decode cX8_holds 8 = .ok (.aload_n 0, 1) := by decide +kernel
theorem dX8_holds_9 : decode cX8_holds 9 = .ok (.getfield 19, 3) := by decide +kernel
theorem dX8_holds_12 : decode cX8_holds 12 = .ok (.iload_n 1, 1) := by decide +kernel
theorem dX8_holds_13 : decode cX8_holds 13 = .ok (.iload_n 2, 1) := by decide +kernel
theorem dX8_holds_14 : decode cX8_holds 14 = .ok (.invokevirtual 197, 3) := by decide +kernel
theorem dX8_holds_17 : decode cX8_holds 17 = .ok (.goto 5, 3) := by decide +kernel
theorem dX8_holds_20 : decode cX8_holds 20 = .ok (.bipush (-2), 2) := by decide +kernel
theorem dX8_holds_22 : decode cX8_holds 22 = .ok (.ireturn, 1) := by decide +kernel
theorem dX8_high_0 : decode cX8_high 0 = .ok (.iload_n 1, 1) := by decide +kernel
theorem dX8_high_1 : decode cX8_high 1 = .ok (.iconst 1, 1) := by decide +kernel
theorem dX8_high_2 : decode cX8_high 2 = .ok (.if_icmp .lt 17, 3) := by decide +kernel
theorem dX8_high_5 : decode cX8_high 5 = .ok (.iload_n 1, 1) := by decide +kernel
theorem dX8_high_6 : decode cX8_high 6 = .ok (.bipush 40, 2) := by decide +kernel
theorem dX8_high_8 : decode cX8_high 8 = .ok (.if_icmp .gt 11, 3) := by decide +kernel
theorem dX8_high_11 : decode cX8_high 11 = .ok (.iload_n 2, 1) := by decide +kernel
theorem dX8_high_12 : decode cX8_high 12 = .ok (.iload_n 3, 1) := by decide +kernel
theorem dX8_high_13 : decode cX8_high 13 = .ok (.invokestatic 238, 3) := by decide +kernel
theorem dX8_high_16 : decode cX8_high 16 = .ok (.ifCond .ne 6, 3) := by decide +kernel
theorem dX8_high_19 : decode cX8_high 19 = .ok (.bipush (-2), 2) := by decide +kernel
theorem dX8_high_21 : decode cX8_high 21 = .ok (.ireturn, 1) := by decide +kernel
theorem dX8_high_22 : decode cX8_high 22 = .ok (.aload_n 0, 1) := by decide +kernel
theorem dX8_high_23 : decode cX8_high 23 = .ok (.getfield 19, 3) := by decide +kernel
theorem dX8_high_26 : decode cX8_high 26 = .ok (.iload_n 2, 1) := by decide +kernel
theorem dX8_high_27 : decode cX8_high 27 = .ok (.iload_n 3, 1) := by decide +kernel
theorem dX8_high_28 : decode cX8_high 28 = .ok (.invokevirtual 197, 3) := by decide +kernel
theorem dX8_high_31 : decode cX8_high 31 = .ok (.iload_n 1, 1) := by decide +kernel
theorem dX8_high_32 : decode cX8_high 32 = .ok (.iconst 1, 1) := by decide +kernel
theorem dX8_high_33 : decode cX8_high 33 = .ok (.iadd, 1) := by decide +kernel
theorem dX8_high_34 : decode cX8_high 34 = .ok (.iconst 2, 1) := by decide +kernel
theorem dX8_high_35 : decode cX8_high 35 = .ok (.idiv, 1) := by decide +kernel
theorem dX8_high_36 : decode cX8_high 36 = .ok (.imul, 1) := by decide +kernel
theorem dX8_high_37 : decode cX8_high 37 = .ok (.ireturn, 1) := by decide +kernel
theorem dX8_spill_0 : decode cX8_spill 0 = .ok (.iload_n 1, 1) := by decide +kernel
theorem dX8_spill_1 : decode cX8_spill 1 = .ok (.ifCond .lt 29, 3) := by decide +kernel
theorem dX8_spill_4 : decode cX8_spill 4 = .ok (.iload_n 1, 1) := by decide +kernel
theorem dX8_spill_5 : decode cX8_spill 5 = .ok (.bipush 60, 2) := by decide +kernel
theorem dX8_spill_7 : decode cX8_spill 7 = .ok (.if_icmp .gt 23, 3) := by decide +kernel
theorem dX8_spill_10 : decode cX8_spill 10 = .ok (.iload_n 2, 1) := by decide +kernel
theorem dX8_spill_11 : decode cX8_spill 11 = .ok (.iload_n 3, 1) := by decide +kernel
theorem dX8_spill_12 : decode cX8_spill 12 = .ok (.invokestatic 238, 3) := by decide +kernel
theorem dX8_spill_15 : decode cX8_spill 15 = .ok (.ifCond .eq 15, 3) := by decide +kernel
theorem dX8_spill_18 : decode cX8_spill 18 = .ok (.iload 4, 2) := by decide +kernel
theorem dX8_spill_20 : decode cX8_spill 20 = .ok (.ifCond .lt 10, 3) := by decide +kernel
theorem dX8_spill_23 : decode cX8_spill 23 = .ok (.iload 4, 2) := by decide +kernel
theorem dX8_spill_25 : decode cX8_spill 25 = .ok (.bipush 9, 2) := by decide +kernel
theorem dX8_spill_27 : decode cX8_spill 27 = .ok (.if_icmp .lt 6, 3) := by decide +kernel
theorem dX8_spill_30 : decode cX8_spill 30 = .ok (.bipush (-2), 2) := by decide +kernel
theorem dX8_spill_32 : decode cX8_spill 32 = .ok (.ireturn, 1) := by decide +kernel
theorem dX8_spill_33 : decode cX8_spill 33 = .ok (.aload_n 0, 1) := by decide +kernel
theorem dX8_spill_34 : decode cX8_spill 34 = .ok (.getfield 74, 3) := by decide +kernel
theorem dX8_spill_37 : decode cX8_spill 37 = .ok (.iload_n 1, 1) := by decide +kernel
theorem dX8_spill_38 : decode cX8_spill 38 = .ok (.aload_n 0, 1) := by decide +kernel
theorem dX8_spill_39 : decode cX8_spill 39 = .ok (.getfield 19, 3) := by decide +kernel
theorem dX8_spill_42 : decode cX8_spill 42 = .ok (.iload_n 2, 1) := by decide +kernel
theorem dX8_spill_43 : decode cX8_spill 43 = .ok (.iload_n 3, 1) := by decide +kernel
theorem dX8_spill_44 : decode cX8_spill 44 = .ok (.invokevirtual 197, 3) := by decide +kernel
theorem dX8_spill_47 : decode cX8_spill 47 = .ok (.invokevirtual 242, 3) := by decide +kernel
theorem dX8_spill_50 : decode cX8_spill 50 = .ok (.aload_n 0, 1) := by decide +kernel
theorem dX8_spill_51 : decode cX8_spill 51 = .ok (.getfield 74, 3) := by decide +kernel
theorem dX8_spill_54 : decode cX8_spill 54 = .ok (.getfield 246, 3) := by decide +kernel
theorem dX8_spill_57 : decode cX8_spill 57 = .ok (.iload 4, 2) := by decide +kernel
theorem dX8_spill_59 : decode cX8_spill 59 = .ok (.iaload, 1) := by decide +kernel
theorem dX8_spill_60 : decode cX8_spill 60 = .ok (.ireturn, 1) := by decide +kernel
theorem dX8_trial_0 : decode cX8_trial 0 = .ok (.aload_n 0, 1) := by decide +kernel
theorem dX8_trial_1 : decode cX8_trial 1 = .ok (.getfield 60, 3) := by decide +kernel
theorem dX8_trial_4 : decode cX8_trial 4 = .ok (.iload_n 1, 1) := by decide +kernel
theorem dX8_trial_5 : decode cX8_trial 5 = .ok (.invokevirtual 247, 3) := by decide +kernel
theorem dX8_trial_8 : decode cX8_trial 8 = .ok (.ifCond .eq 37, 3) := by decide +kernel
theorem dX8_trial_11 : decode cX8_trial 11 = .ok (.iload_n 2, 1) := by decide +kernel
theorem dX8_trial_12 : decode cX8_trial 12 = .ok (.iconst 1, 1) := by decide +kernel
theorem dX8_trial_13 : decode cX8_trial 13 = .ok (.if_icmp .lt 32, 3) := by decide +kernel
theorem dX8_trial_16 : decode cX8_trial 16 = .ok (.iload_n 2, 1) := by decide +kernel
theorem dX8_trial_17 : decode cX8_trial 17 = .ok (.bipush 15, 2) := by decide +kernel
theorem dX8_trial_19 : decode cX8_trial 19 = .ok (.if_icmp .gt 26, 3) := by decide +kernel
theorem dX8_trial_22 : decode cX8_trial 22 = .ok (.iload_n 3, 1) := by decide +kernel
theorem dX8_trial_23 : decode cX8_trial 23 = .ok (.iconst 1, 1) := by decide +kernel
theorem dX8_trial_24 : decode cX8_trial 24 = .ok (.if_icmp .lt 21, 3) := by decide +kernel
theorem dX8_trial_27 : decode cX8_trial 27 = .ok (.iload_n 3, 1) := by decide +kernel
theorem dX8_trial_28 : decode cX8_trial 28 = .ok (.bipush 30, 2) := by decide +kernel
theorem dX8_trial_30 : decode cX8_trial 30 = .ok (.if_icmp .gt 15, 3) := by decide +kernel
theorem dX8_trial_33 : decode cX8_trial 33 = .ok (.iload 4, 2) := by decide +kernel
theorem dX8_trial_35 : decode cX8_trial 35 = .ok (.invokestatic 250, 3) := by decide +kernel
theorem dX8_trial_38 : decode cX8_trial 38 = .ok (.ifCond .eq 7, 3) := by decide +kernel
theorem dX8_trial_41 : decode cX8_trial 41 = .ok (.iconst 1, 1) := by decide +kernel
theorem dX8_trial_42 : decode cX8_trial 42 = .ok (.goto 4, 3) := by decide +kernel
theorem dX8_trial_45 : decode cX8_trial 45 = .ok (.iconst 0, 1) := by decide +kernel
theorem dX8_trial_46 : decode cX8_trial 46 = .ok (.istore 5, 2) := by decide +kernel
theorem dX8_trial_48 : decode cX8_trial 48 = .ok (.iload 5, 2) := by decide +kernel
theorem dX8_trial_50 : decode cX8_trial 50 = .ok (.ifCond .ne 6, 3) := by decide +kernel
theorem dX8_trial_53 : decode cX8_trial 53 = .ok (.bipush (-2), 2) := by decide +kernel
theorem dX8_trial_55 : decode cX8_trial 55 = .ok (.ireturn, 1) := by decide +kernel
theorem dX8_trial_56 : decode cX8_trial 56 = .ok (.aload_n 0, 1) := by decide +kernel
theorem dX8_trial_57 : decode cX8_trial 57 = .ok (.getfield 60, 3) := by decide +kernel
theorem dX8_trial_60 : decode cX8_trial 60 = .ok (.getfield 253, 3) := by decide +kernel
theorem dX8_trial_63 : decode cX8_trial 63 = .ok (.bipush 16, 2) := by decide +kernel
theorem dX8_trial_65 : decode cX8_trial 65 = .ok (.if_icmp .lt 6, 3) := by decide +kernel
theorem dX8_trial_68 : decode cX8_trial 68 = .ok (.bipush (-3), 2) := by decide +kernel
theorem dX8_trial_70 : decode cX8_trial 70 = .ok (.ireturn, 1) := by decide +kernel
theorem dX8_trial_71 : decode cX8_trial 71 = .ok (.aload_n 0, 1) := by decide +kernel
theorem dX8_trial_72 : decode cX8_trial 72 = .ok (.getfield 60, 3) := by decide +kernel
theorem dX8_trial_75 : decode cX8_trial 75 = .ok (.iload_n 1, 1) := by decide +kernel
theorem dX8_trial_76 : decode cX8_trial 76 = .ok (.iload_n 2, 1) := by decide +kernel
theorem dX8_trial_77 : decode cX8_trial 77 = .ok (.iload_n 3, 1) := by decide +kernel
theorem dX8_trial_78 : decode cX8_trial 78 = .ok (.iload 4, 2) := by decide +kernel
theorem dX8_trial_80 : decode cX8_trial 80 = .ok (.invokevirtual 256, 3) := by decide +kernel
theorem dX8_trial_83 : decode cX8_trial 83 = .ok (.ireturn, 1) := by decide +kernel
theorem dX8_right_0 : decode cX8_right 0 = .ok (.aload_n 0, 1) := by decide +kernel
theorem dX8_right_1 : decode cX8_right 1 = .ok (.getfield 60, 3) := by decide +kernel
theorem dX8_right_4 : decode cX8_right 4 = .ok (.iload_n 1, 1) := by decide +kernel
theorem dX8_right_5 : decode cX8_right 5 = .ok (.invokevirtual 247, 3) := by decide +kernel
theorem dX8_right_8 : decode cX8_right 8 = .ok (.ifCond .eq 25, 3) := by decide +kernel
theorem dX8_right_11 : decode cX8_right 11 = .ok (.iload_n 2, 1) := by decide +kernel
theorem dX8_right_12 : decode cX8_right 12 = .ok (.ifCond .lt 21, 3) := by decide +kernel
theorem dX8_right_15 : decode cX8_right 15 = .ok (.iload_n 2, 1) := by decide +kernel
theorem dX8_right_16 : decode cX8_right 16 = .ok (.aload_n 0, 1) := by decide +kernel
theorem dX8_right_17 : decode cX8_right 17 = .ok (.getfield 60, 3) := by decide +kernel
theorem dX8_right_20 : decode cX8_right 20 = .ok (.getfield 253, 3) := by decide +kernel
theorem dX8_right_23 : decode cX8_right 23 = .ok (.if_icmp .ge 10, 3) := by decide +kernel
theorem dX8_right_26 : decode cX8_right 26 = .ok (.iload_n 3, 1) := by decide +kernel
theorem dX8_right_27 : decode cX8_right 27 = .ok (.invokestatic 250, 3) := by decide +kernel
theorem dX8_right_30 : decode cX8_right 30 = .ok (.ifCond .ne 6, 3) := by decide +kernel
theorem dX8_right_33 : decode cX8_right 33 = .ok (.bipush (-2), 2) := by decide +kernel
theorem dX8_right_35 : decode cX8_right 35 = .ok (.ireturn, 1) := by decide +kernel
theorem dX8_right_36 : decode cX8_right 36 = .ok (.aload_n 0, 1) := by decide +kernel
theorem dX8_right_37 : decode cX8_right 37 = .ok (.getfield 60, 3) := by decide +kernel
theorem dX8_right_40 : decode cX8_right 40 = .ok (.getfield 260, 3) := by decide +kernel
theorem dX8_right_43 : decode cX8_right 43 = .ok (.bipush 20, 2) := by decide +kernel
theorem dX8_right_45 : decode cX8_right 45 = .ok (.if_icmp .lt 6, 3) := by decide +kernel
theorem dX8_right_48 : decode cX8_right 48 = .ok (.bipush (-3), 2) := by decide +kernel
theorem dX8_right_50 : decode cX8_right 50 = .ok (.ireturn, 1) := by decide +kernel
theorem dX8_right_51 : decode cX8_right 51 = .ok (.aload_n 0, 1) := by decide +kernel
theorem dX8_right_52 : decode cX8_right 52 = .ok (.getfield 60, 3) := by decide +kernel
theorem dX8_right_55 : decode cX8_right 55 = .ok (.iload_n 1, 1) := by decide +kernel
theorem dX8_right_56 : decode cX8_right 56 = .ok (.iload_n 2, 1) := by decide +kernel
theorem dX8_right_57 : decode cX8_right 57 = .ok (.iload_n 3, 1) := by decide +kernel
theorem dX8_right_58 : decode cX8_right 58 = .ok (.invokevirtual 263, 3) := by decide +kernel
theorem dX8_right_61 : decode cX8_right 61 = .ok (.ireturn, 1) := by decide +kernel
theorem dX8_humps_0 : decode cX8_humps 0 = .ok (.iload_n 1, 1) := by decide +kernel
theorem dX8_humps_1 : decode cX8_humps 1 = .ok (.ifCond .lt 19, 3) := by decide +kernel
theorem dX8_humps_4 : decode cX8_humps 4 = .ok (.iload_n 1, 1) := by decide +kernel
theorem dX8_humps_5 : decode cX8_humps 5 = .ok (.sipush 999, 3) := by decide +kernel
theorem dX8_humps_8 : decode cX8_humps 8 = .ok (.if_icmp .gt 12, 3) := by decide +kernel
theorem dX8_humps_11 : decode cX8_humps 11 = .ok (.iload_n 2, 1) := by decide +kernel
theorem dX8_humps_12 : decode cX8_humps 12 = .ok (.ifCond .lt 8, 3) := by decide +kernel
theorem dX8_humps_15 : decode cX8_humps 15 = .ok (.iload_n 2, 1) := by decide +kernel
theorem dX8_humps_16 : decode cX8_humps 16 = .ok (.iconst 4, 1) := by decide +kernel
theorem dX8_humps_17 : decode cX8_humps 17 = .ok (.if_icmp .le 6, 3) := by decide +kernel
theorem dX8_humps_20 : decode cX8_humps 20 = .ok (.bipush (-2), 2) := by decide +kernel
theorem dX8_humps_22 : decode cX8_humps 22 = .ok (.ireturn, 1) := by decide +kernel
theorem dX8_humps_23 : decode cX8_humps 23 = .ok (.aload_n 0, 1) := by decide +kernel
theorem dX8_humps_24 : decode cX8_humps 24 = .ok (.getfield 60, 3) := by decide +kernel
theorem dX8_humps_27 : decode cX8_humps 27 = .ok (.iload_n 1, 1) := by decide +kernel
theorem dX8_humps_28 : decode cX8_humps 28 = .ok (.iload_n 2, 1) := by decide +kernel
theorem dX8_humps_29 : decode cX8_humps 29 = .ok (.invokevirtual 267, 3) := by decide +kernel
theorem dX8_humps_32 : decode cX8_humps 32 = .ok (.ireturn, 1) := by decide +kernel
theorem dX8_next_0 : decode cX8_next 0 = .ok (.aload_n 0, 1) := by decide +kernel
theorem dX8_next_1 : decode cX8_next 1 = .ok (.getfield 60, 3) := by decide +kernel
theorem dX8_next_4 : decode cX8_next 4 = .ok (.invokevirtual 270, 3) := by decide +kernel
theorem dX8_next_7 : decode cX8_next 7 = .ok (.ireturn, 1) := by decide +kernel
theorem dX8_last_0 : decode cX8_last 0 = .ok (.aload_n 0, 1) := by decide +kernel
theorem dX8_last_1 : decode cX8_last 1 = .ok (.iload_n 1, 1) := by decide +kernel
theorem dX8_last_2 : decode cX8_last 2 = .ok (.invokevirtual 201, 3) := by decide +kernel
theorem dX8_last_5 : decode cX8_last 5 = .ok (.ifCond .eq 23, 3) := by decide +kernel
theorem dX8_last_8 : decode cX8_last 8 = .ok (.aload_n 0, 1) := by decide +kernel
theorem dX8_last_9 : decode cX8_last 9 = .ok (.iload_n 2, 1) := by decide +kernel
theorem dX8_last_10 : decode cX8_last 10 = .ok (.invokevirtual 160, 3) := by decide +kernel
theorem dX8_last_13 : decode cX8_last 13 = .ok (.ifCond .eq 15, 3) := by decide +kernel
theorem dX8_last_16 : decode cX8_last 16 = .ok (.iload_n 3, 1) := by decide +kernel
theorem dX8_last_17 : decode cX8_last 17 = .ok (.ifCond .lt 11, 3) := by decide +kernel
theorem dX8_last_20 : decode cX8_last 20 = .ok (.iload 4, 2) := by decide +kernel
theorem dX8_last_22 : decode cX8_last 22 = .ok (.invokestatic 273, 3) := by decide +kernel
theorem dX8_last_25 : decode cX8_last 25 = .ok (.ifCond .ne 6, 3) := by decide +kernel
theorem dX8_last_28 : decode cX8_last 28 = .ok (.bipush (-2), 2) := by decide +kernel
theorem dX8_last_30 : decode cX8_last 30 = .ok (.ireturn, 1) := by decide +kernel
theorem dX8_last_31 : decode cX8_last 31 = .ok (.aload_n 0, 1) := by decide +kernel
theorem dX8_last_32 : decode cX8_last 32 = .ok (.getfield 67, 3) := by decide +kernel
theorem dX8_last_35 : decode cX8_last 35 = .ok (.aload_n 0, 1) := by decide +kernel
theorem dX8_last_36 : decode cX8_last 36 = .ok (.getfield 45, 3) := by decide +kernel
theorem dX8_last_39 : decode cX8_last 39 = .ok (.iload_n 2, 1) := by decide +kernel
theorem dX8_last_40 : decode cX8_last 40 = .ok (.iload_n 3, 1) := by decide +kernel
theorem dX8_last_41 : decode cX8_last 41 = .ok (.invokevirtual 276, 3) := by decide +kernel
theorem dX8_last_44 : decode cX8_last 44 = .ok (.aload_n 0, 1) := by decide +kernel
theorem dX8_last_45 : decode cX8_last 45 = .ok (.getfield 67, 3) := by decide +kernel
theorem dX8_last_48 : decode cX8_last 48 = .ok (.aload_n 0, 1) := by decide +kernel
theorem dX8_last_49 : decode cX8_last 49 = .ok (.getfield 19, 3) := by decide +kernel
theorem dX8_last_52 : decode cX8_last 52 = .ok (.iload_n 1, 1) := by decide +kernel
theorem dX8_last_53 : decode cX8_last 53 = .ok (.invokevirtual 280, 3) := by decide +kernel
theorem dX8_last_56 : decode cX8_last 56 = .ok (.aload_n 0, 1) := by decide +kernel
theorem dX8_last_57 : decode cX8_last 57 = .ok (.getfield 67, 3) := by decide +kernel
theorem dX8_last_60 : decode cX8_last 60 = .ok (.aload_n 0, 1) := by decide +kernel
theorem dX8_last_61 : decode cX8_last 61 = .ok (.getfield 19, 3) := by decide +kernel
theorem dX8_last_64 : decode cX8_last 64 = .ok (.aload_n 0, 1) := by decide +kernel
theorem dX8_last_65 : decode cX8_last 65 = .ok (.getfield 29, 3) := by decide +kernel
theorem dX8_last_68 : decode cX8_last 68 = .ok (.aload_n 0, 1) := by decide +kernel
theorem dX8_last_69 : decode cX8_last 69 = .ok (.iload_n 2, 1) := by decide +kernel
theorem dX8_last_70 : decode cX8_last 70 = .ok (.invokevirtual 167, 3) := by decide +kernel
theorem dX8_last_73 : decode cX8_last 73 = .ok (.iload 4, 2) := by decide +kernel
theorem dX8_last_75 : decode cX8_last 75 = .ok (.invokevirtual 284, 3) := by decide +kernel
theorem dX8_last_78 : decode cX8_last 78 = .ok (.aload_n 0, 1) := by decide +kernel
theorem dX8_last_79 : decode cX8_last 79 = .ok (.getfield 67, 3) := by decide +kernel
theorem dX8_last_82 : decode cX8_last 82 = .ok (.getfield 288, 3) := by decide +kernel
theorem dX8_last_85 : decode cX8_last 85 = .ok (.iconst 0, 1) := by decide +kernel
theorem dX8_last_86 : decode cX8_last 86 = .ok (.iaload, 1) := by decide +kernel
theorem dX8_last_87 : decode cX8_last 87 = .ok (.ireturn, 1) := by decide +kernel
theorem dX8_pail_0 : decode cX8_pail 0 = .ok (.aload_n 0, 1) := by decide +kernel
theorem dX8_pail_1 : decode cX8_pail 1 = .ok (.iload_n 1, 1) := by decide +kernel
theorem dX8_pail_2 : decode cX8_pail 2 = .ok (.invokevirtual 201, 3) := by decide +kernel
theorem dX8_pail_5 : decode cX8_pail 5 = .ok (.ifCond .eq 14, 3) := by decide +kernel
theorem dX8_pail_8 : decode cX8_pail 8 = .ok (.iload_n 2, 1) := by decide +kernel
theorem dX8_pail_9 : decode cX8_pail 9 = .ok (.ifCond .lt 10, 3) := by decide +kernel
theorem dX8_pail_12 : decode cX8_pail 12 = .ok (.iload_n 3, 1) := by decide +kernel
theorem dX8_pail_13 : decode cX8_pail 13 = .ok (.invokestatic 273, 3) := by decide +kernel
theorem dX8_pail_16 : decode cX8_pail 16 = .ok (.ifCond .ne 6, 3) := by decide +kernel
theorem dX8_pail_19 : decode cX8_pail 19 = .ok (.bipush (-2), 2) := by decide +kernel
theorem dX8_pail_21 : decode cX8_pail 21 = .ok (.ireturn, 1) := by decide +kernel
theorem dX8_pail_22 : decode cX8_pail 22 = .ok (.aload_n 0, 1) := by decide +kernel
theorem dX8_pail_23 : decode cX8_pail 23 = .ok (.iload_n 1, 1) := by decide +kernel
theorem dX8_pail_24 : decode cX8_pail 24 = .ok (.iconst 2, 1) := by decide +kernel
theorem dX8_pail_25 : decode cX8_pail 25 = .ok (.iload_n 2, 1) := by decide +kernel
theorem dX8_pail_26 : decode cX8_pail 26 = .ok (.iload_n 3, 1) := by decide +kernel
theorem dX8_pail_27 : decode cX8_pail 27 = .ok (.invokevirtual 291, 3) := by decide +kernel
theorem dX8_pail_30 : decode cX8_pail 30 = .ok (.ireturn, 1) := by decide +kernel
theorem dX8_row_0 : decode cX8_row 0 = .ok (.aload_n 0, 1) := by decide +kernel
theorem dX8_row_1 : decode cX8_row 1 = .ok (.iload_n 1, 1) := by decide +kernel
theorem dX8_row_2 : decode cX8_row 2 = .ok (.invokevirtual 201, 3) := by decide +kernel
theorem dX8_row_5 : decode cX8_row 5 = .ok (.ifCond .eq 25, 3) := by decide +kernel
theorem dX8_row_8 : decode cX8_row 8 = .ok (.iload_n 2, 1) := by decide +kernel
theorem dX8_row_9 : decode cX8_row 9 = .ok (.iconst 1, 1) := by decide +kernel
theorem dX8_row_10 : decode cX8_row 10 = .ok (.if_icmp .lt 20, 3) := by decide +kernel
theorem dX8_row_13 : decode cX8_row 13 = .ok (.iload_n 2, 1) := by decide +kernel
theorem dX8_row_14 : decode cX8_row 14 = .ok (.iconst 4, 1) := by decide +kernel
theorem dX8_row_15 : decode cX8_row 15 = .ok (.if_icmp .gt 15, 3) := by decide +kernel
theorem dX8_row_18 : decode cX8_row 18 = .ok (.iload_n 3, 1) := by decide +kernel
theorem dX8_row_19 : decode cX8_row 19 = .ok (.ifCond .lt 11, 3) := by decide +kernel
theorem dX8_row_22 : decode cX8_row 22 = .ok (.iload 4, 2) := by decide +kernel
theorem dX8_row_24 : decode cX8_row 24 = .ok (.invokestatic 273, 3) := by decide +kernel
theorem dX8_row_27 : decode cX8_row 27 = .ok (.ifCond .ne 6, 3) := by decide +kernel
theorem dX8_row_30 : decode cX8_row 30 = .ok (.bipush (-2), 2) := by decide +kernel
theorem dX8_row_32 : decode cX8_row 32 = .ok (.ireturn, 1) := by decide +kernel
theorem dX8_row_33 : decode cX8_row 33 = .ok (.aload_n 0, 1) := by decide +kernel
theorem dX8_row_34 : decode cX8_row 34 = .ok (.iload_n 1, 1) := by decide +kernel
theorem dX8_row_35 : decode cX8_row 35 = .ok (.iload_n 2, 1) := by decide +kernel
theorem dX8_row_36 : decode cX8_row 36 = .ok (.iload_n 3, 1) := by decide +kernel
theorem dX8_row_37 : decode cX8_row 37 = .ok (.iload 4, 2) := by decide +kernel
theorem dX8_row_39 : decode cX8_row 39 = .ok (.invokevirtual 291, 3) := by decide +kernel
theorem dX8_row_42 : decode cX8_row 42 = .ok (.ireturn, 1) := by decide +kernel
theorem dX8_again_0 : decode cX8_again 0 = .ok (.aload_n 0, 1) := by decide +kernel
theorem dX8_again_1 : decode cX8_again 1 = .ok (.iload_n 1, 1) := by decide +kernel
theorem dX8_again_2 : decode cX8_again 2 = .ok (.invokevirtual 201, 3) := by decide +kernel
theorem dX8_again_5 : decode cX8_again 5 = .ok (.ifCond .eq 14, 3) := by decide +kernel
theorem dX8_again_8 : decode cX8_again 8 = .ok (.iload_n 2, 1) := by decide +kernel
theorem dX8_again_9 : decode cX8_again 9 = .ok (.ifCond .lt 10, 3) := by decide +kernel
theorem dX8_again_12 : decode cX8_again 12 = .ok (.iload_n 3, 1) := by decide +kernel
theorem dX8_again_13 : decode cX8_again 13 = .ok (.invokestatic 273, 3) := by decide +kernel
theorem dX8_again_16 : decode cX8_again 16 = .ok (.ifCond .ne 6, 3) := by decide +kernel
theorem dX8_again_19 : decode cX8_again 19 = .ok (.bipush (-2), 2) := by decide +kernel
theorem dX8_again_21 : decode cX8_again 21 = .ok (.ireturn, 1) := by decide +kernel
theorem dX8_again_22 : decode cX8_again 22 = .ok (.aload_n 0, 1) := by decide +kernel
theorem dX8_again_23 : decode cX8_again 23 = .ok (.getfield 67, 3) := by decide +kernel
theorem dX8_again_26 : decode cX8_again 26 = .ok (.aload_n 0, 1) := by decide +kernel
theorem dX8_again_27 : decode cX8_again 27 = .ok (.getfield 45, 3) := by decide +kernel
theorem dX8_again_30 : decode cX8_again 30 = .ok (.iconst (-1), 1) := by decide +kernel
theorem dX8_again_31 : decode cX8_again 31 = .ok (.iload_n 2, 1) := by decide +kernel
theorem dX8_again_32 : decode cX8_again 32 = .ok (.invokevirtual 276, 3) := by decide +kernel
theorem dX8_again_35 : decode cX8_again 35 = .ok (.aload_n 0, 1) := by decide +kernel
theorem dX8_again_36 : decode cX8_again 36 = .ok (.getfield 67, 3) := by decide +kernel
theorem dX8_again_39 : decode cX8_again 39 = .ok (.aload_n 0, 1) := by decide +kernel
theorem dX8_again_40 : decode cX8_again 40 = .ok (.getfield 19, 3) := by decide +kernel
theorem dX8_again_43 : decode cX8_again 43 = .ok (.iload_n 1, 1) := by decide +kernel
theorem dX8_again_44 : decode cX8_again 44 = .ok (.invokevirtual 280, 3) := by decide +kernel
theorem dX8_again_47 : decode cX8_again 47 = .ok (.aload_n 0, 1) := by decide +kernel
theorem dX8_again_48 : decode cX8_again 48 = .ok (.getfield 67, 3) := by decide +kernel
theorem dX8_again_51 : decode cX8_again 51 = .ok (.aload_n 0, 1) := by decide +kernel
theorem dX8_again_52 : decode cX8_again 52 = .ok (.getfield 19, 3) := by decide +kernel
theorem dX8_again_55 : decode cX8_again 55 = .ok (.aload_n 0, 1) := by decide +kernel
theorem dX8_again_56 : decode cX8_again 56 = .ok (.getfield 29, 3) := by decide +kernel
theorem dX8_again_59 : decode cX8_again 59 = .ok (.aconst_null, 1) := by decide +kernel
theorem dX8_again_60 : decode cX8_again 60 = .ok (.iload_n 3, 1) := by decide +kernel
theorem dX8_again_61 : decode cX8_again 61 = .ok (.invokevirtual 284, 3) := by decide +kernel
theorem dX8_again_64 : decode cX8_again 64 = .ok (.aload_n 0, 1) := by decide +kernel
theorem dX8_again_65 : decode cX8_again 65 = .ok (.getfield 67, 3) := by decide +kernel
theorem dX8_again_68 : decode cX8_again 68 = .ok (.getfield 288, 3) := by decide +kernel
theorem dX8_again_71 : decode cX8_again 71 = .ok (.iconst 0, 1) := by decide +kernel
theorem dX8_again_72 : decode cX8_again 72 = .ok (.iaload, 1) := by decide +kernel
theorem dX8_again_73 : decode cX8_again 73 = .ok (.istore 4, 2) := by decide +kernel
theorem dX8_again_75 : decode cX8_again 75 = .ok (.iload 4, 2) := by decide +kernel
theorem dX8_again_77 : decode cX8_again 77 = .ok (.istore 5, 2) := by decide +kernel
theorem dX8_again_79 : decode cX8_again 79 = .ok (.iconst (-1), 1) := by decide +kernel
theorem dX8_again_80 : decode cX8_again 80 = .ok (.istore 6, 2) := by decide +kernel
theorem dX8_again_82 : decode cX8_again 82 = .ok (.iconst 0, 1) := by decide +kernel
theorem dX8_again_83 : decode cX8_again 83 = .ok (.istore 7, 2) := by decide +kernel
theorem dX8_again_85 : decode cX8_again 85 = .ok (.iload 7, 2) := by decide +kernel
theorem dX8_again_87 : decode cX8_again 87 = .ok (.iload 4, 2) := by decide +kernel
theorem dX8_again_89 : decode cX8_again 89 = .ok (.if_icmp .gt 102, 3) := by decide +kernel
theorem dX8_again_92 : decode cX8_again 92 = .ok (.iload 7, 2) := by decide +kernel
theorem dX8_again_94 : decode cX8_again 94 = .ok (.iload_n 3, 1) := by decide +kernel
theorem dX8_again_95 : decode cX8_again 95 = .ok (.if_icmp .ge 96, 3) := by decide +kernel
theorem dX8_again_98 : decode cX8_again 98 = .ok (.iload 5, 2) := by decide +kernel
theorem dX8_again_100 : decode cX8_again 100 = .ok (.iload_n 3, 1) := by decide +kernel
theorem dX8_again_101 : decode cX8_again 101 = .ok (.if_icmp .ge 90, 3) := by decide +kernel
theorem dX8_again_104 : decode cX8_again 104 = .ok (.aload_n 0, 1) := by decide +kernel
theorem dX8_again_105 : decode cX8_again 105 = .ok (.getfield 67, 3) := by decide +kernel
theorem dX8_again_108 : decode cX8_again 108 = .ok (.aload_n 0, 1) := by decide +kernel
theorem dX8_again_109 : decode cX8_again 109 = .ok (.getfield 45, 3) := by decide +kernel
theorem dX8_again_112 : decode cX8_again 112 = .ok (.iconst (-1), 1) := by decide +kernel
theorem dX8_again_113 : decode cX8_again 113 = .ok (.iload_n 2, 1) := by decide +kernel
theorem dX8_again_114 : decode cX8_again 114 = .ok (.invokevirtual 276, 3) := by decide +kernel
theorem dX8_again_117 : decode cX8_again 117 = .ok (.aload_n 0, 1) := by decide +kernel
theorem dX8_again_118 : decode cX8_again 118 = .ok (.getfield 67, 3) := by decide +kernel
theorem dX8_again_121 : decode cX8_again 121 = .ok (.aload_n 0, 1) := by decide +kernel
theorem dX8_again_122 : decode cX8_again 122 = .ok (.getfield 19, 3) := by decide +kernel
theorem dX8_again_125 : decode cX8_again 125 = .ok (.iload_n 1, 1) := by decide +kernel
theorem dX8_again_126 : decode cX8_again 126 = .ok (.invokevirtual 280, 3) := by decide +kernel
theorem dX8_again_129 : decode cX8_again 129 = .ok (.aload_n 0, 1) := by decide +kernel
theorem dX8_again_130 : decode cX8_again 130 = .ok (.getfield 67, 3) := by decide +kernel
theorem dX8_again_133 : decode cX8_again 133 = .ok (.iload 7, 2) := by decide +kernel
theorem dX8_again_135 : decode cX8_again 135 = .ok (.iconst 3, 1) := by decide +kernel
theorem dX8_again_136 : decode cX8_again 136 = .ok (.invokevirtual 294, 3) := by decide +kernel
theorem dX8_again_139 : decode cX8_again 139 = .ok (.aload_n 0, 1) := by decide +kernel
theorem dX8_again_140 : decode cX8_again 140 = .ok (.getfield 67, 3) := by decide +kernel
theorem dX8_again_143 : decode cX8_again 143 = .ok (.aload_n 0, 1) := by decide +kernel
theorem dX8_again_144 : decode cX8_again 144 = .ok (.getfield 19, 3) := by decide +kernel
theorem dX8_again_147 : decode cX8_again 147 = .ok (.aload_n 0, 1) := by decide +kernel
theorem dX8_again_148 : decode cX8_again 148 = .ok (.getfield 29, 3) := by decide +kernel
theorem dX8_again_151 : decode cX8_again 151 = .ok (.aconst_null, 1) := by decide +kernel
theorem dX8_again_152 : decode cX8_again 152 = .ok (.iload_n 3, 1) := by decide +kernel
theorem dX8_again_153 : decode cX8_again 153 = .ok (.invokevirtual 284, 3) := by decide +kernel
theorem dX8_again_156 : decode cX8_again 156 = .ok (.aload_n 0, 1) := by decide +kernel
theorem dX8_again_157 : decode cX8_again 157 = .ok (.getfield 67, 3) := by decide +kernel
theorem dX8_again_160 : decode cX8_again 160 = .ok (.getfield 288, 3) := by decide +kernel
theorem dX8_again_163 : decode cX8_again 163 = .ok (.iconst 0, 1) := by decide +kernel
theorem dX8_again_164 : decode cX8_again 164 = .ok (.iaload, 1) := by decide +kernel
theorem dX8_again_165 : decode cX8_again 165 = .ok (.iload 5, 2) := by decide +kernel
theorem dX8_again_167 : decode cX8_again 167 = .ok (.if_icmp .le 18, 3) := by decide +kernel
theorem dX8_again_170 : decode cX8_again 170 = .ok (.aload_n 0, 1) := by decide +kernel
theorem dX8_again_171 : decode cX8_again 171 = .ok (.getfield 67, 3) := by decide +kernel
theorem dX8_again_174 : decode cX8_again 174 = .ok (.getfield 288, 3) := by decide +kernel
theorem dX8_again_177 : decode cX8_again 177 = .ok (.iconst 0, 1) := by decide +kernel
theorem dX8_again_178 : decode cX8_again 178 = .ok (.iaload, 1) := by decide +kernel
theorem dX8_again_179 : decode cX8_again 179 = .ok (.istore 5, 2) := by decide +kernel
theorem dX8_again_181 : decode cX8_again 181 = .ok (.iload 7, 2) := by decide +kernel
theorem dX8_again_183 : decode cX8_again 183 = .ok (.istore 6, 2) := by decide +kernel
theorem dX8_again_185 : decode cX8_again 185 = .ok (.iinc 7 1, 3) := by decide +kernel
theorem dX8_again_188 : decode cX8_again 188 = .ok (.goto (-103), 3) := by decide +kernel
theorem dX8_again_191 : decode cX8_again 191 = .ok (.iload 6, 2) := by decide +kernel
theorem dX8_again_193 : decode cX8_again 193 = .ok (.ireturn, 1) := by decide +kernel
theorem dX8_stand_0 : decode cX8_stand 0 = .ok (.iload_n 1, 1) := by decide +kernel
theorem dX8_stand_1 : decode cX8_stand 1 = .ok (.iconst 1, 1) := by decide +kernel
theorem dX8_stand_2 : decode cX8_stand 2 = .ok (.if_icmp .lt 23, 3) := by decide +kernel
theorem dX8_stand_5 : decode cX8_stand 5 = .ok (.iload_n 1, 1) := by decide +kernel
theorem dX8_stand_6 : decode cX8_stand 6 = .ok (.bipush 30, 2) := by decide +kernel
theorem dX8_stand_8 : decode cX8_stand 8 = .ok (.if_icmp .gt 17, 3) := by decide +kernel
theorem dX8_stand_11 : decode cX8_stand 11 = .ok (.iload_n 2, 1) := by decide +kernel
theorem dX8_stand_12 : decode cX8_stand 12 = .ok (.invokestatic 297, 3) := by decide +kernel
theorem dX8_stand_15 : decode cX8_stand 15 = .ok (.ifCond .eq 10, 3) := by decide +kernel
theorem dX8_stand_18 : decode cX8_stand 18 = .ok (.iload_n 3, 1) := by decide +kernel
theorem dX8_stand_19 : decode cX8_stand 19 = .ok (.invokestatic 273, 3) := by decide +kernel
theorem dX8_stand_22 : decode cX8_stand 22 = .ok (.ifCond .ne 6, 3) := by decide +kernel
theorem dX8_stand_25 : decode cX8_stand 25 = .ok (.bipush (-2), 2) := by decide +kernel
theorem dX8_stand_27 : decode cX8_stand 27 = .ok (.ireturn, 1) := by decide +kernel
theorem dX8_stand_28 : decode cX8_stand 28 = .ok (.aload_n 0, 1) := by decide +kernel
theorem dX8_stand_29 : decode cX8_stand 29 = .ok (.iload_n 2, 1) := by decide +kernel
theorem dX8_stand_30 : decode cX8_stand 30 = .ok (.invokevirtual 300, 3) := by decide +kernel
theorem dX8_stand_33 : decode cX8_stand 33 = .ok (.istore 4, 2) := by decide +kernel
theorem dX8_stand_35 : decode cX8_stand 35 = .ok (.iconst (-1), 1) := by decide +kernel
theorem dX8_stand_36 : decode cX8_stand 36 = .ok (.istore 5, 2) := by decide +kernel
theorem dX8_stand_38 : decode cX8_stand 38 = .ok (.iconst (-1), 1) := by decide +kernel
theorem dX8_stand_39 : decode cX8_stand 39 = .ok (.istore 6, 2) := by decide +kernel
theorem dX8_stand_41 : decode cX8_stand 41 = .ok (.iconst 0, 1) := by decide +kernel
theorem dX8_stand_42 : decode cX8_stand 42 = .ok (.istore 7, 2) := by decide +kernel
theorem dX8_stand_44 : decode cX8_stand 44 = .ok (.iload 7, 2) := by decide +kernel
theorem dX8_stand_46 : decode cX8_stand 46 = .ok (.aload_n 0, 1) := by decide +kernel
theorem dX8_stand_47 : decode cX8_stand 47 = .ok (.getfield 19, 3) := by decide +kernel
theorem dX8_stand_50 : decode cX8_stand 50 = .ok (.invokevirtual 214, 3) := by decide +kernel
theorem dX8_stand_53 : decode cX8_stand 53 = .ok (.if_icmp .ge 61, 3) := by decide +kernel
theorem dX8_stand_56 : decode cX8_stand 56 = .ok (.iload 6, 2) := by decide +kernel
theorem dX8_stand_58 : decode cX8_stand 58 = .ok (.iload 4, 2) := by decide +kernel
theorem dX8_stand_60 : decode cX8_stand 60 = .ok (.iload_n 3, 1) := by decide +kernel
theorem dX8_stand_61 : decode cX8_stand 61 = .ok (.imul, 1) := by decide +kernel
theorem dX8_stand_62 : decode cX8_stand 62 = .ok (.if_icmp .ge 52, 3) := by decide +kernel
theorem dX8_stand_65 : decode cX8_stand 65 = .ok (.aload_n 0, 1) := by decide +kernel
theorem dX8_stand_66 : decode cX8_stand 66 = .ok (.getfield 45, 3) := by decide +kernel
theorem dX8_stand_69 : decode cX8_stand 69 = .ok (.getfield 194, 3) := by decide +kernel
theorem dX8_stand_72 : decode cX8_stand 72 = .ok (.iload 7, 2) := by decide +kernel
theorem dX8_stand_74 : decode cX8_stand 74 = .ok (.iaload, 1) := by decide +kernel
theorem dX8_stand_75 : decode cX8_stand 75 = .ok (.ifCond .eq 6, 3) := by decide +kernel
theorem dX8_stand_78 : decode cX8_stand 78 = .ok (.goto 30, 3) := by decide +kernel
theorem dX8_stand_81 : decode cX8_stand 81 = .ok (.aload_n 0, 1) := by decide +kernel
theorem dX8_stand_82 : decode cX8_stand 82 = .ok (.iload 7, 2) := by decide +kernel
theorem dX8_stand_84 : decode cX8_stand 84 = .ok (.iload_n 1, 1) := by decide +kernel
theorem dX8_stand_85 : decode cX8_stand 85 = .ok (.iload 4, 2) := by decide +kernel
theorem dX8_stand_87 : decode cX8_stand 87 = .ok (.iload_n 3, 1) := by decide +kernel
theorem dX8_stand_88 : decode cX8_stand 88 = .ok (.invokevirtual 303, 3) := by decide +kernel
theorem dX8_stand_91 : decode cX8_stand 91 = .ok (.istore 8, 2) := by decide +kernel
theorem dX8_stand_93 : decode cX8_stand 93 = .ok (.iload 8, 2) := by decide +kernel
theorem dX8_stand_95 : decode cX8_stand 95 = .ok (.iload 6, 2) := by decide +kernel
theorem dX8_stand_97 : decode cX8_stand 97 = .ok (.if_icmp .le 11, 3) := by decide +kernel
theorem dX8_stand_100 : decode cX8_stand 100 = .ok (.iload 8, 2) := by decide +kernel
theorem dX8_stand_102 : decode cX8_stand 102 = .ok (.istore 6, 2) := by decide +kernel
theorem dX8_stand_104 : decode cX8_stand 104 = .ok (.iload 7, 2) := by decide +kernel
theorem dX8_stand_106 : decode cX8_stand 106 = .ok (.istore 5, 2) := by decide +kernel
theorem dX8_stand_108 : decode cX8_stand 108 = .ok (.iinc 7 1, 3) := by decide +kernel
theorem dX8_stand_111 : decode cX8_stand 111 = .ok (.goto (-67), 3) := by decide +kernel
theorem dX8_stand_114 : decode cX8_stand 114 = .ok (.iload 5, 2) := by decide +kernel
theorem dX8_stand_116 : decode cX8_stand 116 = .ok (.ireturn, 1) := by decide +kernel
theorem dX8_outlasts_0 : decode cX8_outlasts 0 = .ok (.aload_n 0, 1) := by decide +kernel
theorem dX8_outlasts_1 : decode cX8_outlasts 1 = .ok (.iload_n 1, 1) := by decide +kernel
theorem dX8_outlasts_2 : decode cX8_outlasts 2 = .ok (.invokevirtual 201, 3) := by decide +kernel
theorem dX8_outlasts_5 : decode cX8_outlasts 5 = .ok (.ifCond .eq 31, 3) := by decide +kernel
theorem dX8_outlasts_8 : decode cX8_outlasts 8 = .ok (.aload_n 0, 1) := by decide +kernel
theorem dX8_outlasts_9 : decode cX8_outlasts 9 = .ok (.iload_n 2, 1) := by decide +kernel
theorem dX8_outlasts_10 : decode cX8_outlasts 10 = .ok (.invokevirtual 201, 3) := by decide +kernel
theorem dX8_outlasts_13 : decode cX8_outlasts 13 = .ok (.ifCond .eq 23, 3) := by decide +kernel
theorem dX8_outlasts_16 : decode cX8_outlasts 16 = .ok (.iload_n 1, 1) := by decide +kernel
theorem dX8_outlasts_17 : decode cX8_outlasts 17 = .ok (.iload_n 2, 1) := by decide +kernel
theorem dX8_outlasts_18 : decode cX8_outlasts 18 = .ok (.if_icmp .eq 18, 3) := by decide +kernel
theorem dX8_outlasts_21 : decode cX8_outlasts 21 = .ok (.iload_n 3, 1) := by decide +kernel
theorem dX8_outlasts_22 : decode cX8_outlasts 22 = .ok (.invokestatic 297, 3) := by decide +kernel
theorem dX8_outlasts_25 : decode cX8_outlasts 25 = .ok (.ifCond .eq 11, 3) := by decide +kernel
theorem dX8_outlasts_28 : decode cX8_outlasts 28 = .ok (.iload 4, 2) := by decide +kernel
theorem dX8_outlasts_30 : decode cX8_outlasts 30 = .ok (.invokestatic 273, 3) := by decide +kernel
theorem dX8_outlasts_33 : decode cX8_outlasts 33 = .ok (.ifCond .ne 6, 3) := by decide +kernel
theorem dX8_outlasts_36 : decode cX8_outlasts 36 = .ok (.bipush (-2), 2) := by decide +kernel
theorem dX8_outlasts_38 : decode cX8_outlasts 38 = .ok (.ireturn, 1) := by decide +kernel
theorem dX8_outlasts_39 : decode cX8_outlasts 39 = .ok (.aload_n 0, 1) := by decide +kernel
theorem dX8_outlasts_40 : decode cX8_outlasts 40 = .ok (.iload_n 3, 1) := by decide +kernel
theorem dX8_outlasts_41 : decode cX8_outlasts 41 = .ok (.invokevirtual 300, 3) := by decide +kernel
theorem dX8_outlasts_44 : decode cX8_outlasts 44 = .ok (.istore 6, 2) := by decide +kernel
theorem dX8_outlasts_46 : decode cX8_outlasts 46 = .ok (.iconst 0, 1) := by decide +kernel
theorem dX8_outlasts_47 : decode cX8_outlasts 47 = .ok (.istore 7, 2) := by decide +kernel
theorem dX8_outlasts_49 : decode cX8_outlasts 49 = .ok (.iconst 1, 1) := by decide +kernel
theorem dX8_outlasts_50 : decode cX8_outlasts 50 = .ok (.istore 8, 2) := by decide +kernel
theorem dX8_outlasts_52 : decode cX8_outlasts 52 = .ok (.iload 8, 2) := by decide +kernel
theorem dX8_outlasts_54 : decode cX8_outlasts 54 = .ok (.iload 6, 2) := by decide +kernel
theorem dX8_outlasts_56 : decode cX8_outlasts 56 = .ok (.if_icmp .gt 89, 3) := by decide +kernel
theorem dX8_outlasts_59 : decode cX8_outlasts 59 = .ok (.aload_n 0, 1) := by decide +kernel
theorem dX8_outlasts_60 : decode cX8_outlasts 60 = .ok (.getfield 67, 3) := by decide +kernel
theorem dX8_outlasts_63 : decode cX8_outlasts 63 = .ok (.aload_n 0, 1) := by decide +kernel
theorem dX8_outlasts_64 : decode cX8_outlasts 64 = .ok (.getfield 45, 3) := by decide +kernel
theorem dX8_outlasts_67 : decode cX8_outlasts 67 = .ok (.iconst (-1), 1) := by decide +kernel
theorem dX8_outlasts_68 : decode cX8_outlasts 68 = .ok (.iload 8, 2) := by decide +kernel
theorem dX8_outlasts_70 : decode cX8_outlasts 70 = .ok (.invokevirtual 276, 3) := by decide +kernel
theorem dX8_outlasts_73 : decode cX8_outlasts 73 = .ok (.aload_n 0, 1) := by decide +kernel
theorem dX8_outlasts_74 : decode cX8_outlasts 74 = .ok (.getfield 67, 3) := by decide +kernel
theorem dX8_outlasts_77 : decode cX8_outlasts 77 = .ok (.aload_n 0, 1) := by decide +kernel
theorem dX8_outlasts_78 : decode cX8_outlasts 78 = .ok (.getfield 19, 3) := by decide +kernel
theorem dX8_outlasts_81 : decode cX8_outlasts 81 = .ok (.iload_n 1, 1) := by decide +kernel
theorem dX8_outlasts_82 : decode cX8_outlasts 82 = .ok (.invokevirtual 280, 3) := by decide +kernel
theorem dX8_outlasts_85 : decode cX8_outlasts 85 = .ok (.aload_n 0, 1) := by decide +kernel
theorem dX8_outlasts_86 : decode cX8_outlasts 86 = .ok (.getfield 67, 3) := by decide +kernel
theorem dX8_outlasts_89 : decode cX8_outlasts 89 = .ok (.aload_n 0, 1) := by decide +kernel
theorem dX8_outlasts_90 : decode cX8_outlasts 90 = .ok (.getfield 19, 3) := by decide +kernel
theorem dX8_outlasts_93 : decode cX8_outlasts 93 = .ok (.iload_n 2, 1) := by decide +kernel
theorem dX8_outlasts_94 : decode cX8_outlasts 94 = .ok (.invokevirtual 280, 3) := by decide +kernel
theorem dX8_outlasts_97 : decode cX8_outlasts 97 = .ok (.aload_n 0, 1) := by decide +kernel
theorem dX8_outlasts_98 : decode cX8_outlasts 98 = .ok (.getfield 67, 3) := by decide +kernel
theorem dX8_outlasts_101 : decode cX8_outlasts 101 = .ok (.aload_n 0, 1) := by decide +kernel
theorem dX8_outlasts_102 : decode cX8_outlasts 102 = .ok (.getfield 19, 3) := by decide +kernel
theorem dX8_outlasts_105 : decode cX8_outlasts 105 = .ok (.aload_n 0, 1) := by decide +kernel
theorem dX8_outlasts_106 : decode cX8_outlasts 106 = .ok (.getfield 29, 3) := by decide +kernel
theorem dX8_outlasts_109 : decode cX8_outlasts 109 = .ok (.aconst_null, 1) := by decide +kernel
theorem dX8_outlasts_110 : decode cX8_outlasts 110 = .ok (.iload 4, 2) := by decide +kernel
theorem dX8_outlasts_112 : decode cX8_outlasts 112 = .ok (.invokevirtual 284, 3) := by decide +kernel
theorem dX8_outlasts_115 : decode cX8_outlasts 115 = .ok (.aload_n 0, 1) := by decide +kernel
theorem dX8_outlasts_116 : decode cX8_outlasts 116 = .ok (.getfield 67, 3) := by decide +kernel
theorem dX8_outlasts_119 : decode cX8_outlasts 119 = .ok (.getfield 288, 3) := by decide +kernel
theorem dX8_outlasts_122 : decode cX8_outlasts 122 = .ok (.iconst 0, 1) := by decide +kernel
theorem dX8_outlasts_123 : decode cX8_outlasts 123 = .ok (.iaload, 1) := by decide +kernel
theorem dX8_outlasts_124 : decode cX8_outlasts 124 = .ok (.aload_n 0, 1) := by decide +kernel
theorem dX8_outlasts_125 : decode cX8_outlasts 125 = .ok (.getfield 67, 3) := by decide +kernel
theorem dX8_outlasts_128 : decode cX8_outlasts 128 = .ok (.getfield 288, 3) := by decide +kernel
theorem dX8_outlasts_131 : decode cX8_outlasts 131 = .ok (.iconst 1, 1) := by decide +kernel
theorem dX8_outlasts_132 : decode cX8_outlasts 132 = .ok (.iaload, 1) := by decide +kernel
theorem dX8_outlasts_133 : decode cX8_outlasts 133 = .ok (.if_icmp .le 6, 3) := by decide +kernel
theorem dX8_outlasts_136 : decode cX8_outlasts 136 = .ok (.iinc 7 1, 3) := by decide +kernel
theorem dX8_outlasts_139 : decode cX8_outlasts 139 = .ok (.iinc 8 1, 3) := by decide +kernel
theorem dX8_outlasts_142 : decode cX8_outlasts 142 = .ok (.goto (-90), 3) := by decide +kernel
theorem dX8_outlasts_145 : decode cX8_outlasts 145 = .ok (.iload 7, 2) := by decide +kernel
theorem dX8_outlasts_147 : decode cX8_outlasts 147 = .ok (.iload 6, 2) := by decide +kernel
theorem dX8_outlasts_149 : decode cX8_outlasts 149 = .ok (.invokestatic 306, 3) := by decide +kernel
theorem dX8_outlasts_152 : decode cX8_outlasts 152 = .ok (.istore 8, 2) := by decide +kernel
theorem dX8_outlasts_154 : decode cX8_outlasts 154 = .ok (.iload 5, 2) := by decide +kernel
theorem dX8_outlasts_156 : decode cX8_outlasts 156 = .ok (.ifCond .eq 11, 3) := by decide +kernel
theorem dX8_outlasts_159 : decode cX8_outlasts 159 = .ok (.iload 6, 2) := by decide +kernel
theorem dX8_outlasts_161 : decode cX8_outlasts 161 = .ok (.iload 8, 2) := by decide +kernel
theorem dX8_outlasts_163 : decode cX8_outlasts 163 = .ok (.idiv, 1) := by decide +kernel
theorem dX8_outlasts_164 : decode cX8_outlasts 164 = .ok (.goto 8, 3) := by decide +kernel
theorem dX8_outlasts_167 : decode cX8_outlasts 167 = .ok (.iload 7, 2) := by decide +kernel
theorem dX8_outlasts_169 : decode cX8_outlasts 169 = .ok (.iload 8, 2) := by decide +kernel
theorem dX8_outlasts_171 : decode cX8_outlasts 171 = .ok (.idiv, 1) := by decide +kernel
theorem dX8_outlasts_172 : decode cX8_outlasts 172 = .ok (.ireturn, 1) := by decide +kernel
theorem dX8_contest_0 : decode cX8_contest 0 = .ok (.iload_n 1, 1) := by decide +kernel
theorem dX8_contest_1 : decode cX8_contest 1 = .ok (.ifCond .lt 22, 3) := by decide +kernel
theorem dX8_contest_4 : decode cX8_contest 4 = .ok (.iload_n 1, 1) := by decide +kernel
theorem dX8_contest_5 : decode cX8_contest 5 = .ok (.iconst 1, 1) := by decide +kernel
theorem dX8_contest_6 : decode cX8_contest 6 = .ok (.if_icmp .gt 17, 3) := by decide +kernel
theorem dX8_contest_9 : decode cX8_contest 9 = .ok (.iload_n 2, 1) := by decide +kernel
theorem dX8_contest_10 : decode cX8_contest 10 = .ok (.invokestatic 297, 3) := by decide +kernel
theorem dX8_contest_13 : decode cX8_contest 13 = .ok (.ifCond .eq 10, 3) := by decide +kernel
theorem dX8_contest_16 : decode cX8_contest 16 = .ok (.iload_n 3, 1) := by decide +kernel
theorem dX8_contest_17 : decode cX8_contest 17 = .ok (.invokestatic 273, 3) := by decide +kernel
theorem dX8_contest_20 : decode cX8_contest 20 = .ok (.ifCond .ne 6, 3) := by decide +kernel
theorem dX8_contest_23 : decode cX8_contest 23 = .ok (.bipush (-2), 2) := by decide +kernel
theorem dX8_contest_25 : decode cX8_contest 25 = .ok (.ireturn, 1) := by decide +kernel
theorem dX8_contest_26 : decode cX8_contest 26 = .ok (.aload_n 0, 1) := by decide +kernel
theorem dX8_contest_27 : decode cX8_contest 27 = .ok (.getfield 19, 3) := by decide +kernel
theorem dX8_contest_30 : decode cX8_contest 30 = .ok (.getfield 124, 3) := by decide +kernel
theorem dX8_contest_33 : decode cX8_contest 33 = .ok (.ifCond .ne 6, 3) := by decide +kernel
theorem dX8_contest_36 : decode cX8_contest 36 = .ok (.bipush (-4), 2) := by decide +kernel
theorem dX8_contest_38 : decode cX8_contest 38 = .ok (.ireturn, 1) := by decide +kernel
theorem dX8_contest_39 : decode cX8_contest 39 = .ok (.aload_n 0, 1) := by decide +kernel
theorem dX8_contest_40 : decode cX8_contest 40 = .ok (.iload_n 2, 1) := by decide +kernel
theorem dX8_contest_41 : decode cX8_contest 41 = .ok (.invokevirtual 300, 3) := by decide +kernel
theorem dX8_contest_44 : decode cX8_contest 44 = .ok (.istore 4, 2) := by decide +kernel
theorem dX8_contest_46 : decode cX8_contest 46 = .ok (.iconst (-1), 1) := by decide +kernel
theorem dX8_contest_47 : decode cX8_contest 47 = .ok (.istore 5, 2) := by decide +kernel
theorem dX8_contest_49 : decode cX8_contest 49 = .ok (.iconst (-1), 1) := by decide +kernel
theorem dX8_contest_50 : decode cX8_contest 50 = .ok (.istore 6, 2) := by decide +kernel
theorem dX8_contest_52 : decode cX8_contest 52 = .ok (.iconst 0, 1) := by decide +kernel
theorem dX8_contest_53 : decode cX8_contest 53 = .ok (.istore 7, 2) := by decide +kernel
theorem dX8_contest_55 : decode cX8_contest 55 = .ok (.iload 7, 2) := by decide +kernel
theorem dX8_contest_57 : decode cX8_contest 57 = .ok (.aload_n 0, 1) := by decide +kernel
theorem dX8_contest_58 : decode cX8_contest 58 = .ok (.getfield 102, 3) := by decide +kernel
theorem dX8_contest_61 : decode cX8_contest 61 = .ok (.if_icmp .ge 58, 3) := by decide +kernel
theorem dX8_contest_64 : decode cX8_contest 64 = .ok (.iconst 0, 1) := by decide +kernel
theorem dX8_contest_65 : decode cX8_contest 65 = .ok (.istore 8, 2) := by decide +kernel
theorem dX8_contest_67 : decode cX8_contest 67 = .ok (.iconst 1, 1) := by decide +kernel
theorem dX8_contest_68 : decode cX8_contest 68 = .ok (.istore 9, 2) := by decide +kernel
theorem dX8_contest_70 : decode cX8_contest 70 = .ok (.iload 9, 2) := by decide +kernel
theorem dX8_contest_72 : decode cX8_contest 72 = .ok (.iload 4, 2) := by decide +kernel
theorem dX8_contest_74 : decode cX8_contest 74 = .ok (.if_icmp .gt 24, 3) := by decide +kernel
theorem dX8_contest_77 : decode cX8_contest 77 = .ok (.iload 8, 2) := by decide +kernel
theorem dX8_contest_79 : decode cX8_contest 79 = .ok (.aload_n 0, 1) := by decide +kernel
theorem dX8_contest_80 : decode cX8_contest 80 = .ok (.iload 7, 2) := by decide +kernel
theorem dX8_contest_82 : decode cX8_contest 82 = .ok (.iload_n 1, 1) := by decide +kernel
theorem dX8_contest_83 : decode cX8_contest 83 = .ok (.iload 9, 2) := by decide +kernel
theorem dX8_contest_85 : decode cX8_contest 85 = .ok (.iload_n 3, 1) := by decide +kernel
theorem dX8_contest_86 : decode cX8_contest 86 = .ok (.invokevirtual 309, 3) := by decide +kernel
theorem dX8_contest_89 : decode cX8_contest 89 = .ok (.iadd, 1) := by decide +kernel
theorem dX8_contest_90 : decode cX8_contest 90 = .ok (.istore 8, 2) := by decide +kernel
theorem dX8_contest_92 : decode cX8_contest 92 = .ok (.iinc 9 1, 3) := by decide +kernel
theorem dX8_contest_95 : decode cX8_contest 95 = .ok (.goto (-25), 3) := by decide +kernel
theorem dX8_contest_98 : decode cX8_contest 98 = .ok (.iload 8, 2) := by decide +kernel
theorem dX8_contest_100 : decode cX8_contest 100 = .ok (.iload 6, 2) := by decide +kernel
theorem dX8_contest_102 : decode cX8_contest 102 = .ok (.if_icmp .le 11, 3) := by decide +kernel
theorem dX8_contest_105 : decode cX8_contest 105 = .ok (.iload 8, 2) := by decide +kernel
theorem dX8_contest_107 : decode cX8_contest 107 = .ok (.istore 6, 2) := by decide +kernel
theorem dX8_contest_109 : decode cX8_contest 109 = .ok (.iload 7, 2) := by decide +kernel
theorem dX8_contest_111 : decode cX8_contest 111 = .ok (.istore 5, 2) := by decide +kernel
theorem dX8_contest_113 : decode cX8_contest 113 = .ok (.iinc 7 1, 3) := by decide +kernel
theorem dX8_contest_116 : decode cX8_contest 116 = .ok (.goto (-61), 3) := by decide +kernel
theorem dX8_contest_119 : decode cX8_contest 119 = .ok (.iload 5, 2) := by decide +kernel
theorem dX8_contest_121 : decode cX8_contest 121 = .ok (.ireturn, 1) := by decide +kernel
theorem dX8_which_0 : decode cX8_which 0 = .ok (.aload_n 0, 1) := by decide +kernel
theorem dX8_which_1 : decode cX8_which 1 = .ok (.getfield 10, 3) := by decide +kernel
theorem dX8_which_4 : decode cX8_which 4 = .ok (.aload_n 0, 1) := by decide +kernel
theorem dX8_which_5 : decode cX8_which 5 = .ok (.getfield 19, 3) := by decide +kernel
theorem dX8_which_8 : decode cX8_which 8 = .ok (.invokevirtual 214, 3) := by decide +kernel
theorem dX8_which_11 : decode cX8_which 11 = .ok (.invokevirtual 312, 3) := by decide +kernel
theorem dX8_which_14 : decode cX8_which 14 = .ok (.ifCond .eq 10, 3) := by decide +kernel
theorem dX8_which_17 : decode cX8_which 17 = .ok (.aload_n 0, 1) := by decide +kernel
theorem dX8_which_18 : decode cX8_which 18 = .ok (.invokevirtual 315, 3) := by decide +kernel
theorem dX8_which_21 : decode cX8_which 21 = .ok (.goto 4, 3) := by decide +kernel
theorem dX8_which_24 : decode cX8_which 24 = .ok (.iconst (-1), 1) := by decide +kernel
theorem dX8_which_25 : decode cX8_which 25 = .ok (.istore_n 1, 1) := by decide +kernel
theorem dX8_which_26 : decode cX8_which 26 = .ok (.aload_n 0, 1) := by decide +kernel
theorem dX8_which_27 : decode cX8_which 27 = .ok (.getfield 10, 3) := by decide +kernel
theorem dX8_which_30 : decode cX8_which 30 = .ok (.iconst 0, 1) := by decide +kernel
theorem dX8_which_31 : decode cX8_which 31 = .ok (.putfield 83, 3) := by decide +kernel
theorem dX8_which_34 : decode cX8_which 34 = .ok (.iload_n 1, 1) := by decide +kernel
theorem dX8_which_35 : decode cX8_which 35 = .ok (.ireturn, 1) := by decide +kernel
theorem dX8_join_0 : decode cX8_join 0 = .ok (.iload_n 1, 1) := by decide +kernel
theorem dX8_join_1 : decode cX8_join 1 = .ok (.iconst 1, 1) := by decide +kernel
theorem dX8_join_2 : decode cX8_join 2 = .ok (.if_icmp .lt 72, 3) := by decide +kernel
theorem dX8_join_5 : decode cX8_join 5 = .ok (.iload_n 1, 1) := by decide +kernel
theorem dX8_join_6 : decode cX8_join 6 = .ok (.bipush 99, 2) := by decide +kernel
theorem dX8_join_8 : decode cX8_join 8 = .ok (.if_icmp .gt 66, 3) := by decide +kernel
theorem dX8_join_11 : decode cX8_join 11 = .ok (.iload_n 2, 1) := by decide +kernel
theorem dX8_join_12 : decode cX8_join 12 = .ok (.iconst 1, 1) := by decide +kernel
theorem dX8_join_13 : decode cX8_join 13 = .ok (.if_icmp .lt 61, 3) := by decide +kernel
theorem dX8_join_16 : decode cX8_join 16 = .ok (.iload_n 2, 1) := by decide +kernel
theorem dX8_join_17 : decode cX8_join 17 = .ok (.bipush 99, 2) := by decide +kernel
theorem dX8_join_19 : decode cX8_join 19 = .ok (.if_icmp .gt 55, 3) := by decide +kernel
theorem dX8_join_22 : decode cX8_join 22 = .ok (.iload_n 3, 1) := by decide +kernel
theorem dX8_join_23 : decode cX8_join 23 = .ok (.iconst 1, 1) := by decide +kernel
theorem dX8_join_24 : decode cX8_join 24 = .ok (.if_icmp .lt 50, 3) := by decide +kernel
theorem dX8_join_27 : decode cX8_join 27 = .ok (.iload_n 3, 1) := by decide +kernel
theorem dX8_join_28 : decode cX8_join 28 = .ok (.bipush 50, 2) := by decide +kernel
theorem dX8_join_30 : decode cX8_join 30 = .ok (.if_icmp .gt 44, 3) := by decide +kernel
theorem dX8_join_33 : decode cX8_join 33 = .ok (.iload 4, 2) := by decide +kernel
theorem dX8_join_35 : decode cX8_join 35 = .ok (.iconst 1, 1) := by decide +kernel
theorem dX8_join_36 : decode cX8_join 36 = .ok (.if_icmp .lt 38, 3) := by decide +kernel
theorem dX8_join_39 : decode cX8_join 39 = .ok (.iload 4, 2) := by decide +kernel
theorem dX8_join_41 : decode cX8_join 41 = .ok (.bipush 50, 2) := by decide +kernel
theorem dX8_join_43 : decode cX8_join 43 = .ok (.if_icmp .gt 31, 3) := by decide +kernel
theorem dX8_join_46 : decode cX8_join 46 = .ok (.iload 5, 2) := by decide +kernel
theorem dX8_join_48 : decode cX8_join 48 = .ok (.iconst 1, 1) := by decide +kernel
theorem dX8_join_49 : decode cX8_join 49 = .ok (.if_icmp .lt 25, 3) := by decide +kernel
theorem dX8_join_52 : decode cX8_join 52 = .ok (.iload 5, 2) := by decide +kernel
theorem dX8_join_54 : decode cX8_join 54 = .ok (.bipush 100, 2) := by decide +kernel
theorem dX8_join_56 : decode cX8_join 56 = .ok (.if_icmp .gt 18, 3) := by decide +kernel
theorem dX8_join_59 : decode cX8_join 59 = .ok (.iload 6, 2) := by decide +kernel
theorem dX8_join_61 : decode cX8_join 61 = .ok (.ifCond .lt 13, 3) := by decide +kernel
theorem dX8_join_64 : decode cX8_join 64 = .ok (.iload 6, 2) := by decide +kernel
theorem dX8_join_66 : decode cX8_join 66 = .ok (.iconst 1, 1) := by decide +kernel
theorem dX8_join_67 : decode cX8_join 67 = .ok (.if_icmp .gt 7, 3) := by decide +kernel
theorem dX8_join_70 : decode cX8_join 70 = .ok (.iconst 1, 1) := by decide +kernel
theorem dX8_join_71 : decode cX8_join 71 = .ok (.goto 4, 3) := by decide +kernel
theorem dX8_join_74 : decode cX8_join 74 = .ok (.iconst 0, 1) := by decide +kernel
theorem dX8_join_75 : decode cX8_join 75 = .ok (.istore 7, 2) := by decide +kernel
theorem dX8_join_77 : decode cX8_join 77 = .ok (.iload 7, 2) := by decide +kernel
theorem dX8_join_79 : decode cX8_join 79 = .ok (.ifCond .ne 6, 3) := by decide +kernel
theorem dX8_join_82 : decode cX8_join 82 = .ok (.bipush (-2), 2) := by decide +kernel
theorem dX8_join_84 : decode cX8_join 84 = .ok (.ireturn, 1) := by decide +kernel
theorem dX8_join_85 : decode cX8_join 85 = .ok (.iload_n 1, 1) := by decide +kernel
theorem dX8_join_86 : decode cX8_join 86 = .ok (.iload_n 2, 1) := by decide +kernel
theorem dX8_join_87 : decode cX8_join 87 = .ok (.invokestatic 318, 3) := by decide +kernel
theorem dX8_join_90 : decode cX8_join 90 = .ok (.istore 8, 2) := by decide +kernel
theorem dX8_join_92 : decode cX8_join 92 = .ok (.iload_n 3, 1) := by decide +kernel
theorem dX8_join_93 : decode cX8_join 93 = .ok (.iload 4, 2) := by decide +kernel
theorem dX8_join_95 : decode cX8_join 95 = .ok (.iadd, 1) := by decide +kernel
theorem dX8_join_96 : decode cX8_join 96 = .ok (.iload 5, 2) := by decide +kernel
theorem dX8_join_98 : decode cX8_join 98 = .ok (.imul, 1) := by decide +kernel
theorem dX8_join_99 : decode cX8_join 99 = .ok (.istore 9, 2) := by decide +kernel
theorem dX8_join_101 : decode cX8_join 101 = .ok (.iconst 0, 1) := by decide +kernel
theorem dX8_join_102 : decode cX8_join 102 = .ok (.istore 10, 2) := by decide +kernel
theorem dX8_join_104 : decode cX8_join 104 = .ok (.ldc_w 321, 3) := by decide +kernel
theorem dX8_join_107 : decode cX8_join 107 = .ok (.istore 11, 2) := by decide +kernel
theorem dX8_join_109 : decode cX8_join 109 = .ok (.iconst 0, 1) := by decide +kernel
theorem dX8_join_110 : decode cX8_join 110 = .ok (.istore 12, 2) := by decide +kernel
theorem dX8_join_112 : decode cX8_join 112 = .ok (.iload 12, 2) := by decide +kernel
theorem dX8_join_114 : decode cX8_join 114 = .ok (.bipush 99, 2) := by decide +kernel
theorem dX8_join_116 : decode cX8_join 116 = .ok (.if_icmp .gt 68, 3) := by decide +kernel
theorem dX8_join_119 : decode cX8_join 119 = .ok (.iconst 0, 1) := by decide +kernel
theorem dX8_join_120 : decode cX8_join 120 = .ok (.iload 8, 2) := by decide +kernel
theorem dX8_join_122 : decode cX8_join 122 = .ok (.iload_n 3, 1) := by decide +kernel
theorem dX8_join_123 : decode cX8_join 123 = .ok (.iload 12, 2) := by decide +kernel
theorem dX8_join_125 : decode cX8_join 125 = .ok (.imul, 1) := by decide +kernel
theorem dX8_join_126 : decode cX8_join 126 = .ok (.isub, 1) := by decide +kernel
theorem dX8_join_127 : decode cX8_join 127 = .ok (.invokestatic 322, 3) := by decide +kernel
theorem dX8_join_130 : decode cX8_join 130 = .ok (.iconst 0, 1) := by decide +kernel
theorem dX8_join_131 : decode cX8_join 131 = .ok (.iload 8, 2) := by decide +kernel
theorem dX8_join_133 : decode cX8_join 133 = .ok (.iload 4, 2) := by decide +kernel
theorem dX8_join_135 : decode cX8_join 135 = .ok (.iload 12, 2) := by decide +kernel
theorem dX8_join_137 : decode cX8_join 137 = .ok (.imul, 1) := by decide +kernel
theorem dX8_join_138 : decode cX8_join 138 = .ok (.isub, 1) := by decide +kernel
theorem dX8_join_139 : decode cX8_join 139 = .ok (.invokestatic 322, 3) := by decide +kernel
theorem dX8_join_142 : decode cX8_join 142 = .ok (.iadd, 1) := by decide +kernel
theorem dX8_join_143 : decode cX8_join 143 = .ok (.istore 13, 2) := by decide +kernel
theorem dX8_join_145 : decode cX8_join 145 = .ok (.iload 12, 2) := by decide +kernel
theorem dX8_join_147 : decode cX8_join 147 = .ok (.iload 13, 2) := by decide +kernel
theorem dX8_join_149 : decode cX8_join 149 = .ok (.bipush 100, 2) := by decide +kernel
theorem dX8_join_151 : decode cX8_join 151 = .ok (.imul, 1) := by decide +kernel
theorem dX8_join_152 : decode cX8_join 152 = .ok (.iload 9, 2) := by decide +kernel
theorem dX8_join_154 : decode cX8_join 154 = .ok (.iadd, 1) := by decide +kernel
theorem dX8_join_155 : decode cX8_join 155 = .ok (.iconst 1, 1) := by decide +kernel
theorem dX8_join_156 : decode cX8_join 156 = .ok (.isub, 1) := by decide +kernel
theorem dX8_join_157 : decode cX8_join 157 = .ok (.iload 9, 2) := by decide +kernel
theorem dX8_join_159 : decode cX8_join 159 = .ok (.idiv, 1) := by decide +kernel
theorem dX8_join_160 : decode cX8_join 160 = .ok (.iadd, 1) := by decide +kernel
theorem dX8_join_161 : decode cX8_join 161 = .ok (.istore 14, 2) := by decide +kernel
theorem dX8_join_163 : decode cX8_join 163 = .ok (.iload 14, 2) := by decide +kernel
theorem dX8_join_165 : decode cX8_join 165 = .ok (.iload 11, 2) := by decide +kernel
theorem dX8_join_167 : decode cX8_join 167 = .ok (.if_icmp .ge 11, 3) := by decide +kernel
theorem dX8_join_170 : decode cX8_join 170 = .ok (.iload 14, 2) := by decide +kernel
theorem dX8_join_172 : decode cX8_join 172 = .ok (.istore 11, 2) := by decide +kernel
theorem dX8_join_174 : decode cX8_join 174 = .ok (.iload 12, 2) := by decide +kernel
theorem dX8_join_176 : decode cX8_join 176 = .ok (.istore 10, 2) := by decide +kernel
theorem dX8_join_178 : decode cX8_join 178 = .ok (.iinc 12 1, 3) := by decide +kernel
theorem dX8_join_181 : decode cX8_join 181 = .ok (.goto (-69), 3) := by decide +kernel
theorem dX8_join_184 : decode cX8_join 184 = .ok (.iload 6, 2) := by decide +kernel
theorem dX8_join_186 : decode cX8_join 186 = .ok (.ifCond .ne 8, 3) := by decide +kernel
theorem dX8_join_189 : decode cX8_join 189 = .ok (.iload 10, 2) := by decide +kernel
theorem dX8_join_191 : decode cX8_join 191 = .ok (.goto 5, 3) := by decide +kernel
theorem dX8_join_194 : decode cX8_join 194 = .ok (.iload 11, 2) := by decide +kernel
theorem dX8_join_196 : decode cX8_join 196 = .ok (.ireturn, 1) := by decide +kernel
theorem dX8_count_0 : decode cX8_count 0 = .ok (.iload_n 1, 1) := by decide +kernel
theorem dX8_count_1 : decode cX8_count 1 = .ok (.tableswitch 85 0 4 #[35, 45, 55, 65, 75], 35) := by decide +kernel
theorem dX8_count_36 : decode cX8_count 36 = .ok (.aload_n 0, 1) := by decide +kernel
theorem dX8_count_37 : decode cX8_count 37 = .ok (.getfield 19, 3) := by decide +kernel
theorem dX8_count_40 : decode cX8_count 40 = .ok (.getfield 105, 3) := by decide +kernel
theorem dX8_count_43 : decode cX8_count 43 = .ok (.goto 44, 3) := by decide +kernel
theorem dX8_count_46 : decode cX8_count 46 = .ok (.aload_n 0, 1) := by decide +kernel
theorem dX8_count_47 : decode cX8_count 47 = .ok (.getfield 29, 3) := by decide +kernel
theorem dX8_count_50 : decode cX8_count 50 = .ok (.getfield 109, 3) := by decide +kernel
theorem dX8_count_53 : decode cX8_count 53 = .ok (.goto 34, 3) := by decide +kernel
theorem dX8_count_56 : decode cX8_count 56 = .ok (.aload_n 0, 1) := by decide +kernel
theorem dX8_count_57 : decode cX8_count 57 = .ok (.getfield 60, 3) := by decide +kernel
theorem dX8_count_60 : decode cX8_count 60 = .ok (.getfield 253, 3) := by decide +kernel
theorem dX8_count_63 : decode cX8_count 63 = .ok (.goto 24, 3) := by decide +kernel
theorem dX8_count_66 : decode cX8_count 66 = .ok (.aload_n 0, 1) := by decide +kernel
theorem dX8_count_67 : decode cX8_count 67 = .ok (.getfield 60, 3) := by decide +kernel
theorem dX8_count_70 : decode cX8_count 70 = .ok (.getfield 260, 3) := by decide +kernel
theorem dX8_count_73 : decode cX8_count 73 = .ok (.goto 14, 3) := by decide +kernel
theorem dX8_count_76 : decode cX8_count 76 = .ok (.aload_n 0, 1) := by decide +kernel
theorem dX8_count_77 : decode cX8_count 77 = .ok (.getfield 10, 3) := by decide +kernel
theorem dX8_count_80 : decode cX8_count 80 = .ok (.getfield 83, 3) := by decide +kernel
theorem dX8_count_83 : decode cX8_count 83 = .ok (.goto 4, 3) := by decide +kernel
theorem dX8_count_86 : decode cX8_count 86 = .ok (.iconst (-1), 1) := by decide +kernel
theorem dX8_count_87 : decode cX8_count 87 = .ok (.ireturn, 1) := by decide +kernel
theorem dX8_isFlag_0 : decode cX8_isFlag 0 = .ok (.iload_n 1, 1) := by decide +kernel
theorem dX8_isFlag_1 : decode cX8_isFlag 1 = .ok (.ifCond .lt 18, 3) := by decide +kernel
theorem dX8_isFlag_4 : decode cX8_isFlag 4 = .ok (.iload_n 1, 1) := by decide +kernel
theorem dX8_isFlag_5 : decode cX8_isFlag 5 = .ok (.aload_n 0, 1) := by decide +kernel
theorem dX8_isFlag_6 : decode cX8_isFlag 6 = .ok (.getfield 19, 3) := by decide +kernel
theorem dX8_isFlag_9 : decode cX8_isFlag 9 = .ok (.getfield 124, 3) := by decide +kernel
theorem dX8_isFlag_12 : decode cX8_isFlag 12 = .ok (.if_icmp .ge 7, 3) := by decide +kernel
theorem dX8_isFlag_15 : decode cX8_isFlag 15 = .ok (.iconst 1, 1) := by decide +kernel
theorem dX8_isFlag_16 : decode cX8_isFlag 16 = .ok (.goto 4, 3) := by decide +kernel
theorem dX8_isFlag_19 : decode cX8_isFlag 19 = .ok (.iconst 0, 1) := by decide +kernel
theorem dX8_isFlag_20 : decode cX8_isFlag 20 = .ok (.ireturn, 1) := by decide +kernel
theorem dX8_isPlanOrNone_0 : decode cX8_isPlanOrNone 0 = .ok (.iload_n 1, 1) := by decide +kernel
theorem dX8_isPlanOrNone_1 : decode cX8_isPlanOrNone 1 = .ok (.iconst (-1), 1) := by decide +kernel
theorem dX8_isPlanOrNone_2 : decode cX8_isPlanOrNone 2 = .ok (.if_icmp .lt 15, 3) := by decide +kernel
theorem dX8_isPlanOrNone_5 : decode cX8_isPlanOrNone 5 = .ok (.iload_n 1, 1) := by decide +kernel
theorem dX8_isPlanOrNone_6 : decode cX8_isPlanOrNone 6 = .ok (.aload_n 0, 1) := by decide +kernel
theorem dX8_isPlanOrNone_7 : decode cX8_isPlanOrNone 7 = .ok (.getfield 102, 3) := by decide +kernel
theorem dX8_isPlanOrNone_10 : decode cX8_isPlanOrNone 10 = .ok (.if_icmp .ge 7, 3) := by decide +kernel
theorem dX8_isPlanOrNone_13 : decode cX8_isPlanOrNone 13 = .ok (.iconst 1, 1) := by decide +kernel
theorem dX8_isPlanOrNone_14 : decode cX8_isPlanOrNone 14 = .ok (.goto 4, 3) := by decide +kernel
theorem dX8_isPlanOrNone_17 : decode cX8_isPlanOrNone 17 = .ok (.iconst 0, 1) := by decide +kernel
theorem dX8_isPlanOrNone_18 : decode cX8_isPlanOrNone 18 = .ok (.ireturn, 1) := by decide +kernel
theorem dX8_planOrNull_0 : decode cX8_planOrNull 0 = .ok (.iload_n 1, 1) := by decide +kernel
theorem dX8_planOrNull_1 : decode cX8_planOrNull 1 = .ok (.ifCond .lt 20, 3) := by decide +kernel
theorem dX8_planOrNull_4 : decode cX8_planOrNull 4 = .ok (.iload_n 1, 1) := by decide +kernel
theorem dX8_planOrNull_5 : decode cX8_planOrNull 5 = .ok (.aload_n 0, 1) := by decide +kernel
theorem dX8_planOrNull_6 : decode cX8_planOrNull 6 = .ok (.getfield 102, 3) := by decide +kernel
theorem dX8_planOrNull_9 : decode cX8_planOrNull 9 = .ok (.if_icmp .ge 12, 3) := by decide +kernel
theorem dX8_planOrNull_12 : decode cX8_planOrNull 12 = .ok (.aload_n 0, 1) := by decide +kernel
theorem dX8_planOrNull_13 : decode cX8_planOrNull 13 = .ok (.getfield 38, 3) := by decide +kernel
theorem dX8_planOrNull_16 : decode cX8_planOrNull 16 = .ok (.iload_n 1, 1) := by decide +kernel
theorem dX8_planOrNull_17 : decode cX8_planOrNull 17 = .ok (.aaload, 1) := by decide +kernel
theorem dX8_planOrNull_18 : decode cX8_planOrNull 18 = .ok (.goto 4, 3) := by decide +kernel
theorem dX8_planOrNull_21 : decode cX8_planOrNull 21 = .ok (.aconst_null, 1) := by decide +kernel
theorem dX8_planOrNull_22 : decode cX8_planOrNull 22 = .ok (.areturn, 1) := by decide +kernel
theorem dX8_isSand_0 : decode cX8_isSand 0 = .ok (.iload_n 0, 1) := by decide +kernel
theorem dX8_isSand_1 : decode cX8_isSand 1 = .ok (.ifCond .lt 22, 3) := by decide +kernel
theorem dX8_isSand_4 : decode cX8_isSand 4 = .ok (.iload_n 0, 1) := by decide +kernel
theorem dX8_isSand_5 : decode cX8_isSand 5 = .ok (.bipush 16, 2) := by decide +kernel
theorem dX8_isSand_7 : decode cX8_isSand 7 = .ok (.if_icmp .gt 16, 3) := by decide +kernel
theorem dX8_isSand_10 : decode cX8_isSand 10 = .ok (.iload_n 1, 1) := by decide +kernel
theorem dX8_isSand_11 : decode cX8_isSand 11 = .ok (.ifCond .lt 12, 3) := by decide +kernel
theorem dX8_isSand_14 : decode cX8_isSand 14 = .ok (.iload_n 1, 1) := by decide +kernel
theorem dX8_isSand_15 : decode cX8_isSand 15 = .ok (.iconst 4, 1) := by decide +kernel
theorem dX8_isSand_16 : decode cX8_isSand 16 = .ok (.if_icmp .gt 7, 3) := by decide +kernel
theorem dX8_isSand_19 : decode cX8_isSand 19 = .ok (.iconst 1, 1) := by decide +kernel
theorem dX8_isSand_20 : decode cX8_isSand 20 = .ok (.goto 4, 3) := by decide +kernel
theorem dX8_isSand_23 : decode cX8_isSand 23 = .ok (.iconst 0, 1) := by decide +kernel
theorem dX8_isSand_24 : decode cX8_isSand 24 = .ok (.ireturn, 1) := by decide +kernel
theorem dX8_isAnswer_0 : decode cX8_isAnswer 0 = .ok (.iload_n 0, 1) := by decide +kernel
theorem dX8_isAnswer_1 : decode cX8_isAnswer 1 = .ok (.ifCond .eq 8, 3) := by decide +kernel
theorem dX8_isAnswer_4 : decode cX8_isAnswer 4 = .ok (.iload_n 0, 1) := by decide +kernel
theorem dX8_isAnswer_5 : decode cX8_isAnswer 5 = .ok (.iconst 1, 1) := by decide +kernel
theorem dX8_isAnswer_6 : decode cX8_isAnswer 6 = .ok (.if_icmp .ne 7, 3) := by decide +kernel
theorem dX8_isAnswer_9 : decode cX8_isAnswer 9 = .ok (.iconst 1, 1) := by decide +kernel
theorem dX8_isAnswer_10 : decode cX8_isAnswer 10 = .ok (.goto 4, 3) := by decide +kernel
theorem dX8_isAnswer_13 : decode cX8_isAnswer 13 = .ok (.iconst 0, 1) := by decide +kernel
theorem dX8_isAnswer_14 : decode cX8_isAnswer 14 = .ok (.ireturn, 1) := by decide +kernel
theorem dX8_isSpan_0 : decode cX8_isSpan 0 = .ok (.iload_n 0, 1) := by decide +kernel
theorem dX8_isSpan_1 : decode cX8_isSpan 1 = .ok (.iconst 1, 1) := by decide +kernel
theorem dX8_isSpan_2 : decode cX8_isSpan 2 = .ok (.if_icmp .lt 13, 3) := by decide +kernel
theorem dX8_isSpan_5 : decode cX8_isSpan 5 = .ok (.iload_n 0, 1) := by decide +kernel
theorem dX8_isSpan_6 : decode cX8_isSpan 6 = .ok (.bipush 99, 2) := by decide +kernel
theorem dX8_isSpan_8 : decode cX8_isSpan 8 = .ok (.if_icmp .gt 7, 3) := by decide +kernel
theorem dX8_isSpan_11 : decode cX8_isSpan 11 = .ok (.iconst 1, 1) := by decide +kernel
theorem dX8_isSpan_12 : decode cX8_isSpan 12 = .ok (.goto 4, 3) := by decide +kernel
theorem dX8_isSpan_15 : decode cX8_isSpan 15 = .ok (.iconst 0, 1) := by decide +kernel
theorem dX8_isSpan_16 : decode cX8_isSpan 16 = .ok (.ireturn, 1) := by decide +kernel
theorem dX8_isSeeds_0 : decode cX8_isSeeds 0 = .ok (.iload_n 0, 1) := by decide +kernel
theorem dX8_isSeeds_1 : decode cX8_isSeeds 1 = .ok (.iconst 1, 1) := by decide +kernel
theorem dX8_isSeeds_2 : decode cX8_isSeeds 2 = .ok (.if_icmp .lt 13, 3) := by decide +kernel
theorem dX8_isSeeds_5 : decode cX8_isSeeds 5 = .ok (.iload_n 0, 1) := by decide +kernel
theorem dX8_isSeeds_6 : decode cX8_isSeeds 6 = .ok (.bipush 9, 2) := by decide +kernel
theorem dX8_isSeeds_8 : decode cX8_isSeeds 8 = .ok (.if_icmp .gt 7, 3) := by decide +kernel
theorem dX8_isSeeds_11 : decode cX8_isSeeds 11 = .ok (.iconst 1, 1) := by decide +kernel
theorem dX8_isSeeds_12 : decode cX8_isSeeds 12 = .ok (.goto 4, 3) := by decide +kernel
theorem dX8_isSeeds_15 : decode cX8_isSeeds 15 = .ok (.iconst 0, 1) := by decide +kernel
theorem dX8_isSeeds_16 : decode cX8_isSeeds 16 = .ok (.ireturn, 1) := by decide +kernel
theorem dX8_seedsThatDiffer_0 : decode cX8_seedsThatDiffer 0 = .ok (.aload_n 0, 1) := by decide +kernel
theorem dX8_seedsThatDiffer_1 : decode cX8_seedsThatDiffer 1 = .ok (.getfield 29, 3) := by decide +kernel
theorem dX8_seedsThatDiffer_4 : decode cX8_seedsThatDiffer 4 = .ok (.invokevirtual 327, 3) := by decide +kernel
theorem dX8_seedsThatDiffer_7 : decode cX8_seedsThatDiffer 7 = .ok (.ifCond .eq 7, 3) := by decide +kernel
theorem dX8_seedsThatDiffer_10 : decode cX8_seedsThatDiffer 10 = .ok (.iload_n 1, 1) := by decide +kernel
theorem dX8_seedsThatDiffer_11 : decode cX8_seedsThatDiffer 11 = .ok (.goto 4, 3) := by decide +kernel
theorem dX8_seedsThatDiffer_14 : decode cX8_seedsThatDiffer 14 = .ok (.iconst 1, 1) := by decide +kernel
theorem dX8_seedsThatDiffer_15 : decode cX8_seedsThatDiffer 15 = .ok (.ireturn, 1) := by decide +kernel
theorem dX8_bestRow_0 : decode cX8_bestRow 0 = .ok (.iconst 1, 1) := by decide +kernel
theorem dX8_bestRow_1 : decode cX8_bestRow 1 = .ok (.iconst 2, 1) := by decide +kernel
theorem dX8_bestRow_2 : decode cX8_bestRow 2 = .ok (.iload_n 2, 1) := by decide +kernel
theorem dX8_bestRow_3 : decode cX8_bestRow 3 = .ok (.imul, 1) := by decide +kernel
theorem dX8_bestRow_4 : decode cX8_bestRow 4 = .ok (.ishl, 1) := by decide +kernel
theorem dX8_bestRow_5 : decode cX8_bestRow 5 = .ok (.istore 5, 2) := by decide +kernel
theorem dX8_bestRow_7 : decode cX8_bestRow 7 = .ok (.iconst 0, 1) := by decide +kernel
theorem dX8_bestRow_8 : decode cX8_bestRow 8 = .ok (.istore 6, 2) := by decide +kernel
theorem dX8_bestRow_10 : decode cX8_bestRow 10 = .ok (.iconst (-1), 1) := by decide +kernel
theorem dX8_bestRow_11 : decode cX8_bestRow 11 = .ok (.istore 7, 2) := by decide +kernel
theorem dX8_bestRow_13 : decode cX8_bestRow 13 = .ok (.iconst 0, 1) := by decide +kernel
theorem dX8_bestRow_14 : decode cX8_bestRow 14 = .ok (.istore 8, 2) := by decide +kernel
theorem dX8_bestRow_16 : decode cX8_bestRow 16 = .ok (.iload 8, 2) := by decide +kernel
theorem dX8_bestRow_18 : decode cX8_bestRow 18 = .ok (.iload 5, 2) := by decide +kernel
theorem dX8_bestRow_20 : decode cX8_bestRow 20 = .ok (.if_icmp .ge 125, 3) := by decide +kernel
theorem dX8_bestRow_23 : decode cX8_bestRow 23 = .ok (.iload 7, 2) := by decide +kernel
theorem dX8_bestRow_25 : decode cX8_bestRow 25 = .ok (.iload 4, 2) := by decide +kernel
theorem dX8_bestRow_27 : decode cX8_bestRow 27 = .ok (.if_icmp .ge 118, 3) := by decide +kernel
theorem dX8_bestRow_30 : decode cX8_bestRow 30 = .ok (.aload_n 0, 1) := by decide +kernel
theorem dX8_bestRow_31 : decode cX8_bestRow 31 = .ok (.getfield 67, 3) := by decide +kernel
theorem dX8_bestRow_34 : decode cX8_bestRow 34 = .ok (.aload_n 0, 1) := by decide +kernel
theorem dX8_bestRow_35 : decode cX8_bestRow 35 = .ok (.getfield 45, 3) := by decide +kernel
theorem dX8_bestRow_38 : decode cX8_bestRow 38 = .ok (.iconst (-1), 1) := by decide +kernel
theorem dX8_bestRow_39 : decode cX8_bestRow 39 = .ok (.iload_n 3, 1) := by decide +kernel
theorem dX8_bestRow_40 : decode cX8_bestRow 40 = .ok (.invokevirtual 276, 3) := by decide +kernel
theorem dX8_bestRow_43 : decode cX8_bestRow 43 = .ok (.aload_n 0, 1) := by decide +kernel
theorem dX8_bestRow_44 : decode cX8_bestRow 44 = .ok (.getfield 67, 3) := by decide +kernel
theorem dX8_bestRow_47 : decode cX8_bestRow 47 = .ok (.aload_n 0, 1) := by decide +kernel
theorem dX8_bestRow_48 : decode cX8_bestRow 48 = .ok (.getfield 19, 3) := by decide +kernel
theorem dX8_bestRow_51 : decode cX8_bestRow 51 = .ok (.iload_n 1, 1) := by decide +kernel
theorem dX8_bestRow_52 : decode cX8_bestRow 52 = .ok (.invokevirtual 280, 3) := by decide +kernel
theorem dX8_bestRow_55 : decode cX8_bestRow 55 = .ok (.iconst 0, 1) := by decide +kernel
theorem dX8_bestRow_56 : decode cX8_bestRow 56 = .ok (.istore 9, 2) := by decide +kernel
theorem dX8_bestRow_58 : decode cX8_bestRow 58 = .ok (.iload 9, 2) := by decide +kernel
theorem dX8_bestRow_60 : decode cX8_bestRow 60 = .ok (.iload_n 2, 1) := by decide +kernel
theorem dX8_bestRow_61 : decode cX8_bestRow 61 = .ok (.if_icmp .ge 31, 3) := by decide +kernel
theorem dX8_bestRow_64 : decode cX8_bestRow 64 = .ok (.aload_n 0, 1) := by decide +kernel
theorem dX8_bestRow_65 : decode cX8_bestRow 65 = .ok (.getfield 67, 3) := by decide +kernel
theorem dX8_bestRow_68 : decode cX8_bestRow 68 = .ok (.iload 9, 2) := by decide +kernel
theorem dX8_bestRow_70 : decode cX8_bestRow 70 = .ok (.iload 8, 2) := by decide +kernel
theorem dX8_bestRow_72 : decode cX8_bestRow 72 = .ok (.iconst 2, 1) := by decide +kernel
theorem dX8_bestRow_73 : decode cX8_bestRow 73 = .ok (.iload_n 2, 1) := by decide +kernel
theorem dX8_bestRow_74 : decode cX8_bestRow 74 = .ok (.iconst 1, 1) := by decide +kernel
theorem dX8_bestRow_75 : decode cX8_bestRow 75 = .ok (.isub, 1) := by decide +kernel
theorem dX8_bestRow_76 : decode cX8_bestRow 76 = .ok (.iload 9, 2) := by decide +kernel
theorem dX8_bestRow_78 : decode cX8_bestRow 78 = .ok (.isub, 1) := by decide +kernel
theorem dX8_bestRow_79 : decode cX8_bestRow 79 = .ok (.imul, 1) := by decide +kernel
theorem dX8_bestRow_80 : decode cX8_bestRow 80 = .ok (.ishr, 1) := by decide +kernel
theorem dX8_bestRow_81 : decode cX8_bestRow 81 = .ok (.iconst 3, 1) := by decide +kernel
theorem dX8_bestRow_82 : decode cX8_bestRow 82 = .ok (.iand, 1) := by decide +kernel
theorem dX8_bestRow_83 : decode cX8_bestRow 83 = .ok (.invokevirtual 294, 3) := by decide +kernel
theorem dX8_bestRow_86 : decode cX8_bestRow 86 = .ok (.iinc 9 1, 3) := by decide +kernel
theorem dX8_bestRow_89 : decode cX8_bestRow 89 = .ok (.goto (-31), 3) := by decide +kernel
theorem dX8_bestRow_92 : decode cX8_bestRow 92 = .ok (.aload_n 0, 1) := by decide +kernel
theorem dX8_bestRow_93 : decode cX8_bestRow 93 = .ok (.getfield 67, 3) := by decide +kernel
theorem dX8_bestRow_96 : decode cX8_bestRow 96 = .ok (.aload_n 0, 1) := by decide +kernel
theorem dX8_bestRow_97 : decode cX8_bestRow 97 = .ok (.getfield 19, 3) := by decide +kernel
theorem dX8_bestRow_100 : decode cX8_bestRow 100 = .ok (.aload_n 0, 1) := by decide +kernel
theorem dX8_bestRow_101 : decode cX8_bestRow 101 = .ok (.getfield 29, 3) := by decide +kernel
theorem dX8_bestRow_104 : decode cX8_bestRow 104 = .ok (.aconst_null, 1) := by decide +kernel
theorem dX8_bestRow_105 : decode cX8_bestRow 105 = .ok (.iload 4, 2) := by decide +kernel
theorem dX8_bestRow_107 : decode cX8_bestRow 107 = .ok (.invokevirtual 284, 3) := by decide +kernel
theorem dX8_bestRow_110 : decode cX8_bestRow 110 = .ok (.aload_n 0, 1) := by decide +kernel
theorem dX8_bestRow_111 : decode cX8_bestRow 111 = .ok (.getfield 67, 3) := by decide +kernel
theorem dX8_bestRow_114 : decode cX8_bestRow 114 = .ok (.getfield 288, 3) := by decide +kernel
theorem dX8_bestRow_117 : decode cX8_bestRow 117 = .ok (.iconst 0, 1) := by decide +kernel
theorem dX8_bestRow_118 : decode cX8_bestRow 118 = .ok (.iaload, 1) := by decide +kernel
theorem dX8_bestRow_119 : decode cX8_bestRow 119 = .ok (.iload 7, 2) := by decide +kernel
theorem dX8_bestRow_121 : decode cX8_bestRow 121 = .ok (.if_icmp .le 18, 3) := by decide +kernel
theorem dX8_bestRow_124 : decode cX8_bestRow 124 = .ok (.aload_n 0, 1) := by decide +kernel
theorem dX8_bestRow_125 : decode cX8_bestRow 125 = .ok (.getfield 67, 3) := by decide +kernel
theorem dX8_bestRow_128 : decode cX8_bestRow 128 = .ok (.getfield 288, 3) := by decide +kernel
theorem dX8_bestRow_131 : decode cX8_bestRow 131 = .ok (.iconst 0, 1) := by decide +kernel
theorem dX8_bestRow_132 : decode cX8_bestRow 132 = .ok (.iaload, 1) := by decide +kernel
theorem dX8_bestRow_133 : decode cX8_bestRow 133 = .ok (.istore 7, 2) := by decide +kernel
theorem dX8_bestRow_135 : decode cX8_bestRow 135 = .ok (.iload 8, 2) := by decide +kernel
theorem dX8_bestRow_137 : decode cX8_bestRow 137 = .ok (.istore 6, 2) := by decide +kernel
theorem dX8_bestRow_139 : decode cX8_bestRow 139 = .ok (.iinc 8 1, 3) := by decide +kernel
theorem dX8_bestRow_142 : decode cX8_bestRow 142 = .ok (.goto (-126), 3) := by decide +kernel
theorem dX8_bestRow_145 : decode cX8_bestRow 145 = .ok (.iconst 0, 1) := by decide +kernel
theorem dX8_bestRow_146 : decode cX8_bestRow 146 = .ok (.istore 8, 2) := by decide +kernel
theorem dX8_bestRow_148 : decode cX8_bestRow 148 = .ok (.iload_n 2, 1) := by decide +kernel
theorem dX8_bestRow_149 : decode cX8_bestRow 149 = .ok (.iconst 1, 1) := by decide +kernel
theorem dX8_bestRow_150 : decode cX8_bestRow 150 = .ok (.isub, 1) := by decide +kernel
theorem dX8_bestRow_151 : decode cX8_bestRow 151 = .ok (.istore 9, 2) := by decide +kernel
theorem dX8_bestRow_153 : decode cX8_bestRow 153 = .ok (.iload 9, 2) := by decide +kernel
theorem dX8_bestRow_155 : decode cX8_bestRow 155 = .ok (.ifCond .lt 26, 3) := by decide +kernel
theorem dX8_bestRow_158 : decode cX8_bestRow 158 = .ok (.iload 8, 2) := by decide +kernel
theorem dX8_bestRow_160 : decode cX8_bestRow 160 = .ok (.bipush 10, 2) := by decide +kernel
theorem dX8_bestRow_162 : decode cX8_bestRow 162 = .ok (.imul, 1) := by decide +kernel
theorem dX8_bestRow_163 : decode cX8_bestRow 163 = .ok (.iload 6, 2) := by decide +kernel
theorem dX8_bestRow_165 : decode cX8_bestRow 165 = .ok (.iconst 2, 1) := by decide +kernel
theorem dX8_bestRow_166 : decode cX8_bestRow 166 = .ok (.iload 9, 2) := by decide +kernel
theorem dX8_bestRow_168 : decode cX8_bestRow 168 = .ok (.imul, 1) := by decide +kernel
theorem dX8_bestRow_169 : decode cX8_bestRow 169 = .ok (.ishr, 1) := by decide +kernel
theorem dX8_bestRow_170 : decode cX8_bestRow 170 = .ok (.iconst 3, 1) := by decide +kernel
theorem dX8_bestRow_171 : decode cX8_bestRow 171 = .ok (.iand, 1) := by decide +kernel
theorem dX8_bestRow_172 : decode cX8_bestRow 172 = .ok (.iadd, 1) := by decide +kernel
theorem dX8_bestRow_173 : decode cX8_bestRow 173 = .ok (.istore 8, 2) := by decide +kernel
theorem dX8_bestRow_175 : decode cX8_bestRow 175 = .ok (.iinc 9 (-1), 3) := by decide +kernel
theorem dX8_bestRow_178 : decode cX8_bestRow 178 = .ok (.goto (-25), 3) := by decide +kernel
theorem dX8_bestRow_181 : decode cX8_bestRow 181 = .ok (.iload 8, 2) := by decide +kernel
theorem dX8_bestRow_183 : decode cX8_bestRow 183 = .ok (.ireturn, 1) := by decide +kernel
theorem dX8_sumOfTower_0 : decode cX8_sumOfTower 0 = .ok (.iconst 0, 1) := by decide +kernel
theorem dX8_sumOfTower_1 : decode cX8_sumOfTower 1 = .ok (.istore 5, 2) := by decide +kernel
theorem dX8_sumOfTower_3 : decode cX8_sumOfTower 3 = .ok (.iconst 1, 1) := by decide +kernel
theorem dX8_sumOfTower_4 : decode cX8_sumOfTower 4 = .ok (.istore 6, 2) := by decide +kernel
theorem dX8_sumOfTower_6 : decode cX8_sumOfTower 6 = .ok (.iload 6, 2) := by decide +kernel
theorem dX8_sumOfTower_8 : decode cX8_sumOfTower 8 = .ok (.iload_n 3, 1) := by decide +kernel
theorem dX8_sumOfTower_9 : decode cX8_sumOfTower 9 = .ok (.if_icmp .gt 95, 3) := by decide +kernel
theorem dX8_sumOfTower_12 : decode cX8_sumOfTower 12 = .ok (.aload_n 0, 1) := by decide +kernel
theorem dX8_sumOfTower_13 : decode cX8_sumOfTower 13 = .ok (.getfield 67, 3) := by decide +kernel
theorem dX8_sumOfTower_16 : decode cX8_sumOfTower 16 = .ok (.aload_n 0, 1) := by decide +kernel
theorem dX8_sumOfTower_17 : decode cX8_sumOfTower 17 = .ok (.getfield 45, 3) := by decide +kernel
theorem dX8_sumOfTower_20 : decode cX8_sumOfTower 20 = .ok (.iconst (-1), 1) := by decide +kernel
theorem dX8_sumOfTower_21 : decode cX8_sumOfTower 21 = .ok (.iload 6, 2) := by decide +kernel
theorem dX8_sumOfTower_23 : decode cX8_sumOfTower 23 = .ok (.invokevirtual 276, 3) := by decide +kernel
theorem dX8_sumOfTower_26 : decode cX8_sumOfTower 26 = .ok (.aload_n 0, 1) := by decide +kernel
theorem dX8_sumOfTower_27 : decode cX8_sumOfTower 27 = .ok (.getfield 67, 3) := by decide +kernel
theorem dX8_sumOfTower_30 : decode cX8_sumOfTower 30 = .ok (.getfield 330, 3) := by decide +kernel
theorem dX8_sumOfTower_33 : decode cX8_sumOfTower 33 = .ok (.iload_n 1, 1) := by decide +kernel
theorem dX8_sumOfTower_34 : decode cX8_sumOfTower 34 = .ok (.iload_n 2, 1) := by decide +kernel
theorem dX8_sumOfTower_35 : decode cX8_sumOfTower 35 = .ok (.invokevirtual 333, 3) := by decide +kernel
theorem dX8_sumOfTower_38 : decode cX8_sumOfTower 38 = .ok (.aload_n 0, 1) := by decide +kernel
theorem dX8_sumOfTower_39 : decode cX8_sumOfTower 39 = .ok (.getfield 67, 3) := by decide +kernel
theorem dX8_sumOfTower_42 : decode cX8_sumOfTower 42 = .ok (.iload_n 1, 1) := by decide +kernel
theorem dX8_sumOfTower_43 : decode cX8_sumOfTower 43 = .ok (.aload_n 0, 1) := by decide +kernel
theorem dX8_sumOfTower_44 : decode cX8_sumOfTower 44 = .ok (.getfield 67, 3) := by decide +kernel
theorem dX8_sumOfTower_47 : decode cX8_sumOfTower 47 = .ok (.getfield 330, 3) := by decide +kernel
theorem dX8_sumOfTower_50 : decode cX8_sumOfTower 50 = .ok (.getfield 185, 3) := by decide +kernel
theorem dX8_sumOfTower_53 : decode cX8_sumOfTower 53 = .ok (.iload_n 1, 1) := by decide +kernel
theorem dX8_sumOfTower_54 : decode cX8_sumOfTower 54 = .ok (.iaload, 1) := by decide +kernel
theorem dX8_sumOfTower_55 : decode cX8_sumOfTower 55 = .ok (.aload_n 0, 1) := by decide +kernel
theorem dX8_sumOfTower_56 : decode cX8_sumOfTower 56 = .ok (.getfield 19, 3) := by decide +kernel
theorem dX8_sumOfTower_59 : decode cX8_sumOfTower 59 = .ok (.invokevirtual 336, 3) := by decide +kernel
theorem dX8_sumOfTower_62 : decode cX8_sumOfTower 62 = .ok (.isub, 1) := by decide +kernel
theorem dX8_sumOfTower_63 : decode cX8_sumOfTower 63 = .ok (.invokevirtual 339, 3) := by decide +kernel
theorem dX8_sumOfTower_66 : decode cX8_sumOfTower 66 = .ok (.aload_n 0, 1) := by decide +kernel
theorem dX8_sumOfTower_67 : decode cX8_sumOfTower 67 = .ok (.getfield 67, 3) := by decide +kernel
theorem dX8_sumOfTower_70 : decode cX8_sumOfTower 70 = .ok (.aload_n 0, 1) := by decide +kernel
theorem dX8_sumOfTower_71 : decode cX8_sumOfTower 71 = .ok (.getfield 19, 3) := by decide +kernel
theorem dX8_sumOfTower_74 : decode cX8_sumOfTower 74 = .ok (.aload_n 0, 1) := by decide +kernel
theorem dX8_sumOfTower_75 : decode cX8_sumOfTower 75 = .ok (.getfield 29, 3) := by decide +kernel
theorem dX8_sumOfTower_78 : decode cX8_sumOfTower 78 = .ok (.aconst_null, 1) := by decide +kernel
theorem dX8_sumOfTower_79 : decode cX8_sumOfTower 79 = .ok (.iload 4, 2) := by decide +kernel
theorem dX8_sumOfTower_81 : decode cX8_sumOfTower 81 = .ok (.invokevirtual 284, 3) := by decide +kernel
theorem dX8_sumOfTower_84 : decode cX8_sumOfTower 84 = .ok (.iload 5, 2) := by decide +kernel
theorem dX8_sumOfTower_86 : decode cX8_sumOfTower 86 = .ok (.aload_n 0, 1) := by decide +kernel
theorem dX8_sumOfTower_87 : decode cX8_sumOfTower 87 = .ok (.getfield 67, 3) := by decide +kernel
theorem dX8_sumOfTower_90 : decode cX8_sumOfTower 90 = .ok (.getfield 288, 3) := by decide +kernel
theorem dX8_sumOfTower_93 : decode cX8_sumOfTower 93 = .ok (.iconst 0, 1) := by decide +kernel
theorem dX8_sumOfTower_94 : decode cX8_sumOfTower 94 = .ok (.iaload, 1) := by decide +kernel
theorem dX8_sumOfTower_95 : decode cX8_sumOfTower 95 = .ok (.iadd, 1) := by decide +kernel
theorem dX8_sumOfTower_96 : decode cX8_sumOfTower 96 = .ok (.istore 5, 2) := by decide +kernel
theorem dX8_sumOfTower_98 : decode cX8_sumOfTower 98 = .ok (.iinc 6 1, 3) := by decide +kernel
theorem dX8_sumOfTower_101 : decode cX8_sumOfTower 101 = .ok (.goto (-95), 3) := by decide +kernel
theorem dX8_sumOfTower_104 : decode cX8_sumOfTower 104 = .ok (.iload 5, 2) := by decide +kernel
theorem dX8_sumOfTower_106 : decode cX8_sumOfTower 106 = .ok (.ireturn, 1) := by decide +kernel
theorem dX8_worthOfPlan_0 : decode cX8_worthOfPlan 0 = .ok (.aload_n 0, 1) := by decide +kernel
theorem dX8_worthOfPlan_1 : decode cX8_worthOfPlan 1 = .ok (.getfield 67, 3) := by decide +kernel
theorem dX8_worthOfPlan_4 : decode cX8_worthOfPlan 4 = .ok (.aload_n 0, 1) := by decide +kernel
theorem dX8_worthOfPlan_5 : decode cX8_worthOfPlan 5 = .ok (.getfield 45, 3) := by decide +kernel
theorem dX8_worthOfPlan_8 : decode cX8_worthOfPlan 8 = .ok (.iload_n 1, 1) := by decide +kernel
theorem dX8_worthOfPlan_9 : decode cX8_worthOfPlan 9 = .ok (.iload_n 3, 1) := by decide +kernel
theorem dX8_worthOfPlan_10 : decode cX8_worthOfPlan 10 = .ok (.invokevirtual 276, 3) := by decide +kernel
theorem dX8_worthOfPlan_13 : decode cX8_worthOfPlan 13 = .ok (.iload_n 2, 1) := by decide +kernel
theorem dX8_worthOfPlan_14 : decode cX8_worthOfPlan 14 = .ok (.ifCond .ne 15, 3) := by decide +kernel
theorem dX8_worthOfPlan_17 : decode cX8_worthOfPlan 17 = .ok (.aload_n 0, 1) := by decide +kernel
theorem dX8_worthOfPlan_18 : decode cX8_worthOfPlan 18 = .ok (.getfield 67, 3) := by decide +kernel
theorem dX8_worthOfPlan_21 : decode cX8_worthOfPlan 21 = .ok (.aload_n 0, 1) := by decide +kernel
theorem dX8_worthOfPlan_22 : decode cX8_worthOfPlan 22 = .ok (.getfield 19, 3) := by decide +kernel
theorem dX8_worthOfPlan_25 : decode cX8_worthOfPlan 25 = .ok (.iconst 0, 1) := by decide +kernel
theorem dX8_worthOfPlan_26 : decode cX8_worthOfPlan 26 = .ok (.invokevirtual 280, 3) := by decide +kernel
theorem dX8_worthOfPlan_29 : decode cX8_worthOfPlan 29 = .ok (.aload_n 0, 1) := by decide +kernel
theorem dX8_worthOfPlan_30 : decode cX8_worthOfPlan 30 = .ok (.getfield 67, 3) := by decide +kernel
theorem dX8_worthOfPlan_33 : decode cX8_worthOfPlan 33 = .ok (.aload_n 0, 1) := by decide +kernel
theorem dX8_worthOfPlan_34 : decode cX8_worthOfPlan 34 = .ok (.getfield 19, 3) := by decide +kernel
theorem dX8_worthOfPlan_37 : decode cX8_worthOfPlan 37 = .ok (.aload_n 0, 1) := by decide +kernel
theorem dX8_worthOfPlan_38 : decode cX8_worthOfPlan 38 = .ok (.getfield 29, 3) := by decide +kernel
theorem dX8_worthOfPlan_41 : decode cX8_worthOfPlan 41 = .ok (.aload_n 0, 1) := by decide +kernel
theorem dX8_worthOfPlan_42 : decode cX8_worthOfPlan 42 = .ok (.iload_n 1, 1) := by decide +kernel
theorem dX8_worthOfPlan_43 : decode cX8_worthOfPlan 43 = .ok (.invokevirtual 167, 3) := by decide +kernel
theorem dX8_worthOfPlan_46 : decode cX8_worthOfPlan 46 = .ok (.iload 4, 2) := by decide +kernel
theorem dX8_worthOfPlan_48 : decode cX8_worthOfPlan 48 = .ok (.invokevirtual 284, 3) := by decide +kernel
theorem dX8_worthOfPlan_51 : decode cX8_worthOfPlan 51 = .ok (.iload_n 2, 1) := by decide +kernel
theorem dX8_worthOfPlan_52 : decode cX8_worthOfPlan 52 = .ok (.ifCond .ne 15, 3) := by decide +kernel
theorem dX8_worthOfPlan_55 : decode cX8_worthOfPlan 55 = .ok (.aload_n 0, 1) := by decide +kernel
theorem dX8_worthOfPlan_56 : decode cX8_worthOfPlan 56 = .ok (.getfield 67, 3) := by decide +kernel
theorem dX8_worthOfPlan_59 : decode cX8_worthOfPlan 59 = .ok (.getfield 288, 3) := by decide +kernel
theorem dX8_worthOfPlan_62 : decode cX8_worthOfPlan 62 = .ok (.iconst 0, 1) := by decide +kernel
theorem dX8_worthOfPlan_63 : decode cX8_worthOfPlan 63 = .ok (.iaload, 1) := by decide +kernel
theorem dX8_worthOfPlan_64 : decode cX8_worthOfPlan 64 = .ok (.goto 23, 3) := by decide +kernel
theorem dX8_worthOfPlan_67 : decode cX8_worthOfPlan 67 = .ok (.aload_n 0, 1) := by decide +kernel
theorem dX8_worthOfPlan_68 : decode cX8_worthOfPlan 68 = .ok (.getfield 67, 3) := by decide +kernel
theorem dX8_worthOfPlan_71 : decode cX8_worthOfPlan 71 = .ok (.getfield 330, 3) := by decide +kernel
theorem dX8_worthOfPlan_74 : decode cX8_worthOfPlan 74 = .ok (.getfield 185, 3) := by decide +kernel
theorem dX8_worthOfPlan_77 : decode cX8_worthOfPlan 77 = .ok (.aload_n 0, 1) := by decide +kernel
theorem dX8_worthOfPlan_78 : decode cX8_worthOfPlan 78 = .ok (.getfield 19, 3) := by decide +kernel
theorem dX8_worthOfPlan_81 : decode cX8_worthOfPlan 81 = .ok (.getfield 207, 3) := by decide +kernel
theorem dX8_worthOfPlan_84 : decode cX8_worthOfPlan 84 = .ok (.iconst 0, 1) := by decide +kernel
theorem dX8_worthOfPlan_85 : decode cX8_worthOfPlan 85 = .ok (.iaload, 1) := by decide +kernel
theorem dX8_worthOfPlan_86 : decode cX8_worthOfPlan 86 = .ok (.iaload, 1) := by decide +kernel
theorem dX8_worthOfPlan_87 : decode cX8_worthOfPlan 87 = .ok (.ireturn, 1) := by decide +kernel
theorem dX8_wavesThatFit_0 : decode cX8_wavesThatFit 0 = .ok (.iconst 0, 1) := by decide +kernel
theorem dX8_wavesThatFit_1 : decode cX8_wavesThatFit 1 = .ok (.istore_n 1, 1) := by decide +kernel
theorem dX8_wavesThatFit_2 : decode cX8_wavesThatFit 2 = .ok (.aload_n 0, 1) := by decide +kernel
theorem dX8_wavesThatFit_3 : decode cX8_wavesThatFit 3 = .ok (.getfield 67, 3) := by decide +kernel
theorem dX8_wavesThatFit_6 : decode cX8_wavesThatFit 6 = .ok (.getfield 330, 3) := by decide +kernel
theorem dX8_wavesThatFit_9 : decode cX8_wavesThatFit 9 = .ok (.astore_n 2, 1) := by decide +kernel
theorem dX8_wavesThatFit_10 : decode cX8_wavesThatFit 10 = .ok (.iconst 0, 1) := by decide +kernel
theorem dX8_wavesThatFit_11 : decode cX8_wavesThatFit 11 = .ok (.istore_n 3, 1) := by decide +kernel
theorem dX8_wavesThatFit_12 : decode cX8_wavesThatFit 12 = .ok (.iload_n 3, 1) := by decide +kernel
theorem dX8_wavesThatFit_13 : decode cX8_wavesThatFit 13 = .ok (.aload_n 0, 1) := by decide +kernel
theorem dX8_wavesThatFit_14 : decode cX8_wavesThatFit 14 = .ok (.getfield 29, 3) := by decide +kernel
theorem dX8_wavesThatFit_17 : decode cX8_wavesThatFit 17 = .ok (.getfield 127, 3) := by decide +kernel
theorem dX8_wavesThatFit_20 : decode cX8_wavesThatFit 20 = .ok (.if_icmp .ge 85, 3) := by decide +kernel
theorem dX8_wavesThatFit_23 : decode cX8_wavesThatFit 23 = .ok (.aload_n 2, 1) := by decide +kernel
theorem dX8_wavesThatFit_24 : decode cX8_wavesThatFit 24 = .ok (.aload_n 0, 1) := by decide +kernel
theorem dX8_wavesThatFit_25 : decode cX8_wavesThatFit 25 = .ok (.getfield 45, 3) := by decide +kernel
theorem dX8_wavesThatFit_28 : decode cX8_wavesThatFit 28 = .ok (.invokevirtual 234, 3) := by decide +kernel
theorem dX8_wavesThatFit_31 : decode cX8_wavesThatFit 31 = .ok (.aload_n 2, 1) := by decide +kernel
theorem dX8_wavesThatFit_32 : decode cX8_wavesThatFit 32 = .ok (.aload_n 0, 1) := by decide +kernel
theorem dX8_wavesThatFit_33 : decode cX8_wavesThatFit 33 = .ok (.getfield 19, 3) := by decide +kernel
theorem dX8_wavesThatFit_36 : decode cX8_wavesThatFit 36 = .ok (.aload_n 0, 1) := by decide +kernel
theorem dX8_wavesThatFit_37 : decode cX8_wavesThatFit 37 = .ok (.getfield 29, 3) := by decide +kernel
theorem dX8_wavesThatFit_40 : decode cX8_wavesThatFit 40 = .ok (.getfield 136, 3) := by decide +kernel
theorem dX8_wavesThatFit_43 : decode cX8_wavesThatFit 43 = .ok (.iload_n 3, 1) := by decide +kernel
theorem dX8_wavesThatFit_44 : decode cX8_wavesThatFit 44 = .ok (.iaload, 1) := by decide +kernel
theorem dX8_wavesThatFit_45 : decode cX8_wavesThatFit 45 = .ok (.aload_n 0, 1) := by decide +kernel
theorem dX8_wavesThatFit_46 : decode cX8_wavesThatFit 46 = .ok (.getfield 29, 3) := by decide +kernel
theorem dX8_wavesThatFit_49 : decode cX8_wavesThatFit 49 = .ok (.getfield 139, 3) := by decide +kernel
theorem dX8_wavesThatFit_52 : decode cX8_wavesThatFit 52 = .ok (.iload_n 3, 1) := by decide +kernel
theorem dX8_wavesThatFit_53 : decode cX8_wavesThatFit 53 = .ok (.iaload, 1) := by decide +kernel
theorem dX8_wavesThatFit_54 : decode cX8_wavesThatFit 54 = .ok (.aload_n 0, 1) := by decide +kernel
theorem dX8_wavesThatFit_55 : decode cX8_wavesThatFit 55 = .ok (.getfield 29, 3) := by decide +kernel
theorem dX8_wavesThatFit_58 : decode cX8_wavesThatFit 58 = .ok (.invokevirtual 342, 3) := by decide +kernel
theorem dX8_wavesThatFit_61 : decode cX8_wavesThatFit 61 = .ok (.invokevirtual 345, 3) := by decide +kernel
theorem dX8_wavesThatFit_64 : decode cX8_wavesThatFit 64 = .ok (.aload_n 2, 1) := by decide +kernel
theorem dX8_wavesThatFit_65 : decode cX8_wavesThatFit 65 = .ok (.aload_n 0, 1) := by decide +kernel
theorem dX8_wavesThatFit_66 : decode cX8_wavesThatFit 66 = .ok (.getfield 19, 3) := by decide +kernel
theorem dX8_wavesThatFit_69 : decode cX8_wavesThatFit 69 = .ok (.invokevirtual 349, 3) := by decide +kernel
theorem dX8_wavesThatFit_72 : decode cX8_wavesThatFit 72 = .ok (.aload_n 0, 1) := by decide +kernel
theorem dX8_wavesThatFit_73 : decode cX8_wavesThatFit 73 = .ok (.getfield 10, 3) := by decide +kernel
theorem dX8_wavesThatFit_76 : decode cX8_wavesThatFit 76 = .ok (.aload_n 2, 1) := by decide +kernel
theorem dX8_wavesThatFit_77 : decode cX8_wavesThatFit 77 = .ok (.getfield 185, 3) := by decide +kernel
theorem dX8_wavesThatFit_80 : decode cX8_wavesThatFit 80 = .ok (.aload_n 0, 1) := by decide +kernel
theorem dX8_wavesThatFit_81 : decode cX8_wavesThatFit 81 = .ok (.getfield 19, 3) := by decide +kernel
theorem dX8_wavesThatFit_84 : decode cX8_wavesThatFit 84 = .ok (.invokevirtual 214, 3) := by decide +kernel
theorem dX8_wavesThatFit_87 : decode cX8_wavesThatFit 87 = .ok (.invokevirtual 352, 3) := by decide +kernel
theorem dX8_wavesThatFit_90 : decode cX8_wavesThatFit 90 = .ok (.ifCond .eq 9, 3) := by decide +kernel
theorem dX8_wavesThatFit_93 : decode cX8_wavesThatFit 93 = .ok (.iload_n 1, 1) := by decide +kernel
theorem dX8_wavesThatFit_94 : decode cX8_wavesThatFit 94 = .ok (.iconst 1, 1) := by decide +kernel
theorem dX8_wavesThatFit_95 : decode cX8_wavesThatFit 95 = .ok (.iload_n 3, 1) := by decide +kernel
theorem dX8_wavesThatFit_96 : decode cX8_wavesThatFit 96 = .ok (.ishl, 1) := by decide +kernel
theorem dX8_wavesThatFit_97 : decode cX8_wavesThatFit 97 = .ok (.ior, 1) := by decide +kernel
theorem dX8_wavesThatFit_98 : decode cX8_wavesThatFit 98 = .ok (.istore_n 1, 1) := by decide +kernel
theorem dX8_wavesThatFit_99 : decode cX8_wavesThatFit 99 = .ok (.iinc 3 1, 3) := by decide +kernel
theorem dX8_wavesThatFit_102 : decode cX8_wavesThatFit 102 = .ok (.goto (-90), 3) := by decide +kernel
theorem dX8_wavesThatFit_105 : decode cX8_wavesThatFit 105 = .ok (.iload_n 1, 1) := by decide +kernel
theorem dX8_wavesThatFit_106 : decode cX8_wavesThatFit 106 = .ok (.ireturn, 1) := by decide +kernel
theorem dX8_unitsOfTower_0 : decode cX8_unitsOfTower 0 = .ok (.iload_n 0, 1) := by decide +kernel
theorem dX8_unitsOfTower_1 : decode cX8_unitsOfTower 1 = .ok (.istore_n 2, 1) := by decide +kernel
theorem dX8_unitsOfTower_2 : decode cX8_unitsOfTower 2 = .ok (.iconst 1, 1) := by decide +kernel
theorem dX8_unitsOfTower_3 : decode cX8_unitsOfTower 3 = .ok (.istore_n 3, 1) := by decide +kernel
theorem dX8_unitsOfTower_4 : decode cX8_unitsOfTower 4 = .ok (.iload_n 3, 1) := by decide +kernel
theorem dX8_unitsOfTower_5 : decode cX8_unitsOfTower 5 = .ok (.iload_n 0, 1) := by decide +kernel
theorem dX8_unitsOfTower_6 : decode cX8_unitsOfTower 6 = .ok (.if_icmp .ge 27, 3) := by decide +kernel
theorem dX8_unitsOfTower_9 : decode cX8_unitsOfTower 9 = .ok (.iload_n 0, 1) := by decide +kernel
theorem dX8_unitsOfTower_10 : decode cX8_unitsOfTower 10 = .ok (.iload_n 3, 1) := by decide +kernel
theorem dX8_unitsOfTower_11 : decode cX8_unitsOfTower 11 = .ok (.iload_n 1, 1) := by decide +kernel
theorem dX8_unitsOfTower_12 : decode cX8_unitsOfTower 12 = .ok (.imul, 1) := by decide +kernel
theorem dX8_unitsOfTower_13 : decode cX8_unitsOfTower 13 = .ok (.isub, 1) := by decide +kernel
theorem dX8_unitsOfTower_14 : decode cX8_unitsOfTower 14 = .ok (.ifCond .le 19, 3) := by decide +kernel
theorem dX8_unitsOfTower_17 : decode cX8_unitsOfTower 17 = .ok (.iload_n 2, 1) := by decide +kernel
theorem dX8_unitsOfTower_18 : decode cX8_unitsOfTower 18 = .ok (.iconst 2, 1) := by decide +kernel
theorem dX8_unitsOfTower_19 : decode cX8_unitsOfTower 19 = .ok (.iload_n 0, 1) := by decide +kernel
theorem dX8_unitsOfTower_20 : decode cX8_unitsOfTower 20 = .ok (.iload_n 3, 1) := by decide +kernel
theorem dX8_unitsOfTower_21 : decode cX8_unitsOfTower 21 = .ok (.iload_n 1, 1) := by decide +kernel
theorem dX8_unitsOfTower_22 : decode cX8_unitsOfTower 22 = .ok (.imul, 1) := by decide +kernel
theorem dX8_unitsOfTower_23 : decode cX8_unitsOfTower 23 = .ok (.isub, 1) := by decide +kernel
theorem dX8_unitsOfTower_24 : decode cX8_unitsOfTower 24 = .ok (.imul, 1) := by decide +kernel
theorem dX8_unitsOfTower_25 : decode cX8_unitsOfTower 25 = .ok (.iadd, 1) := by decide +kernel
theorem dX8_unitsOfTower_26 : decode cX8_unitsOfTower 26 = .ok (.istore_n 2, 1) := by decide +kernel
theorem dX8_unitsOfTower_27 : decode cX8_unitsOfTower 27 = .ok (.iinc 3 1, 3) := by decide +kernel
theorem dX8_unitsOfTower_30 : decode cX8_unitsOfTower 30 = .ok (.goto (-26), 3) := by decide +kernel
theorem dX8_unitsOfTower_33 : decode cX8_unitsOfTower 33 = .ok (.iload_n 2, 1) := by decide +kernel
theorem dX8_unitsOfTower_34 : decode cX8_unitsOfTower 34 = .ok (.ireturn, 1) := by decide +kernel
theorem dX8_greatestDivisor_0 : decode cX8_greatestDivisor 0 = .ok (.iload_n 1, 1) := by decide +kernel
theorem dX8_greatestDivisor_1 : decode cX8_greatestDivisor 1 = .ok (.istore_n 2, 1) := by decide +kernel
theorem dX8_greatestDivisor_2 : decode cX8_greatestDivisor 2 = .ok (.iload_n 2, 1) := by decide +kernel
theorem dX8_greatestDivisor_3 : decode cX8_greatestDivisor 3 = .ok (.iconst 1, 1) := by decide +kernel
theorem dX8_greatestDivisor_4 : decode cX8_greatestDivisor 4 = .ok (.if_icmp .le 23, 3) := by decide +kernel
theorem dX8_greatestDivisor_7 : decode cX8_greatestDivisor 7 = .ok (.iload_n 0, 1) := by decide +kernel
theorem dX8_greatestDivisor_8 : decode cX8_greatestDivisor 8 = .ok (.iload_n 2, 1) := by decide +kernel
theorem dX8_greatestDivisor_9 : decode cX8_greatestDivisor 9 = .ok (.irem, 1) := by decide +kernel
theorem dX8_greatestDivisor_10 : decode cX8_greatestDivisor 10 = .ok (.ifCond .ne 11, 3) := by decide +kernel
theorem dX8_greatestDivisor_13 : decode cX8_greatestDivisor 13 = .ok (.iload_n 1, 1) := by decide +kernel
theorem dX8_greatestDivisor_14 : decode cX8_greatestDivisor 14 = .ok (.iload_n 2, 1) := by decide +kernel
theorem dX8_greatestDivisor_15 : decode cX8_greatestDivisor 15 = .ok (.irem, 1) := by decide +kernel
theorem dX8_greatestDivisor_16 : decode cX8_greatestDivisor 16 = .ok (.ifCond .ne 5, 3) := by decide +kernel
theorem dX8_greatestDivisor_19 : decode cX8_greatestDivisor 19 = .ok (.iload_n 2, 1) := by decide +kernel
theorem dX8_greatestDivisor_20 : decode cX8_greatestDivisor 20 = .ok (.ireturn, 1) := by decide +kernel
theorem dX8_greatestDivisor_21 : decode cX8_greatestDivisor 21 = .ok (.iinc 2 (-1), 3) := by decide +kernel
theorem dX8_greatestDivisor_24 : decode cX8_greatestDivisor 24 = .ok (.goto (-22), 3) := by decide +kernel
theorem dX8_greatestDivisor_27 : decode cX8_greatestDivisor 27 = .ok (.iconst 1, 1) := by decide +kernel
theorem dX8_greatestDivisor_28 : decode cX8_greatestDivisor 28 = .ok (.ireturn, 1) := by decide +kernel
theorem dX8_strengthOf_0 : decode cX8_strengthOf 0 = .ok (.iload_n 0, 1) := by decide +kernel
theorem dX8_strengthOf_1 : decode cX8_strengthOf 1 = .ok (.ifCond .le 9, 3) := by decide +kernel
theorem dX8_strengthOf_4 : decode cX8_strengthOf 4 = .ok (.iload_n 0, 1) := by decide +kernel
theorem dX8_strengthOf_5 : decode cX8_strengthOf 5 = .ok (.bipush 16, 2) := by decide +kernel
theorem dX8_strengthOf_7 : decode cX8_strengthOf 7 = .ok (.if_icmp .lt 5, 3) := by decide +kernel
theorem dX8_strengthOf_10 : decode cX8_strengthOf 10 = .ok (.iconst 0, 1) := by decide +kernel
theorem dX8_strengthOf_11 : decode cX8_strengthOf 11 = .ok (.ireturn, 1) := by decide +kernel
theorem dX8_strengthOf_12 : decode cX8_strengthOf 12 = .ok (.iconst 0, 1) := by decide +kernel
theorem dX8_strengthOf_13 : decode cX8_strengthOf 13 = .ok (.iload_n 2, 1) := by decide +kernel
theorem dX8_strengthOf_14 : decode cX8_strengthOf 14 = .ok (.iload_n 3, 1) := by decide +kernel
theorem dX8_strengthOf_15 : decode cX8_strengthOf 15 = .ok (.iload_n 0, 1) := by decide +kernel
theorem dX8_strengthOf_16 : decode cX8_strengthOf 16 = .ok (.iload_n 1, 1) := by decide +kernel
theorem dX8_strengthOf_17 : decode cX8_strengthOf 17 = .ok (.isub, 1) := by decide +kernel
theorem dX8_strengthOf_18 : decode cX8_strengthOf 18 = .ok (.invokestatic 356, 3) := by decide +kernel
theorem dX8_strengthOf_21 : decode cX8_strengthOf 21 = .ok (.imul, 1) := by decide +kernel
theorem dX8_strengthOf_22 : decode cX8_strengthOf 22 = .ok (.isub, 1) := by decide +kernel
theorem dX8_strengthOf_23 : decode cX8_strengthOf 23 = .ok (.invokestatic 322, 3) := by decide +kernel
theorem dX8_strengthOf_26 : decode cX8_strengthOf 26 = .ok (.ireturn, 1) := by decide +kernel
theorem dJ9_abs_0f7a4_0 : decode cJ9_abs_0f7a4 0 = .ok (.iload_n 0, 1) := by decide +kernel
theorem dJ9_abs_0f7a4_1 : decode cJ9_abs_0f7a4 1 = .ok (.ifCond .ge 8, 3) := by decide +kernel
theorem dJ9_abs_0f7a4_4 : decode cJ9_abs_0f7a4 4 = .ok (.iload_n 0, 1) := by decide +kernel
theorem dJ9_abs_0f7a4_5 : decode cJ9_abs_0f7a4 5 = .ok (.ineg, 1) := by decide +kernel
theorem dJ9_abs_0f7a4_6 : decode cJ9_abs_0f7a4 6 = .ok (.goto 4, 3) := by decide +kernel
theorem dJ9_abs_0f7a4_9 : decode cJ9_abs_0f7a4 9 = .ok (.iload_n 0, 1) := by decide +kernel
theorem dJ9_abs_0f7a4_10 : decode cJ9_abs_0f7a4 10 = .ok (.ireturn, 1) := by decide +kernel
theorem dJ9_max_7cf53_0 : decode cJ9_max_7cf53 0 = .ok (.iload_n 0, 1) := by decide +kernel
theorem dJ9_max_7cf53_1 : decode cJ9_max_7cf53 1 = .ok (.iload_n 1, 1) := by decide +kernel
theorem dJ9_max_7cf53_2 : decode cJ9_max_7cf53 2 = .ok (.if_icmp .lt 7, 3) := by decide +kernel
theorem dJ9_max_7cf53_5 : decode cJ9_max_7cf53 5 = .ok (.iload_n 0, 1) := by decide +kernel
theorem dJ9_max_7cf53_6 : decode cJ9_max_7cf53 6 = .ok (.goto 4, 3) := by decide +kernel
theorem dJ9_max_7cf53_9 : decode cJ9_max_7cf53 9 = .ok (.iload_n 1, 1) := by decide +kernel
theorem dJ9_max_7cf53_10 : decode cJ9_max_7cf53 10 = .ok (.ireturn, 1) := by decide +kernel
theorem dJ9_min_7cf53_0 : decode cJ9_min_7cf53 0 = .ok (.iload_n 0, 1) := by decide +kernel
theorem dJ9_min_7cf53_1 : decode cJ9_min_7cf53 1 = .ok (.iload_n 1, 1) := by decide +kernel
theorem dJ9_min_7cf53_2 : decode cJ9_min_7cf53 2 = .ok (.if_icmp .gt 7, 3) := by decide +kernel
theorem dJ9_min_7cf53_5 : decode cJ9_min_7cf53 5 = .ok (.iload_n 0, 1) := by decide +kernel
theorem dJ9_min_7cf53_6 : decode cJ9_min_7cf53 6 = .ok (.goto 4, 3) := by decide +kernel
theorem dJ9_min_7cf53_9 : decode cJ9_min_7cf53 9 = .ok (.iload_n 1, 1) := by decide +kernel
theorem dJ9_min_7cf53_10 : decode cJ9_min_7cf53 10 = .ok (.ireturn, 1) := by decide +kernel
theorem dJ0_length_8abf5_0 : decode cJ0_length_8abf5 0 = .ok (.aload_n 0, 1) := by decide +kernel
theorem dJ0_length_8abf5_1 : decode cJ0_length_8abf5 1 = .ok (.getfield 9, 3) := by decide +kernel
theorem dJ0_length_8abf5_4 : decode cJ0_length_8abf5 4 = .ok (.arraylength, 1) := by decide +kernel
theorem dJ0_length_8abf5_5 : decode cJ0_length_8abf5 5 = .ok (.aload_n 0, 1) := by decide +kernel
theorem dJ0_length_8abf5_6 : decode cJ0_length_8abf5 6 = .ok (.invokevirtual 335, 3) := by decide +kernel
theorem dJ0_length_8abf5_9 : decode cJ0_length_8abf5 9 = .ok (.ishr, 1) := by decide +kernel
theorem dJ0_length_8abf5_10 : decode cJ0_length_8abf5 10 = .ok (.ireturn, 1) := by decide +kernel
theorem dJ0_charAt_5068e_0 : decode cJ0_charAt_5068e 0 = .ok (.aload_n 0, 1) := by decide +kernel
theorem dJ0_charAt_5068e_1 : decode cJ0_charAt_5068e 1 = .ok (.invokevirtual 492, 3) := by decide +kernel
theorem dJ0_charAt_5068e_4 : decode cJ0_charAt_5068e 4 = .ok (.ifCond .eq 12, 3) := by decide +kernel
theorem dJ0_charAt_5068e_7 : decode cJ0_charAt_5068e 7 = .ok (.aload_n 0, 1) := by decide +kernel
theorem dJ0_charAt_5068e_8 : decode cJ0_charAt_5068e 8 = .ok (.getfield 9, 3) := by decide +kernel
theorem dJ0_charAt_5068e_11 : decode cJ0_charAt_5068e 11 = .ok (.iload_n 1, 1) := by decide +kernel
theorem dJ0_charAt_5068e_12 : decode cJ0_charAt_5068e 12 = .ok (.invokestatic 495, 3) := by decide +kernel
theorem dJ0_charAt_5068e_15 : decode cJ0_charAt_5068e 15 = .ok (.ireturn, 1) := by decide +kernel
theorem dJ0_charAt_5068e_16 : decode cJ0_charAt_5068e 16 = .ok (.aload_n 0, 1) := by decide +kernel
theorem dJ0_charAt_5068e_17 : decode cJ0_charAt_5068e 17 = .ok (.getfield 9, 3) := by decide +kernel
theorem dJ0_charAt_5068e_20 : decode cJ0_charAt_5068e 20 = .ok (.iload_n 1, 1) := by decide +kernel
theorem dJ0_charAt_5068e_21 : decode cJ0_charAt_5068e 21 = .ok (.invokestatic 498, 3) := by decide +kernel
theorem dJ0_charAt_5068e_24 : decode cJ0_charAt_5068e 24 = .ok (.ireturn, 1) := by decide +kernel
theorem dJ0_coder_7d493_0 : decode cJ0_coder_7d493 0 = .ok (.getstatic 38, 3) := by decide +kernel
theorem dJ0_coder_7d493_3 : decode cJ0_coder_7d493 3 = .ok (.ifCond .eq 10, 3) := by decide +kernel
theorem dJ0_coder_7d493_6 : decode cJ0_coder_7d493 6 = .ok (.aload_n 0, 1) := by decide +kernel
theorem dJ0_coder_7d493_7 : decode cJ0_coder_7d493 7 = .ok (.getfield 15, 3) := by decide +kernel
theorem dJ0_coder_7d493_10 : decode cJ0_coder_7d493 10 = .ok (.goto 4, 3) := by decide +kernel
theorem dJ0_coder_7d493_13 : decode cJ0_coder_7d493 13 = .ok (.iconst 1, 1) := by decide +kernel
theorem dJ0_coder_7d493_14 : decode cJ0_coder_7d493 14 = .ok (.ireturn, 1) := by decide +kernel
theorem dJ0_isLatin1_aae02_0 : decode cJ0_isLatin1_aae02 0 = .ok (.getstatic 38, 3) := by decide +kernel
theorem dJ0_isLatin1_aae02_3 : decode cJ0_isLatin1_aae02 3 = .ok (.ifCond .eq 14, 3) := by decide +kernel
theorem dJ0_isLatin1_aae02_6 : decode cJ0_isLatin1_aae02 6 = .ok (.aload_n 0, 1) := by decide +kernel
theorem dJ0_isLatin1_aae02_7 : decode cJ0_isLatin1_aae02 7 = .ok (.getfield 15, 3) := by decide +kernel
theorem dJ0_isLatin1_aae02_10 : decode cJ0_isLatin1_aae02 10 = .ok (.ifCond .ne 7, 3) := by decide +kernel
theorem dJ0_isLatin1_aae02_13 : decode cJ0_isLatin1_aae02 13 = .ok (.iconst 1, 1) := by decide +kernel
theorem dJ0_isLatin1_aae02_14 : decode cJ0_isLatin1_aae02 14 = .ok (.goto 4, 3) := by decide +kernel
theorem dJ0_isLatin1_aae02_17 : decode cJ0_isLatin1_aae02 17 = .ok (.iconst 0, 1) := by decide +kernel
theorem dJ0_isLatin1_aae02_18 : decode cJ0_isLatin1_aae02 18 = .ok (.ireturn, 1) := by decide +kernel
theorem dJ0_checkIndex_df160_0 : decode cJ0_checkIndex_df160 0 = .ok (.iload_n 0, 1) := by decide +kernel
theorem dJ0_checkIndex_df160_1 : decode cJ0_checkIndex_df160 1 = .ok (.iload_n 1, 1) := by decide +kernel
theorem dJ0_checkIndex_df160_2 : decode cJ0_checkIndex_df160 2 = .ok (.getstatic 1053, 3) := by decide +kernel
theorem dJ0_checkIndex_df160_5 : decode cJ0_checkIndex_df160 5 = .ok (.invokestatic 1059, 3) := by decide +kernel
theorem dJ0_checkIndex_df160_8 : decode cJ0_checkIndex_df160 8 = .ok (.pop, 1) := by decide +kernel
theorem dJ0_checkIndex_df160_9 : decode cJ0_checkIndex_df160 9 = .ok (.return_, 1) := by decide +kernel
theorem dJ1_charAt_3b067_0 : decode cJ1_charAt_3b067 0 = .ok (.iload_n 1, 1) := by decide +kernel
theorem dJ1_charAt_3b067_1 : decode cJ1_charAt_3b067 1 = .ok (.aload_n 0, 1) := by decide +kernel
theorem dJ1_charAt_3b067_2 : decode cJ1_charAt_3b067 2 = .ok (.arraylength, 1) := by decide +kernel
theorem dJ1_charAt_3b067_3 : decode cJ1_charAt_3b067 3 = .ok (.invokestatic 9, 3) := by decide +kernel
theorem dJ1_charAt_3b067_6 : decode cJ1_charAt_3b067 6 = .ok (.aload_n 0, 1) := by decide +kernel
theorem dJ1_charAt_3b067_7 : decode cJ1_charAt_3b067 7 = .ok (.iload_n 1, 1) := by decide +kernel
theorem dJ1_charAt_3b067_8 : decode cJ1_charAt_3b067 8 = .ok (.baload, 1) := by decide +kernel
theorem dJ1_charAt_3b067_9 : decode cJ1_charAt_3b067 9 = .ok (.sipush 255, 3) := by decide +kernel
theorem dJ1_charAt_3b067_12 : decode cJ1_charAt_3b067 12 = .ok (.iand, 1) := by decide +kernel
theorem dJ1_charAt_3b067_13 : decode cJ1_charAt_3b067 13 = .ok (.i2c, 1) := by decide +kernel
theorem dJ1_charAt_3b067_14 : decode cJ1_charAt_3b067 14 = .ok (.ireturn, 1) := by decide +kernel
theorem dJ2_getChar_3b067_0 : decode cJ2_getChar_3b067 0 = .ok (.getstatic 44, 3) := by decide +kernel
theorem dJ2_getChar_3b067_3 : decode cJ2_getChar_3b067 3 = .ok (.ifCond .ne 25, 3) := by decide +kernel
theorem dJ2_getChar_3b067_6 : decode cJ2_getChar_3b067 6 = .ok (.iload_n 1, 1) := by decide +kernel
theorem dJ2_getChar_3b067_7 : decode cJ2_getChar_3b067 7 = .ok (.ifCond .lt 11, 3) := by decide +kernel
theorem dJ2_getChar_3b067_10 : decode cJ2_getChar_3b067 10 = .ok (.iload_n 1, 1) := by decide +kernel
theorem dJ2_getChar_3b067_11 : decode cJ2_getChar_3b067 11 = .ok (.aload_n 0, 1) := by decide +kernel
theorem dJ2_getChar_3b067_12 : decode cJ2_getChar_3b067 12 = .ok (.invokestatic 48, 3) := by decide +kernel
theorem dJ2_getChar_3b067_15 : decode cJ2_getChar_3b067 15 = .ok (.if_icmp .lt 13, 3) := by decide +kernel
theorem dJ2_getChar_3b067_18 : decode cJ2_getChar_3b067 18 = .ok (.new 52, 3) := by decide +kernel
theorem dJ2_getChar_3b067_21 : decode cJ2_getChar_3b067 21 = .ok (.dup, 1) := by decide +kernel
theorem dJ2_getChar_3b067_22 : decode cJ2_getChar_3b067 22 = .ok (.ldc 54, 2) := by decide +kernel
theorem dJ2_getChar_3b067_24 : decode cJ2_getChar_3b067 24 = .ok (.invokespecial 56, 3) := by decide +kernel
theorem dJ2_getChar_3b067_27 : decode cJ2_getChar_3b067 27 = .ok (.athrow, 1) := by decide +kernel
theorem dJ2_getChar_3b067_28 : decode cJ2_getChar_3b067 28 = .ok (.iload_n 1, 1) := by decide +kernel
theorem dJ2_getChar_3b067_29 : decode cJ2_getChar_3b067 29 = .ok (.iconst 1, 1) := by decide +kernel
theorem dJ2_getChar_3b067_30 : decode cJ2_getChar_3b067 30 = .ok (.ishl, 1) := by decide +kernel
theorem dJ2_getChar_3b067_31 : decode cJ2_getChar_3b067 31 = .ok (.istore_n 1, 1) := by decide +kernel
theorem dJ2_getChar_3b067_32 : decode cJ2_getChar_3b067 32 = .ok (.aload_n 0, 1) := by decide +kernel
theorem dJ2_getChar_3b067_33 : decode cJ2_getChar_3b067 33 = .ok (.iload_n 1, 1) := by decide +kernel
theorem dJ2_getChar_3b067_34 : decode cJ2_getChar_3b067 34 = .ok (.iinc 1 1, 3) := by decide +kernel
theorem dJ2_getChar_3b067_37 : decode cJ2_getChar_3b067 37 = .ok (.baload, 1) := by decide +kernel
theorem dJ2_getChar_3b067_38 : decode cJ2_getChar_3b067 38 = .ok (.sipush 255, 3) := by decide +kernel
theorem dJ2_getChar_3b067_41 : decode cJ2_getChar_3b067 41 = .ok (.iand, 1) := by decide +kernel
theorem dJ2_getChar_3b067_42 : decode cJ2_getChar_3b067 42 = .ok (.getstatic 59, 3) := by decide +kernel
theorem dJ2_getChar_3b067_45 : decode cJ2_getChar_3b067 45 = .ok (.ishl, 1) := by decide +kernel
theorem dJ2_getChar_3b067_46 : decode cJ2_getChar_3b067 46 = .ok (.aload_n 0, 1) := by decide +kernel
theorem dJ2_getChar_3b067_47 : decode cJ2_getChar_3b067 47 = .ok (.iload_n 1, 1) := by decide +kernel
theorem dJ2_getChar_3b067_48 : decode cJ2_getChar_3b067 48 = .ok (.baload, 1) := by decide +kernel
theorem dJ2_getChar_3b067_49 : decode cJ2_getChar_3b067 49 = .ok (.sipush 255, 3) := by decide +kernel
theorem dJ2_getChar_3b067_52 : decode cJ2_getChar_3b067 52 = .ok (.iand, 1) := by decide +kernel
theorem dJ2_getChar_3b067_53 : decode cJ2_getChar_3b067 53 = .ok (.getstatic 63, 3) := by decide +kernel
theorem dJ2_getChar_3b067_56 : decode cJ2_getChar_3b067 56 = .ok (.ishl, 1) := by decide +kernel
theorem dJ2_getChar_3b067_57 : decode cJ2_getChar_3b067 57 = .ok (.ior, 1) := by decide +kernel
theorem dJ2_getChar_3b067_58 : decode cJ2_getChar_3b067 58 = .ok (.i2c, 1) := by decide +kernel
theorem dJ2_getChar_3b067_59 : decode cJ2_getChar_3b067 59 = .ok (.ireturn, 1) := by decide +kernel
theorem dJ2_length_9d52b_0 : decode cJ2_length_9d52b 0 = .ok (.aload_n 0, 1) := by decide +kernel
theorem dJ2_length_9d52b_1 : decode cJ2_length_9d52b 1 = .ok (.arraylength, 1) := by decide +kernel
theorem dJ2_length_9d52b_2 : decode cJ2_length_9d52b 2 = .ok (.iconst 1, 1) := by decide +kernel
theorem dJ2_length_9d52b_3 : decode cJ2_length_9d52b 3 = .ok (.ishr, 1) := by decide +kernel
theorem dJ2_length_9d52b_4 : decode cJ2_length_9d52b 4 = .ok (.ireturn, 1) := by decide +kernel
theorem dJ2_charAt_3b067_0 : decode cJ2_charAt_3b067 0 = .ok (.iload_n 1, 1) := by decide +kernel
theorem dJ2_charAt_3b067_1 : decode cJ2_charAt_3b067 1 = .ok (.aload_n 0, 1) := by decide +kernel
theorem dJ2_charAt_3b067_2 : decode cJ2_charAt_3b067 2 = .ok (.invokestatic 67, 3) := by decide +kernel
theorem dJ2_charAt_3b067_5 : decode cJ2_charAt_3b067 5 = .ok (.aload_n 0, 1) := by decide +kernel
theorem dJ2_charAt_3b067_6 : decode cJ2_charAt_3b067 6 = .ok (.iload_n 1, 1) := by decide +kernel
theorem dJ2_charAt_3b067_7 : decode cJ2_charAt_3b067 7 = .ok (.invokestatic 71, 3) := by decide +kernel
theorem dJ2_charAt_3b067_10 : decode cJ2_charAt_3b067 10 = .ok (.ireturn, 1) := by decide +kernel
theorem dJ2_checkIndex_2214a_0 : decode cJ2_checkIndex_2214a 0 = .ok (.iload_n 0, 1) := by decide +kernel
theorem dJ2_checkIndex_2214a_1 : decode cJ2_checkIndex_2214a 1 = .ok (.aload_n 1, 1) := by decide +kernel
theorem dJ2_checkIndex_2214a_2 : decode cJ2_checkIndex_2214a 2 = .ok (.invokestatic 48, 3) := by decide +kernel
theorem dJ2_checkIndex_2214a_5 : decode cJ2_checkIndex_2214a 5 = .ok (.invokestatic 414, 3) := by decide +kernel
theorem dJ2_checkIndex_2214a_8 : decode cJ2_checkIndex_2214a 8 = .ok (.return_, 1) := by decide +kernel
theorem dJ7_fill_53178_0 : decode cJ7_fill_53178 0 = .ok (.iconst 0, 1) := by decide +kernel
theorem dJ7_fill_53178_1 : decode cJ7_fill_53178 1 = .ok (.istore_n 2, 1) := by decide +kernel
theorem dJ7_fill_53178_2 : decode cJ7_fill_53178 2 = .ok (.aload_n 0, 1) := by decide +kernel
theorem dJ7_fill_53178_3 : decode cJ7_fill_53178 3 = .ok (.arraylength, 1) := by decide +kernel
theorem dJ7_fill_53178_4 : decode cJ7_fill_53178 4 = .ok (.istore_n 3, 1) := by decide +kernel
theorem dJ7_fill_53178_5 : decode cJ7_fill_53178 5 = .ok (.iload_n 2, 1) := by decide +kernel
theorem dJ7_fill_53178_6 : decode cJ7_fill_53178 6 = .ok (.iload_n 3, 1) := by decide +kernel
theorem dJ7_fill_53178_7 : decode cJ7_fill_53178 7 = .ok (.if_icmp .ge 13, 3) := by decide +kernel
theorem dJ7_fill_53178_10 : decode cJ7_fill_53178 10 = .ok (.aload_n 0, 1) := by decide +kernel
theorem dJ7_fill_53178_11 : decode cJ7_fill_53178 11 = .ok (.iload_n 2, 1) := by decide +kernel
theorem dJ7_fill_53178_12 : decode cJ7_fill_53178 12 = .ok (.iload_n 1, 1) := by decide +kernel
theorem dJ7_fill_53178_13 : decode cJ7_fill_53178 13 = .ok (.iastore, 1) := by decide +kernel
theorem dJ7_fill_53178_14 : decode cJ7_fill_53178 14 = .ok (.iinc 2 1, 3) := by decide +kernel
theorem dJ7_fill_53178_17 : decode cJ7_fill_53178 17 = .ok (.goto (-12), 3) := by decide +kernel
theorem dJ7_fill_53178_20 : decode cJ7_fill_53178 20 = .ok (.return_, 1) := by decide +kernel
theorem dJ3_checkIndex_8e157_0 : decode cJ3_checkIndex_8e157 0 = .ok (.iload_n 0, 1) := by decide +kernel
theorem dJ3_checkIndex_8e157_1 : decode cJ3_checkIndex_8e157 1 = .ok (.ifCond .lt 8, 3) := by decide +kernel
theorem dJ3_checkIndex_8e157_4 : decode cJ3_checkIndex_8e157 4 = .ok (.iload_n 0, 1) := by decide +kernel
theorem dJ3_checkIndex_8e157_5 : decode cJ3_checkIndex_8e157 5 = .ok (.iload_n 1, 1) := by decide +kernel
theorem dJ3_checkIndex_8e157_6 : decode cJ3_checkIndex_8e157 6 = .ok (.if_icmp .lt 10, 3) := by decide +kernel
theorem dJ3_checkIndex_8e157_9 : decode cJ3_checkIndex_8e157 9 = .ok (.aload_n 2, 1) := by decide +kernel
theorem dJ3_checkIndex_8e157_10 : decode cJ3_checkIndex_8e157 10 = .ok (.iload_n 0, 1) := by decide +kernel
theorem dJ3_checkIndex_8e157_11 : decode cJ3_checkIndex_8e157 11 = .ok (.iload_n 1, 1) := by decide +kernel
theorem dJ3_checkIndex_8e157_12 : decode cJ3_checkIndex_8e157 12 = .ok (.invokestatic 95, 3) := by decide +kernel
theorem dJ3_checkIndex_8e157_15 : decode cJ3_checkIndex_8e157 15 = .ok (.athrow, 1) := by decide +kernel
theorem dJ3_checkIndex_8e157_16 : decode cJ3_checkIndex_8e157 16 = .ok (.iload_n 0, 1) := by decide +kernel
theorem dJ3_checkIndex_8e157_17 : decode cJ3_checkIndex_8e157 17 = .ok (.ireturn, 1) := by decide +kernel
