theorem dJ7_fill_d0a16_0 : decode cJ7_fill_d0a16 0 = .ok (.iconst 0, 1) := by decide +kernel
theorem dJ7_fill_d0a16_1 : decode cJ7_fill_d0a16 1 = .ok (.istore_n 3, 1) := by decide +kernel
theorem dJ7_fill_d0a16_2 : decode cJ7_fill_d0a16 2 = .ok (.aload_n 0, 1) := by decide +kernel
theorem dJ7_fill_d0a16_3 : decode cJ7_fill_d0a16 3 = .ok (.arraylength, 1) := by decide +kernel
theorem dJ7_fill_d0a16_4 : decode cJ7_fill_d0a16 4 = .ok (.istore 4, 2) := by decide +kernel
theorem dJ7_fill_d0a16_6 : decode cJ7_fill_d0a16 6 = .ok (.iload_n 3, 1) := by decide +kernel
theorem dJ7_fill_d0a16_7 : decode cJ7_fill_d0a16 7 = .ok (.iload 4, 2) := by decide +kernel
theorem dJ7_fill_d0a16_9 : decode cJ7_fill_d0a16 9 = .ok (.if_icmp .ge 13, 3) := by decide +kernel
theorem dJ7_fill_d0a16_12 : decode cJ7_fill_d0a16 12 = .ok (.aload_n 0, 1) := by decide +kernel
theorem dJ7_fill_d0a16_13 : decode cJ7_fill_d0a16 13 = .ok (.iload_n 3, 1) := by decide +kernel
theorem dJ7_fill_d0a16_14 : decode cJ7_fill_d0a16 14 = .ok (.lload_n 1, 1) := by decide +kernel
theorem dJ7_fill_d0a16_15 : decode cJ7_fill_d0a16 15 = .ok (.lastore, 1) := by decide +kernel
theorem dJ7_fill_d0a16_16 : decode cJ7_fill_d0a16 16 = .ok (.iinc 3 1, 3) := by decide +kernel
theorem dJ7_fill_d0a16_19 : decode cJ7_fill_d0a16 19 = .ok (.goto (-13), 3) := by decide +kernel
theorem dJ7_fill_d0a16_22 : decode cJ7_fill_d0a16 22 = .ok (.return_, 1) := by decide +kernel
theorem dJ7_fill_53178_0 : decode cJ7_fill_53178 0 = .ok (.iconst 0, 1) := by decide +kernel
theorem dJ7_fill_53178_1 : decode cJ7_fill_53178 1 = .ok (.istore_n 2, 1) := by decide +kernel
theorem dJ7_fill_53178_2 : decode cJ7_fill_53178 2 = .ok (.aload_n 0, 1) := by decide +kernel
theorem dJ7_fill_53178_3 : decode cJ7_fill_53178 3 = .ok (.arraylength, 1) := by decide +kernel
theorem dJ7_fill_53178_4 : decode cJ7_fill_53178 4 = .ok (.istore_n 3, 1) := by decide +kernel
theorem dJ7_fill_53178_5 : decode cJ7_fill_53178 5 = .ok (.iload_n 2, 1) := by decide +kernel
theorem dJ7_fill_53178_6 : decode cJ7_fill_53178 6 = .ok (.iload_n 3, 1) := by decide +kernel
theorem dJ7_fill_53178_7 : decode cJ7_fill_53178 7 = .ok (.if_icmp .ge 13, 3) := by decide +kernel
theorem dJ7_fill_53178_10 : decode cJ7_fill_53178 10 = .ok (.aload_n 0, 1) := by decide +kernel
theorem dJ7_fill_53178_11 : decode cJ7_fill_53178 11 = .ok (.iload_n 2, 1) := by decide +kernel
theorem dJ7_fill_53178_12 : decode cJ7_fill_53178 12 = .ok (.iload_n 1, 1) := by decide +kernel
theorem dJ7_fill_53178_13 : decode cJ7_fill_53178 13 = .ok (.iastore, 1) := by decide +kernel
theorem dJ7_fill_53178_14 : decode cJ7_fill_53178 14 = .ok (.iinc 2 1, 3) := by decide +kernel
theorem dJ7_fill_53178_17 : decode cJ7_fill_53178 17 = .ok (.goto (-12), 3) := by decide +kernel
theorem dJ7_fill_53178_20 : decode cJ7_fill_53178 20 = .ok (.return_, 1) := by decide +kernel
theorem dX4_init_0 : decode cX4_init 0 = .ok (.aload_n 0, 1) := by decide +kernel
theorem dX4_init_1 : decode cX4_init 1 = .ok (.invokespecial 3, 3) := by decide +kernel
theorem dX4_init_4 : decode cX4_init 4 = .ok (.aload_n 0, 1) := by decide +kernel
theorem dX4_init_5 : decode cX4_init 5 = .ok (.iconst 2, 1) := by decide +kernel
theorem dX4_init_6 : decode cX4_init 6 = .ok (.putfield 9, 3) := by decide +kernel
theorem dX4_init_9 : decode cX4_init 9 = .ok (.aload_n 0, 1) := by decide +kernel
theorem dX4_init_10 : decode cX4_init 10 = .ok (.iconst 2, 1) := by decide +kernel
theorem dX4_init_11 : decode cX4_init 11 = .ok (.putfield 15, 3) := by decide +kernel
theorem dX4_init_14 : decode cX4_init 14 = .ok (.aload_n 0, 1) := by decide +kernel
theorem dX4_init_15 : decode cX4_init 15 = .ok (.iconst 1, 1) := by decide +kernel
theorem dX4_init_16 : decode cX4_init 16 = .ok (.putfield 18, 3) := by decide +kernel
theorem dX4_init_19 : decode cX4_init 19 = .ok (.aload_n 0, 1) := by decide +kernel
theorem dX4_init_20 : decode cX4_init 20 = .ok (.bipush 9, 2) := by decide +kernel
theorem dX4_init_22 : decode cX4_init 22 = .ok (.newarray .int, 2) := by decide +kernel
theorem dX4_init_24 : decode cX4_init 24 = .ok (.putfield 21, 3) := by decide +kernel
theorem dX4_init_27 : decode cX4_init 27 = .ok (.aload_n 0, 1) := by decide +kernel
theorem dX4_init_28 : decode cX4_init 28 = .ok (.bipush 9, 2) := by decide +kernel
theorem dX4_init_30 : decode cX4_init 30 = .ok (.newarray .int, 2) := by decide +kernel
theorem dX4_init_32 : decode cX4_init 32 = .ok (.putfield 25, 3) := by decide +kernel
theorem dX4_init_35 : decode cX4_init 35 = .ok (.aload_n 0, 1) := by decide +kernel
theorem dX4_init_36 : decode cX4_init 36 = .ok (.bipush 9, 2) := by decide +kernel
theorem dX4_init_38 : decode cX4_init 38 = .ok (.newarray .int, 2) := by decide +kernel
theorem dX4_init_40 : decode cX4_init 40 = .ok (.putfield 28, 3) := by decide +kernel
theorem dX4_init_43 : decode cX4_init 43 = .ok (.aload_n 0, 1) := by decide +kernel
theorem dX4_init_44 : decode cX4_init 44 = .ok (.bipush 6, 2) := by decide +kernel
theorem dX4_init_46 : decode cX4_init 46 = .ok (.newarray .int, 2) := by decide +kernel
theorem dX4_init_48 : decode cX4_init 48 = .ok (.putfield 31, 3) := by decide +kernel
theorem dX4_init_51 : decode cX4_init 51 = .ok (.aload_n 0, 1) := by decide +kernel
theorem dX4_init_52 : decode cX4_init 52 = .ok (.bipush 6, 2) := by decide +kernel
theorem dX4_init_54 : decode cX4_init 54 = .ok (.newarray .int, 2) := by decide +kernel
theorem dX4_init_56 : decode cX4_init 56 = .ok (.putfield 34, 3) := by decide +kernel
theorem dX4_init_59 : decode cX4_init 59 = .ok (.return_, 1) := by decide +kernel
theorem dX4_copyFrom_0 : decode cX4_copyFrom 0 = .ok (.aload_n 0, 1) := by decide +kernel
theorem dX4_copyFrom_1 : decode cX4_copyFrom 1 = .ok (.aload_n 1, 1) := by decide +kernel
theorem dX4_copyFrom_2 : decode cX4_copyFrom 2 = .ok (.getfield 9, 3) := by decide +kernel
theorem dX4_copyFrom_5 : decode cX4_copyFrom 5 = .ok (.putfield 9, 3) := by decide +kernel
theorem dX4_copyFrom_8 : decode cX4_copyFrom 8 = .ok (.aload_n 0, 1) := by decide +kernel
theorem dX4_copyFrom_9 : decode cX4_copyFrom 9 = .ok (.aload_n 1, 1) := by decide +kernel
theorem dX4_copyFrom_10 : decode cX4_copyFrom 10 = .ok (.getfield 15, 3) := by decide +kernel
theorem dX4_copyFrom_13 : decode cX4_copyFrom 13 = .ok (.putfield 15, 3) := by decide +kernel
theorem dX4_copyFrom_16 : decode cX4_copyFrom 16 = .ok (.aload_n 0, 1) := by decide +kernel
theorem dX4_copyFrom_17 : decode cX4_copyFrom 17 = .ok (.aload_n 1, 1) := by decide +kernel
theorem dX4_copyFrom_18 : decode cX4_copyFrom 18 = .ok (.getfield 18, 3) := by decide +kernel
theorem dX4_copyFrom_21 : decode cX4_copyFrom 21 = .ok (.putfield 18, 3) := by decide +kernel
theorem dX4_copyFrom_24 : decode cX4_copyFrom 24 = .ok (.aload_n 0, 1) := by decide +kernel
theorem dX4_copyFrom_25 : decode cX4_copyFrom 25 = .ok (.aload_n 1, 1) := by decide +kernel
theorem dX4_copyFrom_26 : decode cX4_copyFrom 26 = .ok (.getfield 37, 3) := by decide +kernel
theorem dX4_copyFrom_29 : decode cX4_copyFrom 29 = .ok (.putfield 37, 3) := by decide +kernel
theorem dX4_copyFrom_32 : decode cX4_copyFrom 32 = .ok (.aload_n 1, 1) := by decide +kernel
theorem dX4_copyFrom_33 : decode cX4_copyFrom 33 = .ok (.getfield 21, 3) := by decide +kernel
theorem dX4_copyFrom_36 : decode cX4_copyFrom 36 = .ok (.iconst 0, 1) := by decide +kernel
theorem dX4_copyFrom_37 : decode cX4_copyFrom 37 = .ok (.aload_n 0, 1) := by decide +kernel
theorem dX4_copyFrom_38 : decode cX4_copyFrom 38 = .ok (.getfield 21, 3) := by decide +kernel
theorem dX4_copyFrom_41 : decode cX4_copyFrom 41 = .ok (.iconst 0, 1) := by decide +kernel
theorem dX4_copyFrom_42 : decode cX4_copyFrom 42 = .ok (.bipush 9, 2) := by decide +kernel
theorem dX4_copyFrom_44 : decode cX4_copyFrom 44 = .ok (.invokestatic 40, 3) := by decide +kernel
theorem dX4_copyFrom_47 : decode cX4_copyFrom 47 = .ok (.aload_n 1, 1) := by decide +kernel
theorem dX4_copyFrom_48 : decode cX4_copyFrom 48 = .ok (.getfield 25, 3) := by decide +kernel
theorem dX4_copyFrom_51 : decode cX4_copyFrom 51 = .ok (.iconst 0, 1) := by decide +kernel
theorem dX4_copyFrom_52 : decode cX4_copyFrom 52 = .ok (.aload_n 0, 1) := by decide +kernel
theorem dX4_copyFrom_53 : decode cX4_copyFrom 53 = .ok (.getfield 25, 3) := by decide +kernel
theorem dX4_copyFrom_56 : decode cX4_copyFrom 56 = .ok (.iconst 0, 1) := by decide +kernel
theorem dX4_copyFrom_57 : decode cX4_copyFrom 57 = .ok (.bipush 9, 2) := by decide +kernel
theorem dX4_copyFrom_59 : decode cX4_copyFrom 59 = .ok (.invokestatic 40, 3) := by decide +kernel
theorem dX4_copyFrom_62 : decode cX4_copyFrom 62 = .ok (.aload_n 1, 1) := by decide +kernel
theorem dX4_copyFrom_63 : decode cX4_copyFrom 63 = .ok (.getfield 28, 3) := by decide +kernel
theorem dX4_copyFrom_66 : decode cX4_copyFrom 66 = .ok (.iconst 0, 1) := by decide +kernel
theorem dX4_copyFrom_67 : decode cX4_copyFrom 67 = .ok (.aload_n 0, 1) := by decide +kernel
theorem dX4_copyFrom_68 : decode cX4_copyFrom 68 = .ok (.getfield 28, 3) := by decide +kernel
theorem dX4_copyFrom_71 : decode cX4_copyFrom 71 = .ok (.iconst 0, 1) := by decide +kernel
theorem dX4_copyFrom_72 : decode cX4_copyFrom 72 = .ok (.bipush 9, 2) := by decide +kernel
theorem dX4_copyFrom_74 : decode cX4_copyFrom 74 = .ok (.invokestatic 40, 3) := by decide +kernel
theorem dX4_copyFrom_77 : decode cX4_copyFrom 77 = .ok (.aload_n 1, 1) := by decide +kernel
theorem dX4_copyFrom_78 : decode cX4_copyFrom 78 = .ok (.getfield 31, 3) := by decide +kernel
theorem dX4_copyFrom_81 : decode cX4_copyFrom 81 = .ok (.iconst 0, 1) := by decide +kernel
theorem dX4_copyFrom_82 : decode cX4_copyFrom 82 = .ok (.aload_n 0, 1) := by decide +kernel
theorem dX4_copyFrom_83 : decode cX4_copyFrom 83 = .ok (.getfield 31, 3) := by decide +kernel
theorem dX4_copyFrom_86 : decode cX4_copyFrom 86 = .ok (.iconst 0, 1) := by decide +kernel
theorem dX4_copyFrom_87 : decode cX4_copyFrom 87 = .ok (.bipush 6, 2) := by decide +kernel
theorem dX4_copyFrom_89 : decode cX4_copyFrom 89 = .ok (.invokestatic 40, 3) := by decide +kernel
theorem dX4_copyFrom_92 : decode cX4_copyFrom 92 = .ok (.aload_n 1, 1) := by decide +kernel
theorem dX4_copyFrom_93 : decode cX4_copyFrom 93 = .ok (.getfield 34, 3) := by decide +kernel
theorem dX4_copyFrom_96 : decode cX4_copyFrom 96 = .ok (.iconst 0, 1) := by decide +kernel
theorem dX4_copyFrom_97 : decode cX4_copyFrom 97 = .ok (.aload_n 0, 1) := by decide +kernel
theorem dX4_copyFrom_98 : decode cX4_copyFrom 98 = .ok (.getfield 34, 3) := by decide +kernel
theorem dX4_copyFrom_101 : decode cX4_copyFrom 101 = .ok (.iconst 0, 1) := by decide +kernel
theorem dX4_copyFrom_102 : decode cX4_copyFrom 102 = .ok (.bipush 6, 2) := by decide +kernel
theorem dX4_copyFrom_104 : decode cX4_copyFrom 104 = .ok (.invokestatic 40, 3) := by decide +kernel
theorem dX4_copyFrom_107 : decode cX4_copyFrom 107 = .ok (.return_, 1) := by decide +kernel
set_option maxRecDepth 20000 in
theorem ggX4_resize_J7_fill_53178 : GoodIn wsX4_resize wsJ7_fill_53178 := goodIn_r _ [9] (by decide +kernel) (by decide +kernel)
set_option maxRecDepth 20000 in
theorem gX4_resize_J7_fill_53178 : GoodIn wsX4_resize (va_wsS RX4 46 yJ7_fill_53178 wsJ7_fill_53178) := goodIn_app (goodIn_of _ (by decide +kernel)) ggX4_resize_J7_fill_53178
theorem dX4_resize_0 : decode cX4_resize 0 = .ok (.aload_n 0, 1) := by decide +kernel
theorem dX4_resize_1 : decode cX4_resize 1 = .ok (.iload_n 1, 1) := by decide +kernel
theorem dX4_resize_2 : decode cX4_resize 2 = .ok (.putfield 9, 3) := by decide +kernel
theorem dX4_resize_5 : decode cX4_resize 5 = .ok (.aload_n 0, 1) := by decide +kernel
theorem dX4_resize_6 : decode cX4_resize 6 = .ok (.iload_n 2, 1) := by decide +kernel
theorem dX4_resize_7 : decode cX4_resize 7 = .ok (.putfield 15, 3) := by decide +kernel
theorem dX4_resize_10 : decode cX4_resize 10 = .ok (.aload_n 0, 1) := by decide +kernel
theorem dX4_resize_11 : decode cX4_resize 11 = .ok (.getfield 21, 3) := by decide +kernel
theorem dX4_resize_14 : decode cX4_resize 14 = .ok (.iconst 0, 1) := by decide +kernel
theorem dX4_resize_15 : decode cX4_resize 15 = .ok (.invokestatic 46, 3) := by decide +kernel
theorem dX4_resize_18 : decode cX4_resize 18 = .ok (.aload_n 0, 1) := by decide +kernel
theorem dX4_resize_19 : decode cX4_resize 19 = .ok (.getfield 25, 3) := by decide +kernel
theorem dX4_resize_22 : decode cX4_resize 22 = .ok (.iconst 0, 1) := by decide +kernel
theorem dX4_resize_23 : decode cX4_resize 23 = .ok (.invokestatic 46, 3) := by decide +kernel
theorem dX4_resize_26 : decode cX4_resize 26 = .ok (.aload_n 0, 1) := by decide +kernel
theorem dX4_resize_27 : decode cX4_resize 27 = .ok (.getfield 28, 3) := by decide +kernel
theorem dX4_resize_30 : decode cX4_resize 30 = .ok (.iconst 0, 1) := by decide +kernel
theorem dX4_resize_31 : decode cX4_resize 31 = .ok (.invokestatic 46, 3) := by decide +kernel
theorem dX4_resize_34 : decode cX4_resize 34 = .ok (.return_, 1) := by decide +kernel
theorem dX4_rows_0 : decode cX4_rows 0 = .ok (.iload_n 1, 1) := by decide +kernel
theorem dX4_rows_1 : decode cX4_rows 1 = .ok (.iconst 1, 1) := by decide +kernel
theorem dX4_rows_2 : decode cX4_rows 2 = .ok (.if_icmp .ne 10, 3) := by decide +kernel
theorem dX4_rows_5 : decode cX4_rows 5 = .ok (.aload_n 0, 1) := by decide +kernel
theorem dX4_rows_6 : decode cX4_rows 6 = .ok (.getfield 15, 3) := by decide +kernel
theorem dX4_rows_9 : decode cX4_rows 9 = .ok (.goto 7, 3) := by decide +kernel
theorem dX4_rows_12 : decode cX4_rows 12 = .ok (.aload_n 0, 1) := by decide +kernel
theorem dX4_rows_13 : decode cX4_rows 13 = .ok (.getfield 9, 3) := by decide +kernel
theorem dX4_rows_16 : decode cX4_rows 16 = .ok (.ireturn, 1) := by decide +kernel
theorem dX4_columns_0 : decode cX4_columns 0 = .ok (.iload_n 1, 1) := by decide +kernel
theorem dX4_columns_1 : decode cX4_columns 1 = .ok (.ifCond .ne 10, 3) := by decide +kernel
theorem dX4_columns_4 : decode cX4_columns 4 = .ok (.aload_n 0, 1) := by decide +kernel
theorem dX4_columns_5 : decode cX4_columns 5 = .ok (.getfield 9, 3) := by decide +kernel
theorem dX4_columns_8 : decode cX4_columns 8 = .ok (.goto 7, 3) := by decide +kernel
theorem dX4_columns_11 : decode cX4_columns 11 = .ok (.aload_n 0, 1) := by decide +kernel
theorem dX4_columns_12 : decode cX4_columns 12 = .ok (.getfield 15, 3) := by decide +kernel
theorem dX4_columns_15 : decode cX4_columns 15 = .ok (.ireturn, 1) := by decide +kernel
set_option maxRecDepth 20000 in
theorem ggX4_hasEntry_X4_rows : GoodIn wsX4_hasEntry wsX4_rows := goodIn_r _ [5, 6, 7, 12, 13, 14, 15, 16, 17, 18, 19, 20] (by decide +kernel) (by decide +kernel)
set_option maxRecDepth 20000 in
theorem gX4_hasEntry_X4_rows : GoodIn wsX4_hasEntry (wsV RX4 52 RX4 yX4_rows wsX4_rows) := goodIn_app (goodIn_of _ (by decide +kernel)) ggX4_hasEntry_X4_rows
set_option maxRecDepth 20000 in
theorem ggX4_hasEntry_X4_columns : GoodIn wsX4_hasEntry wsX4_columns := goodIn_r _ [11, 7, 6, 12, 13, 14, 15, 16, 17, 18, 19, 20] (by decide +kernel) (by decide +kernel)
set_option maxRecDepth 20000 in
theorem gX4_hasEntry_X4_columns : GoodIn wsX4_hasEntry (wsV RX4 56 RX4 yX4_columns wsX4_columns) := goodIn_app (goodIn_of _ (by decide +kernel)) ggX4_hasEntry_X4_columns
theorem dX4_hasEntry_0 : decode cX4_hasEntry 0 = .ok (.iload_n 1, 1) := by decide +kernel
theorem dX4_hasEntry_1 : decode cX4_hasEntry 1 = .ok (.ifCond .lt 38, 3) := by decide +kernel
theorem dX4_hasEntry_4 : decode cX4_hasEntry 4 = .ok (.iload_n 1, 1) := by decide +kernel
theorem dX4_hasEntry_5 : decode cX4_hasEntry 5 = .ok (.iconst 2, 1) := by decide +kernel
theorem dX4_hasEntry_6 : decode cX4_hasEntry 6 = .ok (.if_icmp .gt 33, 3) := by decide +kernel
theorem dX4_hasEntry_9 : decode cX4_hasEntry 9 = .ok (.iload_n 2, 1) := by decide +kernel
theorem dX4_hasEntry_10 : decode cX4_hasEntry 10 = .ok (.ifCond .lt 29, 3) := by decide +kernel
theorem dX4_hasEntry_13 : decode cX4_hasEntry 13 = .ok (.iload_n 2, 1) := by decide +kernel
theorem dX4_hasEntry_14 : decode cX4_hasEntry 14 = .ok (.aload_n 0, 1) := by decide +kernel
theorem dX4_hasEntry_15 : decode cX4_hasEntry 15 = .ok (.iload_n 1, 1) := by decide +kernel
theorem dX4_hasEntry_16 : decode cX4_hasEntry 16 = .ok (.invokevirtual 52, 3) := by decide +kernel
theorem dX4_hasEntry_19 : decode cX4_hasEntry 19 = .ok (.if_icmp .ge 20, 3) := by decide +kernel
theorem dX4_hasEntry_22 : decode cX4_hasEntry 22 = .ok (.iload_n 3, 1) := by decide +kernel
theorem dX4_hasEntry_23 : decode cX4_hasEntry 23 = .ok (.ifCond .lt 16, 3) := by decide +kernel
theorem dX4_hasEntry_26 : decode cX4_hasEntry 26 = .ok (.iload_n 3, 1) := by decide +kernel
theorem dX4_hasEntry_27 : decode cX4_hasEntry 27 = .ok (.aload_n 0, 1) := by decide +kernel
theorem dX4_hasEntry_28 : decode cX4_hasEntry 28 = .ok (.iload_n 1, 1) := by decide +kernel
theorem dX4_hasEntry_29 : decode cX4_hasEntry 29 = .ok (.invokevirtual 56, 3) := by decide +kernel
theorem dX4_hasEntry_32 : decode cX4_hasEntry 32 = .ok (.if_icmp .ge 7, 3) := by decide +kernel
theorem dX4_hasEntry_35 : decode cX4_hasEntry 35 = .ok (.iconst 1, 1) := by decide +kernel
theorem dX4_hasEntry_36 : decode cX4_hasEntry 36 = .ok (.goto 4, 3) := by decide +kernel
theorem dX4_hasEntry_39 : decode cX4_hasEntry 39 = .ok (.iconst 0, 1) := by decide +kernel
theorem dX4_hasEntry_40 : decode cX4_hasEntry 40 = .ok (.ireturn, 1) := by decide +kernel
theorem dX4_isRoom_0 : decode cX4_isRoom 0 = .ok (.iload_n 0, 1) := by decide +kernel
theorem dX4_isRoom_1 : decode cX4_isRoom 1 = .ok (.ifCond .lt 21, 3) := by decide +kernel
theorem dX4_isRoom_4 : decode cX4_isRoom 4 = .ok (.iload_n 0, 1) := by decide +kernel
theorem dX4_isRoom_5 : decode cX4_isRoom 5 = .ok (.iconst 3, 1) := by decide +kernel
theorem dX4_isRoom_6 : decode cX4_isRoom 6 = .ok (.if_icmp .ge 16, 3) := by decide +kernel
theorem dX4_isRoom_9 : decode cX4_isRoom 9 = .ok (.iload_n 1, 1) := by decide +kernel
theorem dX4_isRoom_10 : decode cX4_isRoom 10 = .ok (.ifCond .lt 12, 3) := by decide +kernel
theorem dX4_isRoom_13 : decode cX4_isRoom 13 = .ok (.iload_n 1, 1) := by decide +kernel
theorem dX4_isRoom_14 : decode cX4_isRoom 14 = .ok (.iconst 3, 1) := by decide +kernel
theorem dX4_isRoom_15 : decode cX4_isRoom 15 = .ok (.if_icmp .ge 7, 3) := by decide +kernel
theorem dX4_isRoom_18 : decode cX4_isRoom 18 = .ok (.iconst 1, 1) := by decide +kernel
theorem dX4_isRoom_19 : decode cX4_isRoom 19 = .ok (.goto 4, 3) := by decide +kernel
theorem dX4_isRoom_22 : decode cX4_isRoom 22 = .ok (.iconst 0, 1) := by decide +kernel
theorem dX4_isRoom_23 : decode cX4_isRoom 23 = .ok (.ireturn, 1) := by decide +kernel
set_option maxRecDepth 20000 in
theorem ggX4_entry_X4_isRoom : GoodIn wsX4_entry wsX4_isRoom := goodIn_r _ [7] (by decide +kernel) (by decide +kernel)
set_option maxRecDepth 20000 in
theorem gX4_entry_X4_isRoom : GoodIn wsX4_entry (va_wsS RX4 59 yX4_isRoom wsX4_isRoom) := goodIn_app (goodIn_of _ (by decide +kernel)) ggX4_entry_X4_isRoom
theorem dX4_entry_0 : decode cX4_entry 0 = .ok (.iload_n 1, 1) := by decide +kernel
theorem dX4_entry_1 : decode cX4_entry 1 = .ok (.ifCond .ne 10, 3) := by decide +kernel
theorem dX4_entry_4 : decode cX4_entry 4 = .ok (.aload_n 0, 1) := by decide +kernel
theorem dX4_entry_5 : decode cX4_entry 5 = .ok (.getfield 21, 3) := by decide +kernel
theorem dX4_entry_8 : decode cX4_entry 8 = .ok (.goto 19, 3) := by decide +kernel
theorem dX4_entry_11 : decode cX4_entry 11 = .ok (.iload_n 1, 1) := by decide +kernel
theorem dX4_entry_12 : decode cX4_entry 12 = .ok (.iconst 1, 1) := by decide +kernel
theorem dX4_entry_13 : decode cX4_entry 13 = .ok (.if_icmp .ne 10, 3) := by decide +kernel
theorem dX4_entry_16 : decode cX4_entry 16 = .ok (.aload_n 0, 1) := by decide +kernel
theorem dX4_entry_17 : decode cX4_entry 17 = .ok (.getfield 25, 3) := by decide +kernel
theorem dX4_entry_20 : decode cX4_entry 20 = .ok (.goto 7, 3) := by decide +kernel
theorem dX4_entry_23 : decode cX4_entry 23 = .ok (.aload_n 0, 1) := by decide +kernel
theorem dX4_entry_24 : decode cX4_entry 24 = .ok (.getfield 28, 3) := by decide +kernel
theorem dX4_entry_27 : decode cX4_entry 27 = .ok (.astore 4, 2) := by decide +kernel
theorem dX4_entry_29 : decode cX4_entry 29 = .ok (.iload_n 2, 1) := by decide +kernel
theorem dX4_entry_30 : decode cX4_entry 30 = .ok (.iload_n 3, 1) := by decide +kernel
theorem dX4_entry_31 : decode cX4_entry 31 = .ok (.invokestatic 59, 3) := by decide +kernel
theorem dX4_entry_34 : decode cX4_entry 34 = .ok (.ifCond .eq 14, 3) := by decide +kernel
theorem dX4_entry_37 : decode cX4_entry 37 = .ok (.aload 4, 2) := by decide +kernel
theorem dX4_entry_39 : decode cX4_entry 39 = .ok (.iload_n 2, 1) := by decide +kernel
theorem dX4_entry_40 : decode cX4_entry 40 = .ok (.iconst 3, 1) := by decide +kernel
theorem dX4_entry_41 : decode cX4_entry 41 = .ok (.imul, 1) := by decide +kernel
theorem dX4_entry_42 : decode cX4_entry 42 = .ok (.iload_n 3, 1) := by decide +kernel
theorem dX4_entry_43 : decode cX4_entry 43 = .ok (.iadd, 1) := by decide +kernel
theorem dX4_entry_44 : decode cX4_entry 44 = .ok (.iaload, 1) := by decide +kernel
theorem dX4_entry_45 : decode cX4_entry 45 = .ok (.goto 4, 3) := by decide +kernel
theorem dX4_entry_48 : decode cX4_entry 48 = .ok (.iconst 0, 1) := by decide +kernel
theorem dX4_entry_49 : decode cX4_entry 49 = .ok (.ireturn, 1) := by decide +kernel
set_option maxRecDepth 20000 in
theorem ggX4_store_X4_isRoom : GoodIn wsX4_store wsX4_isRoom := goodIn_r _ [7] (by decide +kernel) (by decide +kernel)
set_option maxRecDepth 20000 in
theorem gX4_store_X4_isRoom : GoodIn wsX4_store (va_wsS RX4 59 yX4_isRoom wsX4_isRoom) := goodIn_app (goodIn_of _ (by decide +kernel)) ggX4_store_X4_isRoom
theorem dX4_store_0 : decode cX4_store 0 = .ok (.iload_n 1, 1) := by decide +kernel
theorem dX4_store_1 : decode cX4_store 1 = .ok (.ifCond .ne 10, 3) := by decide +kernel
theorem dX4_store_4 : decode cX4_store 4 = .ok (.aload_n 0, 1) := by decide +kernel
theorem dX4_store_5 : decode cX4_store 5 = .ok (.getfield 21, 3) := by decide +kernel
theorem dX4_store_8 : decode cX4_store 8 = .ok (.goto 19, 3) := by decide +kernel
theorem dX4_store_11 : decode cX4_store 11 = .ok (.iload_n 1, 1) := by decide +kernel
theorem dX4_store_12 : decode cX4_store 12 = .ok (.iconst 1, 1) := by decide +kernel
theorem dX4_store_13 : decode cX4_store 13 = .ok (.if_icmp .ne 10, 3) := by decide +kernel
theorem dX4_store_16 : decode cX4_store 16 = .ok (.aload_n 0, 1) := by decide +kernel
theorem dX4_store_17 : decode cX4_store 17 = .ok (.getfield 25, 3) := by decide +kernel
theorem dX4_store_20 : decode cX4_store 20 = .ok (.goto 7, 3) := by decide +kernel
theorem dX4_store_23 : decode cX4_store 23 = .ok (.aload_n 0, 1) := by decide +kernel
theorem dX4_store_24 : decode cX4_store 24 = .ok (.getfield 28, 3) := by decide +kernel
theorem dX4_store_27 : decode cX4_store 27 = .ok (.astore 5, 2) := by decide +kernel
theorem dX4_store_29 : decode cX4_store 29 = .ok (.iload_n 2, 1) := by decide +kernel
theorem dX4_store_30 : decode cX4_store 30 = .ok (.iload_n 3, 1) := by decide +kernel
theorem dX4_store_31 : decode cX4_store 31 = .ok (.invokestatic 59, 3) := by decide +kernel
theorem dX4_store_34 : decode cX4_store 34 = .ok (.ifCond .eq 13, 3) := by decide +kernel
theorem dX4_store_37 : decode cX4_store 37 = .ok (.aload 5, 2) := by decide +kernel
theorem dX4_store_39 : decode cX4_store 39 = .ok (.iload_n 2, 1) := by decide +kernel
theorem dX4_store_40 : decode cX4_store 40 = .ok (.iconst 3, 1) := by decide +kernel
theorem dX4_store_41 : decode cX4_store 41 = .ok (.imul, 1) := by decide +kernel
theorem dX4_store_42 : decode cX4_store 42 = .ok (.iload_n 3, 1) := by decide +kernel
theorem dX4_store_43 : decode cX4_store 43 = .ok (.iadd, 1) := by decide +kernel
theorem dX4_store_44 : decode cX4_store 44 = .ok (.iload 4, 2) := by decide +kernel
theorem dX4_store_46 : decode cX4_store 46 = .ok (.iastore, 1) := by decide +kernel
theorem dX4_store_47 : decode cX4_store 47 = .ok (.return_, 1) := by decide +kernel
set_option maxRecDepth 20000 in
theorem ggX4_minors_X4_entry : GoodIn wsX4_minors wsX4_entry := goodIn_r _ [5, 6, 7, 8, 9, 10, 4, 11, 20, 21, 22, 23, 24, 25, 26, 27, 28] (by decide +kernel) (by decide +kernel)
set_option maxRecDepth 20000 in
theorem gX4_minors_X4_entry : GoodIn wsX4_minors (wsV RX4 63 RX4 yX4_entry wsX4_entry) := goodIn_app (goodIn_of _ (by decide +kernel)) ggX4_minors_X4_entry
set_option maxRecDepth 20000 in
theorem ggX4_minors_X4_minor : GoodIn wsX4_minors wsX4_minor := goodIn_r _ [15, 1, 2, 3, 4, 5, 6, 7, 8, 9, 10, 11, 20, 21, 22, 23, 24, 25, 26, 27, 28] (by decide +kernel) (by decide +kernel)
set_option maxRecDepth 20000 in
theorem gX4_minors_X4_minor : GoodIn wsX4_minors (wsV RX4 67 RX4 yX4_minor wsX4_minor) := goodIn_app (goodIn_of _ (by decide +kernel)) ggX4_minors_X4_minor
set_option maxRecDepth 20000 in
theorem ggX4_minors_X4_largestMinor : GoodIn wsX4_minors wsX4_largestMinor := goodIn_r _ [19, 1, 2, 3, 4, 5, 6, 7, 8, 9, 10, 11, 20, 21, 22, 23, 24, 25, 26, 27, 28] (by decide +kernel) (by decide +kernel)
set_option maxRecDepth 20000 in
theorem gX4_minors_X4_largestMinor : GoodIn wsX4_minors (wsV RX4 71 RX4 yX4_largestMinor wsX4_largestMinor) := goodIn_app (goodIn_of _ (by decide +kernel)) ggX4_minors_X4_largestMinor
theorem dX4_minors_0 : decode cX4_minors 0 = .ok (.iload_n 2, 1) := by decide +kernel
theorem dX4_minors_1 : decode cX4_minors 1 = .ok (.tableswitch 78 0 2 #[27, 29, 54], 27) := by decide +kernel
theorem dX4_minors_28 : decode cX4_minors 28 = .ok (.lconst 1, 1) := by decide +kernel
theorem dX4_minors_29 : decode cX4_minors 29 = .ok (.lreturn, 1) := by decide +kernel
theorem dX4_minors_30 : decode cX4_minors 30 = .ok (.aload_n 0, 1) := by decide +kernel
theorem dX4_minors_31 : decode cX4_minors 31 = .ok (.iload_n 1, 1) := by decide +kernel
theorem dX4_minors_32 : decode cX4_minors 32 = .ok (.iconst 0, 1) := by decide +kernel
theorem dX4_minors_33 : decode cX4_minors 33 = .ok (.iconst 0, 1) := by decide +kernel
theorem dX4_minors_34 : decode cX4_minors 34 = .ok (.invokevirtual 63, 3) := by decide +kernel
theorem dX4_minors_37 : decode cX4_minors 37 = .ok (.aload_n 0, 1) := by decide +kernel
theorem dX4_minors_38 : decode cX4_minors 38 = .ok (.iload_n 1, 1) := by decide +kernel
theorem dX4_minors_39 : decode cX4_minors 39 = .ok (.iconst 1, 1) := by decide +kernel
theorem dX4_minors_40 : decode cX4_minors 40 = .ok (.iconst 1, 1) := by decide +kernel
theorem dX4_minors_41 : decode cX4_minors 41 = .ok (.invokevirtual 63, 3) := by decide +kernel
theorem dX4_minors_44 : decode cX4_minors 44 = .ok (.iadd, 1) := by decide +kernel
theorem dX4_minors_45 : decode cX4_minors 45 = .ok (.aload_n 0, 1) := by decide +kernel
theorem dX4_minors_46 : decode cX4_minors 46 = .ok (.iload_n 1, 1) := by decide +kernel
theorem dX4_minors_47 : decode cX4_minors 47 = .ok (.iconst 2, 1) := by decide +kernel
theorem dX4_minors_48 : decode cX4_minors 48 = .ok (.iconst 2, 1) := by decide +kernel
theorem dX4_minors_49 : decode cX4_minors 49 = .ok (.invokevirtual 63, 3) := by decide +kernel
theorem dX4_minors_52 : decode cX4_minors 52 = .ok (.iadd, 1) := by decide +kernel
theorem dX4_minors_53 : decode cX4_minors 53 = .ok (.i2l, 1) := by decide +kernel
theorem dX4_minors_54 : decode cX4_minors 54 = .ok (.lreturn, 1) := by decide +kernel
theorem dX4_minors_55 : decode cX4_minors 55 = .ok (.aload_n 0, 1) := by decide +kernel
theorem dX4_minors_56 : decode cX4_minors 56 = .ok (.iload_n 1, 1) := by decide +kernel
theorem dX4_minors_57 : decode cX4_minors 57 = .ok (.iconst 0, 1) := by decide +kernel
theorem dX4_minors_58 : decode cX4_minors 58 = .ok (.iconst 1, 1) := by decide +kernel
theorem dX4_minors_59 : decode cX4_minors 59 = .ok (.invokevirtual 67, 3) := by decide +kernel
theorem dX4_minors_62 : decode cX4_minors 62 = .ok (.aload_n 0, 1) := by decide +kernel
theorem dX4_minors_63 : decode cX4_minors 63 = .ok (.iload_n 1, 1) := by decide +kernel
theorem dX4_minors_64 : decode cX4_minors 64 = .ok (.iconst 0, 1) := by decide +kernel
theorem dX4_minors_65 : decode cX4_minors 65 = .ok (.iconst 2, 1) := by decide +kernel
theorem dX4_minors_66 : decode cX4_minors 66 = .ok (.invokevirtual 67, 3) := by decide +kernel
theorem dX4_minors_69 : decode cX4_minors 69 = .ok (.ladd, 1) := by decide +kernel
theorem dX4_minors_70 : decode cX4_minors 70 = .ok (.aload_n 0, 1) := by decide +kernel
theorem dX4_minors_71 : decode cX4_minors 71 = .ok (.iload_n 1, 1) := by decide +kernel
theorem dX4_minors_72 : decode cX4_minors 72 = .ok (.iconst 1, 1) := by decide +kernel
theorem dX4_minors_73 : decode cX4_minors 73 = .ok (.iconst 2, 1) := by decide +kernel
theorem dX4_minors_74 : decode cX4_minors 74 = .ok (.invokevirtual 67, 3) := by decide +kernel
theorem dX4_minors_77 : decode cX4_minors 77 = .ok (.ladd, 1) := by decide +kernel
theorem dX4_minors_78 : decode cX4_minors 78 = .ok (.lreturn, 1) := by decide +kernel
theorem dX4_minors_79 : decode cX4_minors 79 = .ok (.aload_n 0, 1) := by decide +kernel
theorem dX4_minors_80 : decode cX4_minors 80 = .ok (.iload_n 1, 1) := by decide +kernel
theorem dX4_minors_81 : decode cX4_minors 81 = .ok (.invokevirtual 71, 3) := by decide +kernel
theorem dX4_minors_84 : decode cX4_minors 84 = .ok (.lreturn, 1) := by decide +kernel
set_option maxRecDepth 20000 in
theorem ggX4_minor_X4_entry : GoodIn wsX4_minor wsX4_entry := goodIn_r _ [5, 6, 7, 8, 9, 10, 4, 11, 12, 13, 14, 15, 16, 17, 18, 19, 20] (by decide +kernel) (by decide +kernel)
set_option maxRecDepth 20000 in
theorem gX4_minor_X4_entry : GoodIn wsX4_minor (wsV RX4 63 RX4 yX4_entry wsX4_entry) := goodIn_app (goodIn_of _ (by decide +kernel)) ggX4_minor_X4_entry
theorem dX4_minor_0 : decode cX4_minor 0 = .ok (.aload_n 0, 1) := by decide +kernel
theorem dX4_minor_1 : decode cX4_minor 1 = .ok (.iload_n 1, 1) := by decide +kernel
theorem dX4_minor_2 : decode cX4_minor 2 = .ok (.iload_n 2, 1) := by decide +kernel
theorem dX4_minor_3 : decode cX4_minor 3 = .ok (.iload_n 2, 1) := by decide +kernel
theorem dX4_minor_4 : decode cX4_minor 4 = .ok (.invokevirtual 63, 3) := by decide +kernel
theorem dX4_minor_7 : decode cX4_minor 7 = .ok (.aload_n 0, 1) := by decide +kernel
theorem dX4_minor_8 : decode cX4_minor 8 = .ok (.iload_n 1, 1) := by decide +kernel
theorem dX4_minor_9 : decode cX4_minor 9 = .ok (.iload_n 3, 1) := by decide +kernel
theorem dX4_minor_10 : decode cX4_minor 10 = .ok (.iload_n 3, 1) := by decide +kernel
theorem dX4_minor_11 : decode cX4_minor 11 = .ok (.invokevirtual 63, 3) := by decide +kernel
theorem dX4_minor_14 : decode cX4_minor 14 = .ok (.imul, 1) := by decide +kernel
theorem dX4_minor_15 : decode cX4_minor 15 = .ok (.aload_n 0, 1) := by decide +kernel
theorem dX4_minor_16 : decode cX4_minor 16 = .ok (.iload_n 1, 1) := by decide +kernel
theorem dX4_minor_17 : decode cX4_minor 17 = .ok (.iload_n 2, 1) := by decide +kernel
theorem dX4_minor_18 : decode cX4_minor 18 = .ok (.iload_n 3, 1) := by decide +kernel
theorem dX4_minor_19 : decode cX4_minor 19 = .ok (.invokevirtual 63, 3) := by decide +kernel
theorem dX4_minor_22 : decode cX4_minor 22 = .ok (.aload_n 0, 1) := by decide +kernel
theorem dX4_minor_23 : decode cX4_minor 23 = .ok (.iload_n 1, 1) := by decide +kernel
theorem dX4_minor_24 : decode cX4_minor 24 = .ok (.iload_n 3, 1) := by decide +kernel
theorem dX4_minor_25 : decode cX4_minor 25 = .ok (.iload_n 2, 1) := by decide +kernel
theorem dX4_minor_26 : decode cX4_minor 26 = .ok (.invokevirtual 63, 3) := by decide +kernel
theorem dX4_minor_29 : decode cX4_minor 29 = .ok (.imul, 1) := by decide +kernel
theorem dX4_minor_30 : decode cX4_minor 30 = .ok (.isub, 1) := by decide +kernel
theorem dX4_minor_31 : decode cX4_minor 31 = .ok (.i2l, 1) := by decide +kernel
theorem dX4_minor_32 : decode cX4_minor 32 = .ok (.lreturn, 1) := by decide +kernel
set_option maxRecDepth 20000 in
theorem ggX4_largestMinor_X4_entry : GoodIn wsX4_largestMinor wsX4_entry := goodIn_r _ [5, 6, 7, 8, 9, 10, 4, 11, 12, 13, 14, 15, 16, 17, 18, 19, 20] (by decide +kernel) (by decide +kernel)
set_option maxRecDepth 20000 in
theorem gX4_largestMinor_X4_entry : GoodIn wsX4_largestMinor (wsV RX4 63 RX4 yX4_entry wsX4_entry) := goodIn_app (goodIn_of _ (by decide +kernel)) ggX4_largestMinor_X4_entry
theorem dX4_largestMinor_0 : decode cX4_largestMinor 0 = .ok (.lconst 0, 1) := by decide +kernel
theorem dX4_largestMinor_1 : decode cX4_largestMinor 1 = .ok (.lstore_n 2, 1) := by decide +kernel
theorem dX4_largestMinor_2 : decode cX4_largestMinor 2 = .ok (.iconst 0, 1) := by decide +kernel
theorem dX4_largestMinor_3 : decode cX4_largestMinor 3 = .ok (.istore 4, 2) := by decide +kernel
theorem dX4_largestMinor_5 : decode cX4_largestMinor 5 = .ok (.iload 4, 2) := by decide +kernel
theorem dX4_largestMinor_7 : decode cX4_largestMinor 7 = .ok (.iconst 3, 1) := by decide +kernel
theorem dX4_largestMinor_8 : decode cX4_largestMinor 8 = .ok (.if_icmp .ge 73, 3) := by decide +kernel
theorem dX4_largestMinor_11 : decode cX4_largestMinor 11 = .ok (.iload 4, 2) := by decide +kernel
theorem dX4_largestMinor_13 : decode cX4_largestMinor 13 = .ok (.iconst 1, 1) := by decide +kernel
theorem dX4_largestMinor_14 : decode cX4_largestMinor 14 = .ok (.iadd, 1) := by decide +kernel
theorem dX4_largestMinor_15 : decode cX4_largestMinor 15 = .ok (.iconst 3, 1) := by decide +kernel
theorem dX4_largestMinor_16 : decode cX4_largestMinor 16 = .ok (.irem, 1) := by decide +kernel
theorem dX4_largestMinor_17 : decode cX4_largestMinor 17 = .ok (.istore 5, 2) := by decide +kernel
theorem dX4_largestMinor_19 : decode cX4_largestMinor 19 = .ok (.iload 4, 2) := by decide +kernel
theorem dX4_largestMinor_21 : decode cX4_largestMinor 21 = .ok (.iconst 2, 1) := by decide +kernel
theorem dX4_largestMinor_22 : decode cX4_largestMinor 22 = .ok (.iadd, 1) := by decide +kernel
theorem dX4_largestMinor_23 : decode cX4_largestMinor 23 = .ok (.iconst 3, 1) := by decide +kernel
theorem dX4_largestMinor_24 : decode cX4_largestMinor 24 = .ok (.irem, 1) := by decide +kernel
theorem dX4_largestMinor_25 : decode cX4_largestMinor 25 = .ok (.istore 6, 2) := by decide +kernel
theorem dX4_largestMinor_27 : decode cX4_largestMinor 27 = .ok (.lload_n 2, 1) := by decide +kernel
theorem dX4_largestMinor_28 : decode cX4_largestMinor 28 = .ok (.aload_n 0, 1) := by decide +kernel
theorem dX4_largestMinor_29 : decode cX4_largestMinor 29 = .ok (.iload_n 1, 1) := by decide +kernel
theorem dX4_largestMinor_30 : decode cX4_largestMinor 30 = .ok (.iconst 0, 1) := by decide +kernel
theorem dX4_largestMinor_31 : decode cX4_largestMinor 31 = .ok (.iload 4, 2) := by decide +kernel
theorem dX4_largestMinor_33 : decode cX4_largestMinor 33 = .ok (.invokevirtual 63, 3) := by decide +kernel
theorem dX4_largestMinor_36 : decode cX4_largestMinor 36 = .ok (.aload_n 0, 1) := by decide +kernel
theorem dX4_largestMinor_37 : decode cX4_largestMinor 37 = .ok (.iload_n 1, 1) := by decide +kernel
theorem dX4_largestMinor_38 : decode cX4_largestMinor 38 = .ok (.iconst 1, 1) := by decide +kernel
theorem dX4_largestMinor_39 : decode cX4_largestMinor 39 = .ok (.iload 5, 2) := by decide +kernel
theorem dX4_largestMinor_41 : decode cX4_largestMinor 41 = .ok (.invokevirtual 63, 3) := by decide +kernel
theorem dX4_largestMinor_44 : decode cX4_largestMinor 44 = .ok (.aload_n 0, 1) := by decide +kernel
theorem dX4_largestMinor_45 : decode cX4_largestMinor 45 = .ok (.iload_n 1, 1) := by decide +kernel
theorem dX4_largestMinor_46 : decode cX4_largestMinor 46 = .ok (.iconst 2, 1) := by decide +kernel
theorem dX4_largestMinor_47 : decode cX4_largestMinor 47 = .ok (.iload 6, 2) := by decide +kernel
theorem dX4_largestMinor_49 : decode cX4_largestMinor 49 = .ok (.invokevirtual 63, 3) := by decide +kernel
theorem dX4_largestMinor_52 : decode cX4_largestMinor 52 = .ok (.imul, 1) := by decide +kernel
theorem dX4_largestMinor_53 : decode cX4_largestMinor 53 = .ok (.aload_n 0, 1) := by decide +kernel
theorem dX4_largestMinor_54 : decode cX4_largestMinor 54 = .ok (.iload_n 1, 1) := by decide +kernel
theorem dX4_largestMinor_55 : decode cX4_largestMinor 55 = .ok (.iconst 1, 1) := by decide +kernel
theorem dX4_largestMinor_56 : decode cX4_largestMinor 56 = .ok (.iload 6, 2) := by decide +kernel
theorem dX4_largestMinor_58 : decode cX4_largestMinor 58 = .ok (.invokevirtual 63, 3) := by decide +kernel
theorem dX4_largestMinor_61 : decode cX4_largestMinor 61 = .ok (.aload_n 0, 1) := by decide +kernel
theorem dX4_largestMinor_62 : decode cX4_largestMinor 62 = .ok (.iload_n 1, 1) := by decide +kernel
theorem dX4_largestMinor_63 : decode cX4_largestMinor 63 = .ok (.iconst 2, 1) := by decide +kernel
theorem dX4_largestMinor_64 : decode cX4_largestMinor 64 = .ok (.iload 5, 2) := by decide +kernel
theorem dX4_largestMinor_66 : decode cX4_largestMinor 66 = .ok (.invokevirtual 63, 3) := by decide +kernel
theorem dX4_largestMinor_69 : decode cX4_largestMinor 69 = .ok (.imul, 1) := by decide +kernel
theorem dX4_largestMinor_70 : decode cX4_largestMinor 70 = .ok (.isub, 1) := by decide +kernel
theorem dX4_largestMinor_71 : decode cX4_largestMinor 71 = .ok (.imul, 1) := by decide +kernel
theorem dX4_largestMinor_72 : decode cX4_largestMinor 72 = .ok (.i2l, 1) := by decide +kernel
theorem dX4_largestMinor_73 : decode cX4_largestMinor 73 = .ok (.ladd, 1) := by decide +kernel
theorem dX4_largestMinor_74 : decode cX4_largestMinor 74 = .ok (.lstore_n 2, 1) := by decide +kernel
theorem dX4_largestMinor_75 : decode cX4_largestMinor 75 = .ok (.iinc 4 1, 3) := by decide +kernel
theorem dX4_largestMinor_78 : decode cX4_largestMinor 78 = .ok (.goto (-73), 3) := by decide +kernel
theorem dX4_largestMinor_81 : decode cX4_largestMinor 81 = .ok (.lload_n 2, 1) := by decide +kernel
theorem dX4_largestMinor_82 : decode cX4_largestMinor 82 = .ok (.lreturn, 1) := by decide +kernel
set_option maxRecDepth 20000 in
theorem ggX4_draw_X4_drawTable : GoodIn wsX4_draw wsX4_drawTable := goodIn_r _ [5, 6, 7, 8, 9, 10, 4, 11, 12, 13, 14, 15, 16, 17, 18, 19, 20, 21, 22, 23, 24, 25, 26, 27, 28, 29, 30, 31, 32, 33, 34, 35, 36] (by decide +kernel) (by decide +kernel)
set_option maxRecDepth 20000 in
theorem gX4_draw_X4_drawTable : GoodIn wsX4_draw (wsV RX4 75 RX4 yX4_drawTable wsX4_drawTable) := goodIn_app (goodIn_of _ (by decide +kernel)) ggX4_draw_X4_drawTable
theorem dX4_draw_0 : decode cX4_draw 0 = .ok (.aload_n 0, 1) := by decide +kernel
theorem dX4_draw_1 : decode cX4_draw 1 = .ok (.iconst 0, 1) := by decide +kernel
theorem dX4_draw_2 : decode cX4_draw 2 = .ok (.invokevirtual 75, 3) := by decide +kernel
theorem dX4_draw_5 : decode cX4_draw 5 = .ok (.aload_n 0, 1) := by decide +kernel
theorem dX4_draw_6 : decode cX4_draw 6 = .ok (.iconst 1, 1) := by decide +kernel
theorem dX4_draw_7 : decode cX4_draw 7 = .ok (.invokevirtual 75, 3) := by decide +kernel
theorem dX4_draw_10 : decode cX4_draw 10 = .ok (.aload_n 0, 1) := by decide +kernel
theorem dX4_draw_11 : decode cX4_draw 11 = .ok (.iconst 2, 1) := by decide +kernel
theorem dX4_draw_12 : decode cX4_draw 12 = .ok (.invokevirtual 75, 3) := by decide +kernel
theorem dX4_draw_15 : decode cX4_draw 15 = .ok (.return_, 1) := by decide +kernel
set_option maxRecDepth 20000 in
theorem ggX4_drawTable_X4_rows : GoodIn wsX4_drawTable wsX4_rows := goodIn_r _ [7, 8, 9, 24, 25, 26, 27, 28, 29, 30, 31, 32] (by decide +kernel) (by decide +kernel)
set_option maxRecDepth 20000 in
theorem gX4_drawTable_X4_rows : GoodIn wsX4_drawTable (wsV RX4 52 RX4 yX4_rows wsX4_rows) := goodIn_app (goodIn_of _ (by decide +kernel)) ggX4_drawTable_X4_rows
set_option maxRecDepth 20000 in
theorem ggX4_drawTable_X4_columns : GoodIn wsX4_drawTable wsX4_columns := goodIn_r _ [13, 9, 8, 24, 25, 26, 27, 28, 29, 30, 31, 32] (by decide +kernel) (by decide +kernel)
set_option maxRecDepth 20000 in
theorem gX4_drawTable_X4_columns : GoodIn wsX4_drawTable (wsV RX4 56 RX4 yX4_columns wsX4_columns) := goodIn_app (goodIn_of _ (by decide +kernel)) ggX4_drawTable_X4_columns
set_option maxRecDepth 20000 in
theorem ggX4_drawTable_X4_store : GoodIn wsX4_drawTable wsX4_store := goodIn_r _ [17, 18, 19, 20, 21, 22, 6, 23, 24, 25, 26, 27, 28, 29, 30, 31, 32] (by decide +kernel) (by decide +kernel)
set_option maxRecDepth 20000 in
theorem gX4_drawTable_X4_store : GoodIn wsX4_drawTable (wsV RX4 80 RX4 yX4_store wsX4_store) := goodIn_app (goodIn_of _ (by decide +kernel)) ggX4_drawTable_X4_store
theorem dX4_drawTable_0 : decode cX4_drawTable 0 = .ok (.iconst 0, 1) := by decide +kernel
theorem dX4_drawTable_1 : decode cX4_drawTable 1 = .ok (.istore_n 2, 1) := by decide +kernel
theorem dX4_drawTable_2 : decode cX4_drawTable 2 = .ok (.iload_n 2, 1) := by decide +kernel
theorem dX4_drawTable_3 : decode cX4_drawTable 3 = .ok (.aload_n 0, 1) := by decide +kernel
theorem dX4_drawTable_4 : decode cX4_drawTable 4 = .ok (.iload_n 1, 1) := by decide +kernel
theorem dX4_drawTable_5 : decode cX4_drawTable 5 = .ok (.invokevirtual 52, 3) := by decide +kernel
theorem dX4_drawTable_8 : decode cX4_drawTable 8 = .ok (.if_icmp .ge 81, 3) := by decide +kernel
theorem dX4_drawTable_11 : decode cX4_drawTable 11 = .ok (.iconst 0, 1) := by decide +kernel
theorem dX4_drawTable_12 : decode cX4_drawTable 12 = .ok (.istore_n 3, 1) := by decide +kernel
theorem dX4_drawTable_13 : decode cX4_drawTable 13 = .ok (.iload_n 3, 1) := by decide +kernel
theorem dX4_drawTable_14 : decode cX4_drawTable 14 = .ok (.aload_n 0, 1) := by decide +kernel
theorem dX4_drawTable_15 : decode cX4_drawTable 15 = .ok (.iload_n 1, 1) := by decide +kernel
theorem dX4_drawTable_16 : decode cX4_drawTable 16 = .ok (.invokevirtual 56, 3) := by decide +kernel
theorem dX4_drawTable_19 : decode cX4_drawTable 19 = .ok (.if_icmp .ge 64, 3) := by decide +kernel
theorem dX4_drawTable_22 : decode cX4_drawTable 22 = .ok (.aload_n 0, 1) := by decide +kernel
theorem dX4_drawTable_23 : decode cX4_drawTable 23 = .ok (.aload_n 0, 1) := by decide +kernel
theorem dX4_drawTable_24 : decode cX4_drawTable 24 = .ok (.getfield 18, 3) := by decide +kernel
theorem dX4_drawTable_27 : decode cX4_drawTable 27 = .ok (.ldc 79, 2) := by decide +kernel
theorem dX4_drawTable_29 : decode cX4_drawTable 29 = .ok (.imul, 1) := by decide +kernel
theorem dX4_drawTable_30 : decode cX4_drawTable 30 = .ok (.sipush 12345, 3) := by decide +kernel
theorem dX4_drawTable_33 : decode cX4_drawTable 33 = .ok (.iadd, 1) := by decide +kernel
theorem dX4_drawTable_34 : decode cX4_drawTable 34 = .ok (.putfield 18, 3) := by decide +kernel
theorem dX4_drawTable_37 : decode cX4_drawTable 37 = .ok (.aload_n 0, 1) := by decide +kernel
theorem dX4_drawTable_38 : decode cX4_drawTable 38 = .ok (.iload_n 1, 1) := by decide +kernel
theorem dX4_drawTable_39 : decode cX4_drawTable 39 = .ok (.iload_n 2, 1) := by decide +kernel
theorem dX4_drawTable_40 : decode cX4_drawTable 40 = .ok (.iload_n 3, 1) := by decide +kernel
theorem dX4_drawTable_41 : decode cX4_drawTable 41 = .ok (.iload_n 1, 1) := by decide +kernel
theorem dX4_drawTable_42 : decode cX4_drawTable 42 = .ok (.iconst 2, 1) := by decide +kernel
theorem dX4_drawTable_43 : decode cX4_drawTable 43 = .ok (.if_icmp .ne 19, 3) := by decide +kernel
theorem dX4_drawTable_46 : decode cX4_drawTable 46 = .ok (.aload_n 0, 1) := by decide +kernel
theorem dX4_drawTable_47 : decode cX4_drawTable 47 = .ok (.getfield 18, 3) := by decide +kernel
theorem dX4_drawTable_50 : decode cX4_drawTable 50 = .ok (.bipush 16, 2) := by decide +kernel
theorem dX4_drawTable_52 : decode cX4_drawTable 52 = .ok (.iushr, 1) := by decide +kernel
theorem dX4_drawTable_53 : decode cX4_drawTable 53 = .ok (.bipush 101, 2) := by decide +kernel
theorem dX4_drawTable_55 : decode cX4_drawTable 55 = .ok (.irem, 1) := by decide +kernel
theorem dX4_drawTable_56 : decode cX4_drawTable 56 = .ok (.bipush 50, 2) := by decide +kernel
theorem dX4_drawTable_58 : decode cX4_drawTable 58 = .ok (.isub, 1) := by decide +kernel
theorem dX4_drawTable_59 : decode cX4_drawTable 59 = .ok (.goto 15, 3) := by decide +kernel
theorem dX4_drawTable_62 : decode cX4_drawTable 62 = .ok (.aload_n 0, 1) := by decide +kernel
theorem dX4_drawTable_63 : decode cX4_drawTable 63 = .ok (.getfield 18, 3) := by decide +kernel
theorem dX4_drawTable_66 : decode cX4_drawTable 66 = .ok (.bipush 16, 2) := by decide +kernel
theorem dX4_drawTable_68 : decode cX4_drawTable 68 = .ok (.iushr, 1) := by decide +kernel
theorem dX4_drawTable_69 : decode cX4_drawTable 69 = .ok (.bipush 11, 2) := by decide +kernel
theorem dX4_drawTable_71 : decode cX4_drawTable 71 = .ok (.irem, 1) := by decide +kernel
theorem dX4_drawTable_72 : decode cX4_drawTable 72 = .ok (.iconst 5, 1) := by decide +kernel
theorem dX4_drawTable_73 : decode cX4_drawTable 73 = .ok (.isub, 1) := by decide +kernel
theorem dX4_drawTable_74 : decode cX4_drawTable 74 = .ok (.invokevirtual 80, 3) := by decide +kernel
theorem dX4_drawTable_77 : decode cX4_drawTable 77 = .ok (.iinc 3 1, 3) := by decide +kernel
theorem dX4_drawTable_80 : decode cX4_drawTable 80 = .ok (.goto (-67), 3) := by decide +kernel
theorem dX4_drawTable_83 : decode cX4_drawTable 83 = .ok (.iinc 2 1, 3) := by decide +kernel
theorem dX4_drawTable_86 : decode cX4_drawTable 86 = .ok (.goto (-84), 3) := by decide +kernel
theorem dX4_drawTable_89 : decode cX4_drawTable 89 = .ok (.return_, 1) := by decide +kernel
theorem dX4_hasEquation_0 : decode cX4_hasEquation 0 = .ok (.iload_n 1, 1) := by decide +kernel
theorem dX4_hasEquation_1 : decode cX4_hasEquation 1 = .ok (.ifCond .lt 21, 3) := by decide +kernel
theorem dX4_hasEquation_4 : decode cX4_hasEquation 4 = .ok (.iload_n 1, 1) := by decide +kernel
theorem dX4_hasEquation_5 : decode cX4_hasEquation 5 = .ok (.aload_n 0, 1) := by decide +kernel
theorem dX4_hasEquation_6 : decode cX4_hasEquation 6 = .ok (.getfield 37, 3) := by decide +kernel
theorem dX4_hasEquation_9 : decode cX4_hasEquation 9 = .ok (.if_icmp .ge 13, 3) := by decide +kernel
theorem dX4_hasEquation_12 : decode cX4_hasEquation 12 = .ok (.iload_n 1, 1) := by decide +kernel
theorem dX4_hasEquation_13 : decode cX4_hasEquation 13 = .ok (.bipush 6, 2) := by decide +kernel
theorem dX4_hasEquation_15 : decode cX4_hasEquation 15 = .ok (.if_icmp .ge 7, 3) := by decide +kernel
theorem dX4_hasEquation_18 : decode cX4_hasEquation 18 = .ok (.iconst 1, 1) := by decide +kernel
theorem dX4_hasEquation_19 : decode cX4_hasEquation 19 = .ok (.goto 4, 3) := by decide +kernel
theorem dX4_hasEquation_22 : decode cX4_hasEquation 22 = .ok (.iconst 0, 1) := by decide +kernel
theorem dX4_hasEquation_23 : decode cX4_hasEquation 23 = .ok (.ireturn, 1) := by decide +kernel
set_option maxRecDepth 20000 in
theorem ggX4_kindOf_X4_hasEquation : GoodIn wsX4_kindOf wsX4_hasEquation := goodIn_r _ [6, 7, 8, 9, 10, 11, 12, 13, 14, 15, 16] (by decide +kernel) (by decide +kernel)
set_option maxRecDepth 20000 in
theorem gX4_kindOf_X4_hasEquation : GoodIn wsX4_kindOf (wsV RX4 84 RX4 yX4_hasEquation wsX4_hasEquation) := goodIn_app (goodIn_of _ (by decide +kernel)) ggX4_kindOf_X4_hasEquation
theorem dX4_kindOf_0 : decode cX4_kindOf 0 = .ok (.aload_n 0, 1) := by decide +kernel
theorem dX4_kindOf_1 : decode cX4_kindOf 1 = .ok (.iload_n 1, 1) := by decide +kernel
theorem dX4_kindOf_2 : decode cX4_kindOf 2 = .ok (.invokevirtual 84, 3) := by decide +kernel
theorem dX4_kindOf_5 : decode cX4_kindOf 5 = .ok (.ifCond .eq 12, 3) := by decide +kernel
theorem dX4_kindOf_8 : decode cX4_kindOf 8 = .ok (.aload_n 0, 1) := by decide +kernel
theorem dX4_kindOf_9 : decode cX4_kindOf 9 = .ok (.getfield 31, 3) := by decide +kernel
theorem dX4_kindOf_12 : decode cX4_kindOf 12 = .ok (.iload_n 1, 1) := by decide +kernel
theorem dX4_kindOf_13 : decode cX4_kindOf 13 = .ok (.iaload, 1) := by decide +kernel
theorem dX4_kindOf_14 : decode cX4_kindOf 14 = .ok (.goto 4, 3) := by decide +kernel
theorem dX4_kindOf_17 : decode cX4_kindOf 17 = .ok (.iconst 0, 1) := by decide +kernel
theorem dX4_kindOf_18 : decode cX4_kindOf 18 = .ok (.ireturn, 1) := by decide +kernel
set_option maxRecDepth 20000 in
theorem ggX4_shiftOf_X4_hasEquation : GoodIn wsX4_shiftOf wsX4_hasEquation := goodIn_r _ [6, 7, 8, 9, 10, 11, 12, 13, 14, 15, 16] (by decide +kernel) (by decide +kernel)
set_option maxRecDepth 20000 in
theorem gX4_shiftOf_X4_hasEquation : GoodIn wsX4_shiftOf (wsV RX4 84 RX4 yX4_hasEquation wsX4_hasEquation) := goodIn_app (goodIn_of _ (by decide +kernel)) ggX4_shiftOf_X4_hasEquation
theorem dX4_shiftOf_0 : decode cX4_shiftOf 0 = .ok (.aload_n 0, 1) := by decide +kernel
theorem dX4_shiftOf_1 : decode cX4_shiftOf 1 = .ok (.iload_n 1, 1) := by decide +kernel
theorem dX4_shiftOf_2 : decode cX4_shiftOf 2 = .ok (.invokevirtual 84, 3) := by decide +kernel
theorem dX4_shiftOf_5 : decode cX4_shiftOf 5 = .ok (.ifCond .eq 12, 3) := by decide +kernel
theorem dX4_shiftOf_8 : decode cX4_shiftOf 8 = .ok (.aload_n 0, 1) := by decide +kernel
theorem dX4_shiftOf_9 : decode cX4_shiftOf 9 = .ok (.getfield 34, 3) := by decide +kernel
theorem dX4_shiftOf_12 : decode cX4_shiftOf 12 = .ok (.iload_n 1, 1) := by decide +kernel
theorem dX4_shiftOf_13 : decode cX4_shiftOf 13 = .ok (.iaload, 1) := by decide +kernel
theorem dX4_shiftOf_14 : decode cX4_shiftOf 14 = .ok (.goto 4, 3) := by decide +kernel
theorem dX4_shiftOf_17 : decode cX4_shiftOf 17 = .ok (.iconst 0, 1) := by decide +kernel
theorem dX4_shiftOf_18 : decode cX4_shiftOf 18 = .ok (.ireturn, 1) := by decide +kernel
set_option maxRecDepth 20000 in
theorem ggX4_become_X4_hasEquation : GoodIn wsX4_become wsX4_hasEquation := goodIn_r _ [7, 8, 9, 10, 11, 12, 13, 14, 15, 16, 17] (by decide +kernel) (by decide +kernel)
set_option maxRecDepth 20000 in
theorem gX4_become_X4_hasEquation : GoodIn wsX4_become (wsV RX4 84 RX4 yX4_hasEquation wsX4_hasEquation) := goodIn_app (goodIn_of _ (by decide +kernel)) ggX4_become_X4_hasEquation
theorem dX4_become_0 : decode cX4_become 0 = .ok (.aload_n 0, 1) := by decide +kernel
theorem dX4_become_1 : decode cX4_become 1 = .ok (.iload_n 1, 1) := by decide +kernel
theorem dX4_become_2 : decode cX4_become 2 = .ok (.invokevirtual 84, 3) := by decide +kernel
theorem dX4_become_5 : decode cX4_become 5 = .ok (.ifCond .eq 17, 3) := by decide +kernel
theorem dX4_become_8 : decode cX4_become 8 = .ok (.aload_n 0, 1) := by decide +kernel
theorem dX4_become_9 : decode cX4_become 9 = .ok (.getfield 31, 3) := by decide +kernel
theorem dX4_become_12 : decode cX4_become 12 = .ok (.iload_n 1, 1) := by decide +kernel
theorem dX4_become_13 : decode cX4_become 13 = .ok (.iload_n 2, 1) := by decide +kernel
theorem dX4_become_14 : decode cX4_become 14 = .ok (.iastore, 1) := by decide +kernel
theorem dX4_become_15 : decode cX4_become 15 = .ok (.aload_n 0, 1) := by decide +kernel
theorem dX4_become_16 : decode cX4_become 16 = .ok (.getfield 34, 3) := by decide +kernel
theorem dX4_become_19 : decode cX4_become 19 = .ok (.iload_n 1, 1) := by decide +kernel
theorem dX4_become_20 : decode cX4_become 20 = .ok (.iload_n 3, 1) := by decide +kernel
theorem dX4_become_21 : decode cX4_become 21 = .ok (.iastore, 1) := by decide +kernel
theorem dX4_become_22 : decode cX4_become 22 = .ok (.return_, 1) := by decide +kernel
theorem dX4_hasRight_0 : decode cX4_hasRight 0 = .ok (.iload_n 1, 1) := by decide +kernel
theorem dX4_hasRight_1 : decode cX4_hasRight 1 = .ok (.ifCond .eq 19, 3) := by decide +kernel
theorem dX4_hasRight_4 : decode cX4_hasRight 4 = .ok (.iload_n 1, 1) := by decide +kernel
theorem dX4_hasRight_5 : decode cX4_hasRight 5 = .ok (.iconst 1, 1) := by decide +kernel
theorem dX4_hasRight_6 : decode cX4_hasRight 6 = .ok (.if_icmp .eq 14, 3) := by decide +kernel
theorem dX4_hasRight_9 : decode cX4_hasRight 9 = .ok (.aload_n 0, 1) := by decide +kernel
theorem dX4_hasRight_10 : decode cX4_hasRight 10 = .ok (.getfield 9, 3) := by decide +kernel
theorem dX4_hasRight_13 : decode cX4_hasRight 13 = .ok (.aload_n 0, 1) := by decide +kernel
theorem dX4_hasRight_14 : decode cX4_hasRight 14 = .ok (.getfield 15, 3) := by decide +kernel
theorem dX4_hasRight_17 : decode cX4_hasRight 17 = .ok (.if_icmp .ne 7, 3) := by decide +kernel
theorem dX4_hasRight_20 : decode cX4_hasRight 20 = .ok (.iconst 1, 1) := by decide +kernel
theorem dX4_hasRight_21 : decode cX4_hasRight 21 = .ok (.goto 4, 3) := by decide +kernel
theorem dX4_hasRight_24 : decode cX4_hasRight 24 = .ok (.iconst 0, 1) := by decide +kernel
theorem dX4_hasRight_25 : decode cX4_hasRight 25 = .ok (.ireturn, 1) := by decide +kernel
set_option maxRecDepth 20000 in
theorem ggX4_fits_X4_hasRight : GoodIn wsX4_fits wsX4_hasRight := goodIn_r _ [5, 6, 7, 12, 13, 14, 15, 16, 17, 18, 19, 20] (by decide +kernel) (by decide +kernel)
set_option maxRecDepth 20000 in
theorem gX4_fits_X4_hasRight : GoodIn wsX4_fits (wsV RX4 88 RX4 yX4_hasRight wsX4_hasRight) := goodIn_app (goodIn_of _ (by decide +kernel)) ggX4_fits_X4_hasRight
set_option maxRecDepth 20000 in
theorem ggX4_fits_X4_unknowns : GoodIn wsX4_fits wsX4_unknowns := goodIn_r _ [11, 6, 7, 12, 13, 14, 15, 16, 17, 18, 19, 20] (by decide +kernel) (by decide +kernel)
set_option maxRecDepth 20000 in
theorem gX4_fits_X4_unknowns : GoodIn wsX4_fits (wsV RX4 91 RX4 yX4_unknowns wsX4_unknowns) := goodIn_app (goodIn_of _ (by decide +kernel)) ggX4_fits_X4_unknowns
theorem dX4_fits_0 : decode cX4_fits 0 = .ok (.aload_n 0, 1) := by decide +kernel
theorem dX4_fits_1 : decode cX4_fits 1 = .ok (.iload_n 1, 1) := by decide +kernel
theorem dX4_fits_2 : decode cX4_fits 2 = .ok (.invokevirtual 88, 3) := by decide +kernel
theorem dX4_fits_5 : decode cX4_fits 5 = .ok (.ifCond .eq 17, 3) := by decide +kernel
theorem dX4_fits_8 : decode cX4_fits 8 = .ok (.aload_n 0, 1) := by decide +kernel
theorem dX4_fits_9 : decode cX4_fits 9 = .ok (.iload_n 1, 1) := by decide +kernel
theorem dX4_fits_10 : decode cX4_fits 10 = .ok (.invokevirtual 91, 3) := by decide +kernel
theorem dX4_fits_13 : decode cX4_fits 13 = .ok (.bipush 6, 2) := by decide +kernel
theorem dX4_fits_15 : decode cX4_fits 15 = .ok (.if_icmp .gt 7, 3) := by decide +kernel
theorem dX4_fits_18 : decode cX4_fits 18 = .ok (.iconst 1, 1) := by decide +kernel
theorem dX4_fits_19 : decode cX4_fits 19 = .ok (.goto 4, 3) := by decide +kernel
theorem dX4_fits_22 : decode cX4_fits 22 = .ok (.iconst 0, 1) := by decide +kernel
theorem dX4_fits_23 : decode cX4_fits 23 = .ok (.ireturn, 1) := by decide +kernel
set_option maxRecDepth 20000 in
theorem ggX4_fittingSet_X4_kindOf : GoodIn wsX4_fittingSet wsX4_kindOf := goodIn_r _ [6, 7, 8, 9, 10, 5, 11, 1, 26, 27, 28, 29, 30, 31, 32, 33, 34] (by decide +kernel) (by decide +kernel)
set_option maxRecDepth 20000 in
theorem gX4_fittingSet_X4_kindOf : GoodIn wsX4_fittingSet (wsV RX4 94 RX4 yX4_kindOf wsX4_kindOf) := goodIn_app (goodIn_of _ (by decide +kernel)) ggX4_fittingSet_X4_kindOf
set_option maxRecDepth 20000 in
theorem ggX4_fittingSet_X4_fits : GoodIn wsX4_fittingSet wsX4_fits := goodIn_r _ [15, 16, 17, 18, 5, 19, 20, 21, 22, 23, 24, 25, 26, 27, 28, 29, 30, 31, 32, 33, 34] (by decide +kernel) (by decide +kernel)
set_option maxRecDepth 20000 in
theorem gX4_fittingSet_X4_fits : GoodIn wsX4_fittingSet (wsV RX4 97 RX4 yX4_fits wsX4_fits) := goodIn_app (goodIn_of _ (by decide +kernel)) ggX4_fittingSet_X4_fits
theorem dX4_fittingSet_0 : decode cX4_fittingSet 0 = .ok (.iconst 0, 1) := by decide +kernel
theorem dX4_fittingSet_1 : decode cX4_fittingSet 1 = .ok (.istore_n 1, 1) := by decide +kernel
theorem dX4_fittingSet_2 : decode cX4_fittingSet 2 = .ok (.iconst 0, 1) := by decide +kernel
theorem dX4_fittingSet_3 : decode cX4_fittingSet 3 = .ok (.istore_n 2, 1) := by decide +kernel
theorem dX4_fittingSet_4 : decode cX4_fittingSet 4 = .ok (.iload_n 2, 1) := by decide +kernel
theorem dX4_fittingSet_5 : decode cX4_fittingSet 5 = .ok (.aload_n 0, 1) := by decide +kernel
theorem dX4_fittingSet_6 : decode cX4_fittingSet 6 = .ok (.getfield 37, 3) := by decide +kernel
theorem dX4_fittingSet_9 : decode cX4_fittingSet 9 = .ok (.if_icmp .ge 31, 3) := by decide +kernel
theorem dX4_fittingSet_12 : decode cX4_fittingSet 12 = .ok (.iload_n 1, 1) := by decide +kernel
theorem dX4_fittingSet_13 : decode cX4_fittingSet 13 = .ok (.aload_n 0, 1) := by decide +kernel
theorem dX4_fittingSet_14 : decode cX4_fittingSet 14 = .ok (.aload_n 0, 1) := by decide +kernel
theorem dX4_fittingSet_15 : decode cX4_fittingSet 15 = .ok (.iload_n 2, 1) := by decide +kernel
theorem dX4_fittingSet_16 : decode cX4_fittingSet 16 = .ok (.invokevirtual 94, 3) := by decide +kernel
theorem dX4_fittingSet_19 : decode cX4_fittingSet 19 = .ok (.invokevirtual 97, 3) := by decide +kernel
theorem dX4_fittingSet_22 : decode cX4_fittingSet 22 = .ok (.ifCond .eq 9, 3) := by decide +kernel
theorem dX4_fittingSet_25 : decode cX4_fittingSet 25 = .ok (.iconst 1, 1) := by decide +kernel
theorem dX4_fittingSet_26 : decode cX4_fittingSet 26 = .ok (.iload_n 2, 1) := by decide +kernel
theorem dX4_fittingSet_27 : decode cX4_fittingSet 27 = .ok (.ishl, 1) := by decide +kernel
theorem dX4_fittingSet_28 : decode cX4_fittingSet 28 = .ok (.goto 4, 3) := by decide +kernel
theorem dX4_fittingSet_31 : decode cX4_fittingSet 31 = .ok (.iconst 0, 1) := by decide +kernel
theorem dX4_fittingSet_32 : decode cX4_fittingSet 32 = .ok (.ior, 1) := by decide +kernel
theorem dX4_fittingSet_33 : decode cX4_fittingSet 33 = .ok (.istore_n 1, 1) := by decide +kernel
theorem dX4_fittingSet_34 : decode cX4_fittingSet 34 = .ok (.iinc 2 1, 3) := by decide +kernel
theorem dX4_fittingSet_37 : decode cX4_fittingSet 37 = .ok (.goto (-33), 3) := by decide +kernel
theorem dX4_fittingSet_40 : decode cX4_fittingSet 40 = .ok (.iload_n 1, 1) := by decide +kernel
theorem dX4_fittingSet_41 : decode cX4_fittingSet 41 = .ok (.ireturn, 1) := by decide +kernel
set_option maxRecDepth 20000 in
theorem ggX4_splits_X4_entry : GoodIn wsX4_splits wsX4_entry := goodIn_r _ [6, 7, 8, 9, 10, 11, 5, 12, 13, 14, 15, 16, 17, 18, 19, 20, 21] (by decide +kernel) (by decide +kernel)
set_option maxRecDepth 20000 in
theorem gX4_splits_X4_entry : GoodIn wsX4_splits (wsV RX4 63 RX4 yX4_entry wsX4_entry) := goodIn_app (goodIn_of _ (by decide +kernel)) ggX4_splits_X4_entry
theorem dX4_splits_0 : decode cX4_splits 0 = .ok (.iload_n 1, 1) := by decide +kernel
theorem dX4_splits_1 : decode cX4_splits 1 = .ok (.iconst 1, 1) := by decide +kernel
theorem dX4_splits_2 : decode cX4_splits 2 = .ok (.if_icmp .lt 11, 3) := by decide +kernel
theorem dX4_splits_5 : decode cX4_splits 5 = .ok (.iload_n 1, 1) := by decide +kernel
theorem dX4_splits_6 : decode cX4_splits 6 = .ok (.aload_n 0, 1) := by decide +kernel
theorem dX4_splits_7 : decode cX4_splits 7 = .ok (.getfield 9, 3) := by decide +kernel
theorem dX4_splits_10 : decode cX4_splits 10 = .ok (.if_icmp .lt 5, 3) := by decide +kernel
theorem dX4_splits_13 : decode cX4_splits 13 = .ok (.iconst 0, 1) := by decide +kernel
theorem dX4_splits_14 : decode cX4_splits 14 = .ok (.ireturn, 1) := by decide +kernel
theorem dX4_splits_15 : decode cX4_splits 15 = .ok (.iload_n 1, 1) := by decide +kernel
theorem dX4_splits_16 : decode cX4_splits 16 = .ok (.istore_n 2, 1) := by decide +kernel
theorem dX4_splits_17 : decode cX4_splits 17 = .ok (.iload_n 2, 1) := by decide +kernel
theorem dX4_splits_18 : decode cX4_splits 18 = .ok (.aload_n 0, 1) := by decide +kernel
theorem dX4_splits_19 : decode cX4_splits 19 = .ok (.getfield 9, 3) := by decide +kernel
theorem dX4_splits_22 : decode cX4_splits 22 = .ok (.if_icmp .ge 34, 3) := by decide +kernel
theorem dX4_splits_25 : decode cX4_splits 25 = .ok (.iconst 0, 1) := by decide +kernel
theorem dX4_splits_26 : decode cX4_splits 26 = .ok (.istore_n 3, 1) := by decide +kernel
theorem dX4_splits_27 : decode cX4_splits 27 = .ok (.iload_n 3, 1) := by decide +kernel
theorem dX4_splits_28 : decode cX4_splits 28 = .ok (.iload_n 1, 1) := by decide +kernel
theorem dX4_splits_29 : decode cX4_splits 29 = .ok (.if_icmp .ge 21, 3) := by decide +kernel
theorem dX4_splits_32 : decode cX4_splits 32 = .ok (.aload_n 0, 1) := by decide +kernel
theorem dX4_splits_33 : decode cX4_splits 33 = .ok (.iconst 0, 1) := by decide +kernel
theorem dX4_splits_34 : decode cX4_splits 34 = .ok (.iload_n 2, 1) := by decide +kernel
theorem dX4_splits_35 : decode cX4_splits 35 = .ok (.iload_n 3, 1) := by decide +kernel
theorem dX4_splits_36 : decode cX4_splits 36 = .ok (.invokevirtual 63, 3) := by decide +kernel
theorem dX4_splits_39 : decode cX4_splits 39 = .ok (.ifCond .eq 5, 3) := by decide +kernel
theorem dX4_splits_42 : decode cX4_splits 42 = .ok (.iconst 0, 1) := by decide +kernel
theorem dX4_splits_43 : decode cX4_splits 43 = .ok (.ireturn, 1) := by decide +kernel
theorem dX4_splits_44 : decode cX4_splits 44 = .ok (.iinc 3 1, 3) := by decide +kernel
theorem dX4_splits_47 : decode cX4_splits 47 = .ok (.goto (-20), 3) := by decide +kernel
theorem dX4_splits_50 : decode cX4_splits 50 = .ok (.iinc 2 1, 3) := by decide +kernel
theorem dX4_splits_53 : decode cX4_splits 53 = .ok (.goto (-36), 3) := by decide +kernel
theorem dX4_splits_56 : decode cX4_splits 56 = .ok (.iconst 1, 1) := by decide +kernel
theorem dX4_splits_57 : decode cX4_splits 57 = .ok (.ireturn, 1) := by decide +kernel
set_option maxRecDepth 20000 in
theorem ggX4_splitSet_X4_splits : GoodIn wsX4_splitSet wsX4_splits := goodIn_r _ [6, 1, 7, 8, 9, 5, 10, 11, 12, 13, 14, 15, 16, 17, 18, 19, 20, 21, 22, 23, 24, 25] (by decide +kernel) (by decide +kernel)
set_option maxRecDepth 20000 in
theorem gX4_splitSet_X4_splits : GoodIn wsX4_splitSet (wsV RX4 100 RX4 yX4_splits wsX4_splits) := goodIn_app (goodIn_of _ (by decide +kernel)) ggX4_splitSet_X4_splits
theorem dX4_splitSet_0 : decode cX4_splitSet 0 = .ok (.iconst 0, 1) := by decide +kernel
theorem dX4_splitSet_1 : decode cX4_splitSet 1 = .ok (.istore_n 1, 1) := by decide +kernel
theorem dX4_splitSet_2 : decode cX4_splitSet 2 = .ok (.iconst 1, 1) := by decide +kernel
theorem dX4_splitSet_3 : decode cX4_splitSet 3 = .ok (.istore_n 2, 1) := by decide +kernel
theorem dX4_splitSet_4 : decode cX4_splitSet 4 = .ok (.iload_n 2, 1) := by decide +kernel
theorem dX4_splitSet_5 : decode cX4_splitSet 5 = .ok (.aload_n 0, 1) := by decide +kernel
theorem dX4_splitSet_6 : decode cX4_splitSet 6 = .ok (.getfield 9, 3) := by decide +kernel
theorem dX4_splitSet_9 : decode cX4_splitSet 9 = .ok (.if_icmp .ge 27, 3) := by decide +kernel
theorem dX4_splitSet_12 : decode cX4_splitSet 12 = .ok (.iload_n 1, 1) := by decide +kernel
theorem dX4_splitSet_13 : decode cX4_splitSet 13 = .ok (.aload_n 0, 1) := by decide +kernel
theorem dX4_splitSet_14 : decode cX4_splitSet 14 = .ok (.iload_n 2, 1) := by decide +kernel
theorem dX4_splitSet_15 : decode cX4_splitSet 15 = .ok (.invokevirtual 100, 3) := by decide +kernel
theorem dX4_splitSet_18 : decode cX4_splitSet 18 = .ok (.ifCond .eq 9, 3) := by decide +kernel
theorem dX4_splitSet_21 : decode cX4_splitSet 21 = .ok (.iconst 1, 1) := by decide +kernel
theorem dX4_splitSet_22 : decode cX4_splitSet 22 = .ok (.iload_n 2, 1) := by decide +kernel
theorem dX4_splitSet_23 : decode cX4_splitSet 23 = .ok (.ishl, 1) := by decide +kernel
theorem dX4_splitSet_24 : decode cX4_splitSet 24 = .ok (.goto 4, 3) := by decide +kernel
theorem dX4_splitSet_27 : decode cX4_splitSet 27 = .ok (.iconst 0, 1) := by decide +kernel
theorem dX4_splitSet_28 : decode cX4_splitSet 28 = .ok (.ior, 1) := by decide +kernel
theorem dX4_splitSet_29 : decode cX4_splitSet 29 = .ok (.istore_n 1, 1) := by decide +kernel
theorem dX4_splitSet_30 : decode cX4_splitSet 30 = .ok (.iinc 2 1, 3) := by decide +kernel
theorem dX4_splitSet_33 : decode cX4_splitSet 33 = .ok (.goto (-29), 3) := by decide +kernel
theorem dX4_splitSet_36 : decode cX4_splitSet 36 = .ok (.iload_n 1, 1) := by decide +kernel
theorem dX4_splitSet_37 : decode cX4_splitSet 37 = .ok (.ireturn, 1) := by decide +kernel
set_option maxRecDepth 20000 in
theorem ggX4_leftEntry_X4_entry : GoodIn wsX4_leftEntry wsX4_entry := goodIn_r _ [5, 6, 7, 8, 9, 10, 4, 11, 12, 13, 14, 15, 16, 17, 18, 19, 20] (by decide +kernel) (by decide +kernel)
set_option maxRecDepth 20000 in
theorem gX4_leftEntry_X4_entry : GoodIn wsX4_leftEntry (wsV RX4 63 RX4 yX4_entry wsX4_entry) := goodIn_app (goodIn_of _ (by decide +kernel)) ggX4_leftEntry_X4_entry
theorem dX4_leftEntry_0 : decode cX4_leftEntry 0 = .ok (.aload_n 0, 1) := by decide +kernel
theorem dX4_leftEntry_1 : decode cX4_leftEntry 1 = .ok (.iconst 0, 1) := by decide +kernel
theorem dX4_leftEntry_2 : decode cX4_leftEntry 2 = .ok (.iload_n 2, 1) := by decide +kernel
theorem dX4_leftEntry_3 : decode cX4_leftEntry 3 = .ok (.iload_n 3, 1) := by decide +kernel
theorem dX4_leftEntry_4 : decode cX4_leftEntry 4 = .ok (.invokevirtual 63, 3) := by decide +kernel
theorem dX4_leftEntry_7 : decode cX4_leftEntry 7 = .ok (.iload_n 2, 1) := by decide +kernel
theorem dX4_leftEntry_8 : decode cX4_leftEntry 8 = .ok (.iload_n 3, 1) := by decide +kernel
theorem dX4_leftEntry_9 : decode cX4_leftEntry 9 = .ok (.if_icmp .ne 7, 3) := by decide +kernel
theorem dX4_leftEntry_12 : decode cX4_leftEntry 12 = .ok (.iload_n 1, 1) := by decide +kernel
theorem dX4_leftEntry_13 : decode cX4_leftEntry 13 = .ok (.goto 4, 3) := by decide +kernel
theorem dX4_leftEntry_16 : decode cX4_leftEntry 16 = .ok (.iconst 0, 1) := by decide +kernel
theorem dX4_leftEntry_17 : decode cX4_leftEntry 17 = .ok (.iadd, 1) := by decide +kernel
theorem dX4_leftEntry_18 : decode cX4_leftEntry 18 = .ok (.ireturn, 1) := by decide +kernel
set_option maxRecDepth 20000 in
theorem ggX4_rightEntry_X4_entry : GoodIn wsX4_rightEntry wsX4_entry := goodIn_r _ [5, 6, 7, 8, 9, 10, 4, 11, 12, 13, 14, 15, 16, 17, 18, 19, 20] (by decide +kernel) (by decide +kernel)
set_option maxRecDepth 20000 in
theorem gX4_rightEntry_X4_entry : GoodIn wsX4_rightEntry (wsV RX4 63 RX4 yX4_entry wsX4_entry) := goodIn_app (goodIn_of _ (by decide +kernel)) ggX4_rightEntry_X4_entry
theorem dX4_rightEntry_0 : decode cX4_rightEntry 0 = .ok (.iload_n 1, 1) := by decide +kernel
theorem dX4_rightEntry_1 : decode cX4_rightEntry 1 = .ok (.tableswitch 54 0 4 #[35, 43, 45, 54, 45], 35) := by decide +kernel
theorem dX4_rightEntry_36 : decode cX4_rightEntry 36 = .ok (.aload_n 0, 1) := by decide +kernel
theorem dX4_rightEntry_37 : decode cX4_rightEntry 37 = .ok (.iconst 1, 1) := by decide +kernel
theorem dX4_rightEntry_38 : decode cX4_rightEntry 38 = .ok (.iload_n 2, 1) := by decide +kernel
theorem dX4_rightEntry_39 : decode cX4_rightEntry 39 = .ok (.iload_n 3, 1) := by decide +kernel
theorem dX4_rightEntry_40 : decode cX4_rightEntry 40 = .ok (.invokevirtual 63, 3) := by decide +kernel
theorem dX4_rightEntry_43 : decode cX4_rightEntry 43 = .ok (.ireturn, 1) := by decide +kernel
theorem dX4_rightEntry_44 : decode cX4_rightEntry 44 = .ok (.iconst 0, 1) := by decide +kernel
theorem dX4_rightEntry_45 : decode cX4_rightEntry 45 = .ok (.ireturn, 1) := by decide +kernel
theorem dX4_rightEntry_46 : decode cX4_rightEntry 46 = .ok (.aload_n 0, 1) := by decide +kernel
theorem dX4_rightEntry_47 : decode cX4_rightEntry 47 = .ok (.iconst 0, 1) := by decide +kernel
theorem dX4_rightEntry_48 : decode cX4_rightEntry 48 = .ok (.iload_n 2, 1) := by decide +kernel
theorem dX4_rightEntry_49 : decode cX4_rightEntry 49 = .ok (.iload_n 3, 1) := by decide +kernel
theorem dX4_rightEntry_50 : decode cX4_rightEntry 50 = .ok (.invokevirtual 63, 3) := by decide +kernel
theorem dX4_rightEntry_53 : decode cX4_rightEntry 53 = .ok (.ineg, 1) := by decide +kernel
theorem dX4_rightEntry_54 : decode cX4_rightEntry 54 = .ok (.ireturn, 1) := by decide +kernel
theorem dX4_rightEntry_55 : decode cX4_rightEntry 55 = .ok (.aload_n 0, 1) := by decide +kernel
theorem dX4_rightEntry_56 : decode cX4_rightEntry 56 = .ok (.iconst 0, 1) := by decide +kernel
theorem dX4_rightEntry_57 : decode cX4_rightEntry 57 = .ok (.iload_n 3, 1) := by decide +kernel
theorem dX4_rightEntry_58 : decode cX4_rightEntry 58 = .ok (.iload_n 2, 1) := by decide +kernel
theorem dX4_rightEntry_59 : decode cX4_rightEntry 59 = .ok (.invokevirtual 63, 3) := by decide +kernel
theorem dX4_rightEntry_62 : decode cX4_rightEntry 62 = .ok (.ireturn, 1) := by decide +kernel
theorem dX4_unknowns_0 : decode cX4_unknowns 0 = .ok (.iload_n 1, 1) := by decide +kernel
theorem dX4_unknowns_1 : decode cX4_unknowns 1 = .ok (.tableswitch 60 4 6 #[27, 32, 46], 27) := by decide +kernel
theorem dX4_unknowns_28 : decode cX4_unknowns 28 = .ok (.aload_n 0, 1) := by decide +kernel
theorem dX4_unknowns_29 : decode cX4_unknowns 29 = .ok (.getfield 9, 3) := by decide +kernel
theorem dX4_unknowns_32 : decode cX4_unknowns 32 = .ok (.ireturn, 1) := by decide +kernel
theorem dX4_unknowns_33 : decode cX4_unknowns 33 = .ok (.aload_n 0, 1) := by decide +kernel
theorem dX4_unknowns_34 : decode cX4_unknowns 34 = .ok (.getfield 9, 3) := by decide +kernel
theorem dX4_unknowns_37 : decode cX4_unknowns 37 = .ok (.aload_n 0, 1) := by decide +kernel
theorem dX4_unknowns_38 : decode cX4_unknowns 38 = .ok (.getfield 9, 3) := by decide +kernel
theorem dX4_unknowns_41 : decode cX4_unknowns 41 = .ok (.iconst 1, 1) := by decide +kernel
theorem dX4_unknowns_42 : decode cX4_unknowns 42 = .ok (.iadd, 1) := by decide +kernel
theorem dX4_unknowns_43 : decode cX4_unknowns 43 = .ok (.imul, 1) := by decide +kernel
theorem dX4_unknowns_44 : decode cX4_unknowns 44 = .ok (.iconst 2, 1) := by decide +kernel
theorem dX4_unknowns_45 : decode cX4_unknowns 45 = .ok (.idiv, 1) := by decide +kernel
theorem dX4_unknowns_46 : decode cX4_unknowns 46 = .ok (.ireturn, 1) := by decide +kernel
theorem dX4_unknowns_47 : decode cX4_unknowns 47 = .ok (.aload_n 0, 1) := by decide +kernel
theorem dX4_unknowns_48 : decode cX4_unknowns 48 = .ok (.getfield 9, 3) := by decide +kernel
theorem dX4_unknowns_51 : decode cX4_unknowns 51 = .ok (.aload_n 0, 1) := by decide +kernel
theorem dX4_unknowns_52 : decode cX4_unknowns 52 = .ok (.getfield 9, 3) := by decide +kernel
theorem dX4_unknowns_55 : decode cX4_unknowns 55 = .ok (.iconst 1, 1) := by decide +kernel
theorem dX4_unknowns_56 : decode cX4_unknowns 56 = .ok (.isub, 1) := by decide +kernel
theorem dX4_unknowns_57 : decode cX4_unknowns 57 = .ok (.imul, 1) := by decide +kernel
theorem dX4_unknowns_58 : decode cX4_unknowns 58 = .ok (.iconst 2, 1) := by decide +kernel
theorem dX4_unknowns_59 : decode cX4_unknowns 59 = .ok (.idiv, 1) := by decide +kernel
theorem dX4_unknowns_60 : decode cX4_unknowns 60 = .ok (.ireturn, 1) := by decide +kernel
theorem dX4_unknowns_61 : decode cX4_unknowns 61 = .ok (.aload_n 0, 1) := by decide +kernel
theorem dX4_unknowns_62 : decode cX4_unknowns 62 = .ok (.getfield 9, 3) := by decide +kernel
theorem dX4_unknowns_65 : decode cX4_unknowns 65 = .ok (.aload_n 0, 1) := by decide +kernel
theorem dX4_unknowns_66 : decode cX4_unknowns 66 = .ok (.getfield 15, 3) := by decide +kernel
theorem dX4_unknowns_69 : decode cX4_unknowns 69 = .ok (.imul, 1) := by decide +kernel
theorem dX4_unknowns_70 : decode cX4_unknowns 70 = .ok (.ireturn, 1) := by decide +kernel
theorem dX4_signAt_0 : decode cX4_signAt 0 = .ok (.iload_n 1, 1) := by decide +kernel
theorem dX4_signAt_1 : decode cX4_signAt 1 = .ok (.iconst 4, 1) := by decide +kernel
theorem dX4_signAt_2 : decode cX4_signAt 2 = .ok (.if_icmp .ne 14, 3) := by decide +kernel
theorem dX4_signAt_5 : decode cX4_signAt 5 = .ok (.iload_n 2, 1) := by decide +kernel
theorem dX4_signAt_6 : decode cX4_signAt 6 = .ok (.iload_n 3, 1) := by decide +kernel
theorem dX4_signAt_7 : decode cX4_signAt 7 = .ok (.if_icmp .ne 7, 3) := by decide +kernel
theorem dX4_signAt_10 : decode cX4_signAt 10 = .ok (.iconst 1, 1) := by decide +kernel
theorem dX4_signAt_11 : decode cX4_signAt 11 = .ok (.goto 4, 3) := by decide +kernel
theorem dX4_signAt_14 : decode cX4_signAt 14 = .ok (.iconst 0, 1) := by decide +kernel
theorem dX4_signAt_15 : decode cX4_signAt 15 = .ok (.ireturn, 1) := by decide +kernel
theorem dX4_signAt_16 : decode cX4_signAt 16 = .ok (.iload_n 1, 1) := by decide +kernel
theorem dX4_signAt_17 : decode cX4_signAt 17 = .ok (.bipush 6, 2) := by decide +kernel
theorem dX4_signAt_19 : decode cX4_signAt 19 = .ok (.if_icmp .ne 23, 3) := by decide +kernel
theorem dX4_signAt_22 : decode cX4_signAt 22 = .ok (.iload_n 2, 1) := by decide +kernel
theorem dX4_signAt_23 : decode cX4_signAt 23 = .ok (.iload_n 3, 1) := by decide +kernel
theorem dX4_signAt_24 : decode cX4_signAt 24 = .ok (.if_icmp .ne 7, 3) := by decide +kernel
theorem dX4_signAt_27 : decode cX4_signAt 27 = .ok (.iconst 0, 1) := by decide +kernel
theorem dX4_signAt_28 : decode cX4_signAt 28 = .ok (.goto 13, 3) := by decide +kernel
theorem dX4_signAt_31 : decode cX4_signAt 31 = .ok (.iload_n 2, 1) := by decide +kernel
theorem dX4_signAt_32 : decode cX4_signAt 32 = .ok (.iload_n 3, 1) := by decide +kernel
theorem dX4_signAt_33 : decode cX4_signAt 33 = .ok (.if_icmp .ge 7, 3) := by decide +kernel
theorem dX4_signAt_36 : decode cX4_signAt 36 = .ok (.iconst 1, 1) := by decide +kernel
theorem dX4_signAt_37 : decode cX4_signAt 37 = .ok (.goto 4, 3) := by decide +kernel
theorem dX4_signAt_40 : decode cX4_signAt 40 = .ok (.iconst (-1), 1) := by decide +kernel
theorem dX4_signAt_41 : decode cX4_signAt 41 = .ok (.ireturn, 1) := by decide +kernel
theorem dX4_signAt_42 : decode cX4_signAt 42 = .ok (.iconst 1, 1) := by decide +kernel
theorem dX4_signAt_43 : decode cX4_signAt 43 = .ok (.ireturn, 1) := by decide +kernel
theorem dX4_unknownAt_0 : decode cX4_unknownAt 0 = .ok (.iload_n 2, 1) := by decide +kernel
theorem dX4_unknownAt_1 : decode cX4_unknownAt 1 = .ok (.iload_n 3, 1) := by decide +kernel
theorem dX4_unknownAt_2 : decode cX4_unknownAt 2 = .ok (.invokestatic 103, 3) := by decide +kernel
theorem dX4_unknownAt_5 : decode cX4_unknownAt 5 = .ok (.istore 4, 2) := by decide +kernel
theorem dX4_unknownAt_7 : decode cX4_unknownAt 7 = .ok (.iload_n 2, 1) := by decide +kernel
theorem dX4_unknownAt_8 : decode cX4_unknownAt 8 = .ok (.iload_n 3, 1) := by decide +kernel
theorem dX4_unknownAt_9 : decode cX4_unknownAt 9 = .ok (.invokestatic 109, 3) := by decide +kernel
theorem dX4_unknownAt_12 : decode cX4_unknownAt 12 = .ok (.istore 5, 2) := by decide +kernel
theorem dX4_unknownAt_14 : decode cX4_unknownAt 14 = .ok (.iload_n 1, 1) := by decide +kernel
theorem dX4_unknownAt_15 : decode cX4_unknownAt 15 = .ok (.tableswitch 77 4 6 #[25, 27, 51], 25) := by decide +kernel
theorem dX4_unknownAt_40 : decode cX4_unknownAt 40 = .ok (.iload_n 2, 1) := by decide +kernel
theorem dX4_unknownAt_41 : decode cX4_unknownAt 41 = .ok (.ireturn, 1) := by decide +kernel
theorem dX4_unknownAt_42 : decode cX4_unknownAt 42 = .ok (.iload 4, 2) := by decide +kernel
theorem dX4_unknownAt_44 : decode cX4_unknownAt 44 = .ok (.aload_n 0, 1) := by decide +kernel
theorem dX4_unknownAt_45 : decode cX4_unknownAt 45 = .ok (.getfield 15, 3) := by decide +kernel
theorem dX4_unknownAt_48 : decode cX4_unknownAt 48 = .ok (.imul, 1) := by decide +kernel
theorem dX4_unknownAt_49 : decode cX4_unknownAt 49 = .ok (.iload 4, 2) := by decide +kernel
theorem dX4_unknownAt_51 : decode cX4_unknownAt 51 = .ok (.iload 4, 2) := by decide +kernel
theorem dX4_unknownAt_53 : decode cX4_unknownAt 53 = .ok (.iconst 1, 1) := by decide +kernel
theorem dX4_unknownAt_54 : decode cX4_unknownAt 54 = .ok (.isub, 1) := by decide +kernel
theorem dX4_unknownAt_55 : decode cX4_unknownAt 55 = .ok (.imul, 1) := by decide +kernel
theorem dX4_unknownAt_56 : decode cX4_unknownAt 56 = .ok (.iconst 2, 1) := by decide +kernel
theorem dX4_unknownAt_57 : decode cX4_unknownAt 57 = .ok (.idiv, 1) := by decide +kernel
theorem dX4_unknownAt_58 : decode cX4_unknownAt 58 = .ok (.isub, 1) := by decide +kernel
theorem dX4_unknownAt_59 : decode cX4_unknownAt 59 = .ok (.iload 5, 2) := by decide +kernel
theorem dX4_unknownAt_61 : decode cX4_unknownAt 61 = .ok (.iadd, 1) := by decide +kernel
theorem dX4_unknownAt_62 : decode cX4_unknownAt 62 = .ok (.iload 4, 2) := by decide +kernel
theorem dX4_unknownAt_64 : decode cX4_unknownAt 64 = .ok (.isub, 1) := by decide +kernel
theorem dX4_unknownAt_65 : decode cX4_unknownAt 65 = .ok (.ireturn, 1) := by decide +kernel
theorem dX4_unknownAt_66 : decode cX4_unknownAt 66 = .ok (.iload 4, 2) := by decide +kernel
theorem dX4_unknownAt_68 : decode cX4_unknownAt 68 = .ok (.aload_n 0, 1) := by decide +kernel
theorem dX4_unknownAt_69 : decode cX4_unknownAt 69 = .ok (.getfield 15, 3) := by decide +kernel
theorem dX4_unknownAt_72 : decode cX4_unknownAt 72 = .ok (.imul, 1) := by decide +kernel
theorem dX4_unknownAt_73 : decode cX4_unknownAt 73 = .ok (.iload 4, 2) := by decide +kernel
theorem dX4_unknownAt_75 : decode cX4_unknownAt 75 = .ok (.iload 4, 2) := by decide +kernel
theorem dX4_unknownAt_77 : decode cX4_unknownAt 77 = .ok (.iconst 1, 1) := by decide +kernel
theorem dX4_unknownAt_78 : decode cX4_unknownAt 78 = .ok (.iadd, 1) := by decide +kernel
theorem dX4_unknownAt_79 : decode cX4_unknownAt 79 = .ok (.imul, 1) := by decide +kernel
theorem dX4_unknownAt_80 : decode cX4_unknownAt 80 = .ok (.iconst 2, 1) := by decide +kernel
theorem dX4_unknownAt_81 : decode cX4_unknownAt 81 = .ok (.idiv, 1) := by decide +kernel
theorem dX4_unknownAt_82 : decode cX4_unknownAt 82 = .ok (.isub, 1) := by decide +kernel
theorem dX4_unknownAt_83 : decode cX4_unknownAt 83 = .ok (.iload 5, 2) := by decide +kernel
theorem dX4_unknownAt_85 : decode cX4_unknownAt 85 = .ok (.iadd, 1) := by decide +kernel
theorem dX4_unknownAt_86 : decode cX4_unknownAt 86 = .ok (.iload 4, 2) := by decide +kernel
theorem dX4_unknownAt_88 : decode cX4_unknownAt 88 = .ok (.isub, 1) := by decide +kernel
theorem dX4_unknownAt_89 : decode cX4_unknownAt 89 = .ok (.iconst 1, 1) := by decide +kernel
theorem dX4_unknownAt_90 : decode cX4_unknownAt 90 = .ok (.isub, 1) := by decide +kernel
theorem dX4_unknownAt_91 : decode cX4_unknownAt 91 = .ok (.ireturn, 1) := by decide +kernel
theorem dX4_unknownAt_92 : decode cX4_unknownAt 92 = .ok (.iload_n 2, 1) := by decide +kernel
theorem dX4_unknownAt_93 : decode cX4_unknownAt 93 = .ok (.aload_n 0, 1) := by decide +kernel
theorem dX4_unknownAt_94 : decode cX4_unknownAt 94 = .ok (.getfield 15, 3) := by decide +kernel
theorem dX4_unknownAt_97 : decode cX4_unknownAt 97 = .ok (.imul, 1) := by decide +kernel
theorem dX4_unknownAt_98 : decode cX4_unknownAt 98 = .ok (.iload_n 3, 1) := by decide +kernel
theorem dX4_unknownAt_99 : decode cX4_unknownAt 99 = .ok (.iadd, 1) := by decide +kernel
theorem dX4_unknownAt_100 : decode cX4_unknownAt 100 = .ok (.ireturn, 1) := by decide +kernel
theorem dX5_init_0 : decode cX5_init 0 = .ok (.aload_n 0, 1) := by decide +kernel
theorem dX5_init_1 : decode cX5_init 1 = .ok (.invokespecial 3, 3) := by decide +kernel
theorem dX5_init_4 : decode cX5_init 4 = .ok (.aload_n 0, 1) := by decide +kernel
theorem dX5_init_5 : decode cX5_init 5 = .ok (.sipush 200, 3) := by decide +kernel
theorem dX5_init_8 : decode cX5_init 8 = .ok (.newarray .byte, 2) := by decide +kernel
theorem dX5_init_10 : decode cX5_init 10 = .ok (.putfield 9, 3) := by decide +kernel
theorem dX5_init_13 : decode cX5_init 13 = .ok (.return_, 1) := by decide +kernel
theorem dX5_take_0 : decode cX5_take 0 = .ok (.aload_n 0, 1) := by decide +kernel
theorem dX5_take_1 : decode cX5_take 1 = .ok (.getfield 15, 3) := by decide +kernel
theorem dX5_take_4 : decode cX5_take 4 = .ok (.ifCond .lt 33, 3) := by decide +kernel
theorem dX5_take_7 : decode cX5_take 7 = .ok (.aload_n 0, 1) := by decide +kernel
theorem dX5_take_8 : decode cX5_take 8 = .ok (.getfield 15, 3) := by decide +kernel
theorem dX5_take_11 : decode cX5_take 11 = .ok (.sipush 200, 3) := by decide +kernel
theorem dX5_take_14 : decode cX5_take 14 = .ok (.if_icmp .ge 23, 3) := by decide +kernel
theorem dX5_take_17 : decode cX5_take 17 = .ok (.aload_n 0, 1) := by decide +kernel
theorem dX5_take_18 : decode cX5_take 18 = .ok (.getfield 9, 3) := by decide +kernel
theorem dX5_take_21 : decode cX5_take 21 = .ok (.aload_n 0, 1) := by decide +kernel
theorem dX5_take_22 : decode cX5_take 22 = .ok (.getfield 15, 3) := by decide +kernel
theorem dX5_take_25 : decode cX5_take 25 = .ok (.iload_n 1, 1) := by decide +kernel
theorem dX5_take_26 : decode cX5_take 26 = .ok (.bastore, 1) := by decide +kernel
theorem dX5_take_27 : decode cX5_take 27 = .ok (.aload_n 0, 1) := by decide +kernel
theorem dX5_take_28 : decode cX5_take 28 = .ok (.dup, 1) := by decide +kernel
theorem dX5_take_29 : decode cX5_take 29 = .ok (.getfield 15, 3) := by decide +kernel
theorem dX5_take_32 : decode cX5_take 32 = .ok (.iconst 1, 1) := by decide +kernel
theorem dX5_take_33 : decode cX5_take 33 = .ok (.iadd, 1) := by decide +kernel
theorem dX5_take_34 : decode cX5_take 34 = .ok (.putfield 15, 3) := by decide +kernel
theorem dX5_take_37 : decode cX5_take 37 = .ok (.return_, 1) := by decide +kernel
set_option maxRecDepth 20000 in
theorem ggX5_tell_X5_skipBlanks : GoodIn wsX5_tell wsX5_skipBlanks := goodIn_r _ [7, 1, 8, 9, 10, 6, 11, 2, 12, 57, 58, 59] (by decide +kernel) (by decide +kernel)
set_option maxRecDepth 20000 in
theorem gX5_tell_X5_skipBlanks : GoodIn wsX5_tell (wsV RX5 22 RX5 yX5_skipBlanks wsX5_skipBlanks) := goodIn_app (goodIn_of _ (by decide +kernel)) ggX5_tell_X5_skipBlanks
set_option maxRecDepth 20000 in
theorem ggX5_tell_X5_readName : GoodIn wsX5_tell wsX5_readName := goodIn_r _ [16, 1, 17, 18, 19, 6, 20, 8, 9, 10, 11, 2, 12, 57, 58, 59] (by decide +kernel) (by decide +kernel)
set_option maxRecDepth 20000 in
theorem gX5_tell_X5_readName : GoodIn wsX5_tell (wsV RX5 25 RX5 yX5_readName wsX5_readName) := goodIn_app (goodIn_of _ (by decide +kernel)) ggX5_tell_X5_readName
set_option maxRecDepth 20000 in
theorem ggX5_tell_X5_readTable : GoodIn wsX5_tell wsX5_readTable := goodIn_r _ [24, 25, 26, 27, 28, 29, 30, 31, 32, 33, 34, 35, 36, 37, 38, 6, 39, 1, 40, 41, 42, 43, 3, 4, 5, 7, 8, 9, 10, 11, 2, 12, 17, 18, 19, 20, 44, 45, 46, 47, 48, 49, 50, 51, 52, 53, 54, 55, 56, 60, 61, 62, 63, 64, 65, 66, 67, 68, 57, 58, 59] (by decide +kernel) (by decide +kernel)
set_option maxRecDepth 20000 in
theorem gX5_tell_X5_readTable : GoodIn wsX5_tell (wsV RX5 29 RX5 yX5_readTable wsX5_readTable) := goodIn_app (goodIn_of _ (by decide +kernel)) ggX5_tell_X5_readTable
theorem dX5_tell_0 : decode cX5_tell 0 = .ok (.aload_n 0, 1) := by decide +kernel
theorem dX5_tell_1 : decode cX5_tell 1 = .ok (.iconst 0, 1) := by decide +kernel
theorem dX5_tell_2 : decode cX5_tell 2 = .ok (.putfield 19, 3) := by decide +kernel
theorem dX5_tell_5 : decode cX5_tell 5 = .ok (.iconst 0, 1) := by decide +kernel
theorem dX5_tell_6 : decode cX5_tell 6 = .ok (.istore_n 2, 1) := by decide +kernel
theorem dX5_tell_7 : decode cX5_tell 7 = .ok (.iconst 0, 1) := by decide +kernel
theorem dX5_tell_8 : decode cX5_tell 8 = .ok (.istore_n 3, 1) := by decide +kernel
theorem dX5_tell_9 : decode cX5_tell 9 = .ok (.iload_n 3, 1) := by decide +kernel
theorem dX5_tell_10 : decode cX5_tell 10 = .ok (.sipush 200, 3) := by decide +kernel
theorem dX5_tell_13 : decode cX5_tell 13 = .ok (.if_icmp .gt 58, 3) := by decide +kernel
theorem dX5_tell_16 : decode cX5_tell 16 = .ok (.aload_n 0, 1) := by decide +kernel
theorem dX5_tell_17 : decode cX5_tell 17 = .ok (.invokevirtual 22, 3) := by decide +kernel
theorem dX5_tell_20 : decode cX5_tell 20 = .ok (.aload_n 0, 1) := by decide +kernel
theorem dX5_tell_21 : decode cX5_tell 21 = .ok (.getfield 19, 3) := by decide +kernel
theorem dX5_tell_24 : decode cX5_tell 24 = .ok (.aload_n 0, 1) := by decide +kernel
theorem dX5_tell_25 : decode cX5_tell 25 = .ok (.getfield 15, 3) := by decide +kernel
theorem dX5_tell_28 : decode cX5_tell 28 = .ok (.if_icmp .lt 5, 3) := by decide +kernel
theorem dX5_tell_31 : decode cX5_tell 31 = .ok (.iload_n 2, 1) := by decide +kernel
theorem dX5_tell_32 : decode cX5_tell 32 = .ok (.ireturn, 1) := by decide +kernel
theorem dX5_tell_33 : decode cX5_tell 33 = .ok (.aload_n 0, 1) := by decide +kernel
theorem dX5_tell_34 : decode cX5_tell 34 = .ok (.invokevirtual 25, 3) := by decide +kernel
theorem dX5_tell_37 : decode cX5_tell 37 = .ok (.istore 4, 2) := by decide +kernel
theorem dX5_tell_39 : decode cX5_tell 39 = .ok (.iload 4, 2) := by decide +kernel
theorem dX5_tell_41 : decode cX5_tell 41 = .ok (.ifCond .lt 13, 3) := by decide +kernel
theorem dX5_tell_44 : decode cX5_tell 44 = .ok (.aload_n 0, 1) := by decide +kernel
theorem dX5_tell_45 : decode cX5_tell 45 = .ok (.aload_n 1, 1) := by decide +kernel
theorem dX5_tell_46 : decode cX5_tell 46 = .ok (.iload 4, 2) := by decide +kernel
theorem dX5_tell_48 : decode cX5_tell 48 = .ok (.invokevirtual 29, 3) := by decide +kernel
theorem dX5_tell_51 : decode cX5_tell 51 = .ok (.ifCond .ne 11, 3) := by decide +kernel
theorem dX5_tell_54 : decode cX5_tell 54 = .ok (.bipush (-100), 2) := by decide +kernel
theorem dX5_tell_56 : decode cX5_tell 56 = .ok (.aload_n 0, 1) := by decide +kernel
theorem dX5_tell_57 : decode cX5_tell 57 = .ok (.getfield 19, 3) := by decide +kernel
theorem dX5_tell_60 : decode cX5_tell 60 = .ok (.isub, 1) := by decide +kernel
theorem dX5_tell_61 : decode cX5_tell 61 = .ok (.ireturn, 1) := by decide +kernel
theorem dX5_tell_62 : decode cX5_tell 62 = .ok (.iinc 2 1, 3) := by decide +kernel
theorem dX5_tell_65 : decode cX5_tell 65 = .ok (.iinc 3 1, 3) := by decide +kernel
theorem dX5_tell_68 : decode cX5_tell 68 = .ok (.goto (-59), 3) := by decide +kernel
theorem dX5_tell_71 : decode cX5_tell 71 = .ok (.iload_n 2, 1) := by decide +kernel
theorem dX5_tell_72 : decode cX5_tell 72 = .ok (.ireturn, 1) := by decide +kernel
theorem dX5_here_0 : decode cX5_here 0 = .ok (.aload_n 0, 1) := by decide +kernel
theorem dX5_here_1 : decode cX5_here 1 = .ok (.getfield 19, 3) := by decide +kernel
theorem dX5_here_4 : decode cX5_here 4 = .ok (.iload_n 1, 1) := by decide +kernel
theorem dX5_here_5 : decode cX5_here 5 = .ok (.iadd, 1) := by decide +kernel
theorem dX5_here_6 : decode cX5_here 6 = .ok (.istore_n 2, 1) := by decide +kernel
theorem dX5_here_7 : decode cX5_here 7 = .ok (.iload_n 2, 1) := by decide +kernel
theorem dX5_here_8 : decode cX5_here 8 = .ok (.ifCond .lt 31, 3) := by decide +kernel
theorem dX5_here_11 : decode cX5_here 11 = .ok (.iload_n 2, 1) := by decide +kernel
theorem dX5_here_12 : decode cX5_here 12 = .ok (.aload_n 0, 1) := by decide +kernel
theorem dX5_here_13 : decode cX5_here 13 = .ok (.getfield 15, 3) := by decide +kernel
theorem dX5_here_16 : decode cX5_here 16 = .ok (.if_icmp .ge 23, 3) := by decide +kernel
theorem dX5_here_19 : decode cX5_here 19 = .ok (.iload_n 2, 1) := by decide +kernel
theorem dX5_here_20 : decode cX5_here 20 = .ok (.sipush 200, 3) := by decide +kernel
theorem dX5_here_23 : decode cX5_here 23 = .ok (.if_icmp .ge 16, 3) := by decide +kernel
theorem dX5_here_26 : decode cX5_here 26 = .ok (.aload_n 0, 1) := by decide +kernel
theorem dX5_here_27 : decode cX5_here 27 = .ok (.getfield 9, 3) := by decide +kernel
theorem dX5_here_30 : decode cX5_here 30 = .ok (.iload_n 2, 1) := by decide +kernel
theorem dX5_here_31 : decode cX5_here 31 = .ok (.baload, 1) := by decide +kernel
theorem dX5_here_32 : decode cX5_here 32 = .ok (.sipush 255, 3) := by decide +kernel
theorem dX5_here_35 : decode cX5_here 35 = .ok (.iand, 1) := by decide +kernel
theorem dX5_here_36 : decode cX5_here 36 = .ok (.goto 4, 3) := by decide +kernel
theorem dX5_here_39 : decode cX5_here 39 = .ok (.iconst (-1), 1) := by decide +kernel
theorem dX5_here_40 : decode cX5_here 40 = .ok (.ireturn, 1) := by decide +kernel
set_option maxRecDepth 20000 in
theorem ggX5_skipBlanks_X5_here : GoodIn wsX5_skipBlanks wsX5_here := goodIn_r _ [6, 1, 7, 8, 9, 10, 11] (by decide +kernel) (by decide +kernel)
set_option maxRecDepth 20000 in
theorem gX5_skipBlanks_X5_here : GoodIn wsX5_skipBlanks (wsV RX5 33 RX5 yX5_here wsX5_here) := goodIn_app (goodIn_of _ (by decide +kernel)) ggX5_skipBlanks_X5_here
theorem dX5_skipBlanks_0 : decode cX5_skipBlanks 0 = .ok (.iconst 0, 1) := by decide +kernel
theorem dX5_skipBlanks_1 : decode cX5_skipBlanks 1 = .ok (.istore_n 1, 1) := by decide +kernel
theorem dX5_skipBlanks_2 : decode cX5_skipBlanks 2 = .ok (.iload_n 1, 1) := by decide +kernel
theorem dX5_skipBlanks_3 : decode cX5_skipBlanks 3 = .ok (.sipush 200, 3) := by decide +kernel
theorem dX5_skipBlanks_6 : decode cX5_skipBlanks 6 = .ok (.if_icmp .ge 29, 3) := by decide +kernel
theorem dX5_skipBlanks_9 : decode cX5_skipBlanks 9 = .ok (.aload_n 0, 1) := by decide +kernel
theorem dX5_skipBlanks_10 : decode cX5_skipBlanks 10 = .ok (.iconst 0, 1) := by decide +kernel
theorem dX5_skipBlanks_11 : decode cX5_skipBlanks 11 = .ok (.invokevirtual 33, 3) := by decide +kernel
theorem dX5_skipBlanks_14 : decode cX5_skipBlanks 14 = .ok (.bipush 32, 2) := by decide +kernel
theorem dX5_skipBlanks_16 : decode cX5_skipBlanks 16 = .ok (.if_icmp .ne 19, 3) := by decide +kernel
theorem dX5_skipBlanks_19 : decode cX5_skipBlanks 19 = .ok (.aload_n 0, 1) := by decide +kernel
theorem dX5_skipBlanks_20 : decode cX5_skipBlanks 20 = .ok (.dup, 1) := by decide +kernel
theorem dX5_skipBlanks_21 : decode cX5_skipBlanks 21 = .ok (.getfield 19, 3) := by decide +kernel
theorem dX5_skipBlanks_24 : decode cX5_skipBlanks 24 = .ok (.iconst 1, 1) := by decide +kernel
theorem dX5_skipBlanks_25 : decode cX5_skipBlanks 25 = .ok (.iadd, 1) := by decide +kernel
theorem dX5_skipBlanks_26 : decode cX5_skipBlanks 26 = .ok (.putfield 19, 3) := by decide +kernel
theorem dX5_skipBlanks_29 : decode cX5_skipBlanks 29 = .ok (.iinc 1 1, 3) := by decide +kernel
theorem dX5_skipBlanks_32 : decode cX5_skipBlanks 32 = .ok (.goto (-30), 3) := by decide +kernel
theorem dX5_skipBlanks_35 : decode cX5_skipBlanks 35 = .ok (.return_, 1) := by decide +kernel
set_option maxRecDepth 20000 in
theorem ggX5_stretch_X5_here : GoodIn wsX5_stretch wsX5_here := goodIn_r _ [5, 6, 7, 8, 9, 10, 11] (by decide +kernel) (by decide +kernel)
set_option maxRecDepth 20000 in
theorem gX5_stretch_X5_here : GoodIn wsX5_stretch (wsV RX5 33 RX5 yX5_here wsX5_here) := goodIn_app (goodIn_of _ (by decide +kernel)) ggX5_stretch_X5_here
theorem dX5_stretch_0 : decode cX5_stretch 0 = .ok (.iconst 0, 1) := by decide +kernel
theorem dX5_stretch_1 : decode cX5_stretch 1 = .ok (.istore_n 3, 1) := by decide +kernel
theorem dX5_stretch_2 : decode cX5_stretch 2 = .ok (.iload_n 3, 1) := by decide +kernel
theorem dX5_stretch_3 : decode cX5_stretch 3 = .ok (.sipush 200, 3) := by decide +kernel
theorem dX5_stretch_6 : decode cX5_stretch 6 = .ok (.if_icmp .ge 27, 3) := by decide +kernel
theorem dX5_stretch_9 : decode cX5_stretch 9 = .ok (.aload_n 0, 1) := by decide +kernel
theorem dX5_stretch_10 : decode cX5_stretch 10 = .ok (.iload_n 3, 1) := by decide +kernel
theorem dX5_stretch_11 : decode cX5_stretch 11 = .ok (.invokevirtual 33, 3) := by decide +kernel
theorem dX5_stretch_14 : decode cX5_stretch 14 = .ok (.iload_n 1, 1) := by decide +kernel
theorem dX5_stretch_15 : decode cX5_stretch 15 = .ok (.if_icmp .lt 18, 3) := by decide +kernel
theorem dX5_stretch_18 : decode cX5_stretch 18 = .ok (.aload_n 0, 1) := by decide +kernel
theorem dX5_stretch_19 : decode cX5_stretch 19 = .ok (.iload_n 3, 1) := by decide +kernel
theorem dX5_stretch_20 : decode cX5_stretch 20 = .ok (.invokevirtual 33, 3) := by decide +kernel
theorem dX5_stretch_23 : decode cX5_stretch 23 = .ok (.iload_n 2, 1) := by decide +kernel
theorem dX5_stretch_24 : decode cX5_stretch 24 = .ok (.if_icmp .gt 9, 3) := by decide +kernel
theorem dX5_stretch_27 : decode cX5_stretch 27 = .ok (.iinc 3 1, 3) := by decide +kernel
theorem dX5_stretch_30 : decode cX5_stretch 30 = .ok (.goto (-28), 3) := by decide +kernel
theorem dX5_stretch_33 : decode cX5_stretch 33 = .ok (.iload_n 3, 1) := by decide +kernel
theorem dX5_stretch_34 : decode cX5_stretch 34 = .ok (.ireturn, 1) := by decide +kernel
set_option maxRecDepth 20000 in
theorem ggX5_readName_X5_stretch : GoodIn wsX5_readName wsX5_stretch := goodIn_r _ [6, 7, 8, 9, 5, 10, 1, 11, 12, 13, 14, 15] (by decide +kernel) (by decide +kernel)
set_option maxRecDepth 20000 in
theorem gX5_readName_X5_stretch : GoodIn wsX5_readName (wsV RX5 37 RX5 yX5_stretch wsX5_stretch) := goodIn_app (goodIn_of _ (by decide +kernel)) ggX5_readName_X5_stretch
set_option maxRecDepth 20000 in
theorem ggX5_readName_X5_here : GoodIn wsX5_readName wsX5_here := goodIn_r _ [10, 1, 11, 12, 13, 14, 15] (by decide +kernel) (by decide +kernel)
set_option maxRecDepth 20000 in
theorem gX5_readName_X5_here : GoodIn wsX5_readName (wsV RX5 33 RX5 yX5_here wsX5_here) := goodIn_app (goodIn_of _ (by decide +kernel)) ggX5_readName_X5_here
theorem dX5_readName_0 : decode cX5_readName 0 = .ok (.aload_n 0, 1) := by decide +kernel
theorem dX5_readName_1 : decode cX5_readName 1 = .ok (.bipush 97, 2) := by decide +kernel
theorem dX5_readName_3 : decode cX5_readName 3 = .ok (.bipush 122, 2) := by decide +kernel
theorem dX5_readName_5 : decode cX5_readName 5 = .ok (.invokevirtual 37, 3) := by decide +kernel
theorem dX5_readName_8 : decode cX5_readName 8 = .ok (.iconst 1, 1) := by decide +kernel
theorem dX5_readName_9 : decode cX5_readName 9 = .ok (.if_icmp .ne 13, 3) := by decide +kernel
theorem dX5_readName_12 : decode cX5_readName 12 = .ok (.aload_n 0, 1) := by decide +kernel
theorem dX5_readName_13 : decode cX5_readName 13 = .ok (.iconst 0, 1) := by decide +kernel
theorem dX5_readName_14 : decode cX5_readName 14 = .ok (.invokevirtual 33, 3) := by decide +kernel
theorem dX5_readName_17 : decode cX5_readName 17 = .ok (.bipush 99, 2) := by decide +kernel
theorem dX5_readName_19 : decode cX5_readName 19 = .ok (.if_icmp .le 5, 3) := by decide +kernel
theorem dX5_readName_22 : decode cX5_readName 22 = .ok (.iconst (-1), 1) := by decide +kernel
theorem dX5_readName_23 : decode cX5_readName 23 = .ok (.ireturn, 1) := by decide +kernel
theorem dX5_readName_24 : decode cX5_readName 24 = .ok (.aload_n 0, 1) := by decide +kernel
theorem dX5_readName_25 : decode cX5_readName 25 = .ok (.iconst 0, 1) := by decide +kernel
theorem dX5_readName_26 : decode cX5_readName 26 = .ok (.invokevirtual 33, 3) := by decide +kernel
theorem dX5_readName_29 : decode cX5_readName 29 = .ok (.bipush 97, 2) := by decide +kernel
theorem dX5_readName_31 : decode cX5_readName 31 = .ok (.isub, 1) := by decide +kernel
theorem dX5_readName_32 : decode cX5_readName 32 = .ok (.istore_n 1, 1) := by decide +kernel
theorem dX5_readName_33 : decode cX5_readName 33 = .ok (.aload_n 0, 1) := by decide +kernel
theorem dX5_readName_34 : decode cX5_readName 34 = .ok (.dup, 1) := by decide +kernel
theorem dX5_readName_35 : decode cX5_readName 35 = .ok (.getfield 19, 3) := by decide +kernel
theorem dX5_readName_38 : decode cX5_readName 38 = .ok (.iconst 1, 1) := by decide +kernel
theorem dX5_readName_39 : decode cX5_readName 39 = .ok (.iadd, 1) := by decide +kernel
theorem dX5_readName_40 : decode cX5_readName 40 = .ok (.putfield 19, 3) := by decide +kernel
theorem dX5_readName_43 : decode cX5_readName 43 = .ok (.iload_n 1, 1) := by decide +kernel
theorem dX5_readName_44 : decode cX5_readName 44 = .ok (.ireturn, 1) := by decide +kernel
set_option maxRecDepth 20000 in
theorem ggX5_readTable_X4_rows : GoodIn wsX5_readTable wsX4_rows := goodIn_r _ [5, 6, 7, 49, 50, 51, 52, 53, 54, 55, 56, 57] (by decide +kernel) (by decide +kernel)
set_option maxRecDepth 20000 in
theorem gX5_readTable_X4_rows : GoodIn wsX5_readTable (wsV RX5 41 RX4 yX4_rows wsX4_rows) := goodIn_app (goodIn_of _ (by decide +kernel)) ggX5_readTable_X4_rows
set_option maxRecDepth 20000 in
theorem ggX5_readTable_X4_columns : GoodIn wsX5_readTable wsX4_columns := goodIn_r _ [11, 7, 6, 49, 50, 51, 52, 53, 54, 55, 56, 57] (by decide +kernel) (by decide +kernel)
set_option maxRecDepth 20000 in
theorem gX5_readTable_X4_columns : GoodIn wsX5_readTable (wsV RX5 46 RX4 yX4_columns wsX4_columns) := goodIn_app (goodIn_of _ (by decide +kernel)) ggX5_readTable_X4_columns
set_option maxRecDepth 20000 in
theorem ggX5_readTable_X5_readEntry : GoodIn wsX5_readTable wsX5_readEntry := goodIn_r _ [16, 17, 18, 19, 20, 15, 21, 22, 23, 24, 25, 26, 27, 28, 29, 30, 31, 32, 33, 34, 35, 36, 37, 38, 39, 40, 41, 4, 42, 43, 44, 45, 46, 47, 48, 58, 59, 60, 49, 50, 51, 52, 53, 54, 55, 56, 57] (by decide +kernel) (by decide +kernel)
set_option maxRecDepth 20000 in
theorem gX5_readTable_X5_readEntry : GoodIn wsX5_readTable (wsV RX5 49 RX5 yX5_readEntry wsX5_readEntry) := goodIn_app (goodIn_of _ (by decide +kernel)) ggX5_readTable_X5_readEntry
set_option maxRecDepth 20000 in
theorem ggX5_readTable_X5_readMark : GoodIn wsX5_readTable wsX5_readMark := goodIn_r _ [21, 17, 22, 23, 24, 15, 25, 26, 27, 28, 29, 30, 31, 58, 59, 60] (by decide +kernel) (by decide +kernel)
set_option maxRecDepth 20000 in
theorem gX5_readTable_X5_readMark : GoodIn wsX5_readTable (wsV RX5 53 RX5 yX5_readMark wsX5_readMark) := goodIn_app (goodIn_of _ (by decide +kernel)) ggX5_readTable_X5_readMark
theorem dX5_readTable_0 : decode cX5_readTable 0 = .ok (.aload_n 1, 1) := by decide +kernel
theorem dX5_readTable_1 : decode cX5_readTable 1 = .ok (.iload_n 2, 1) := by decide +kernel
theorem dX5_readTable_2 : decode cX5_readTable 2 = .ok (.invokevirtual 41, 3) := by decide +kernel
theorem dX5_readTable_5 : decode cX5_readTable 5 = .ok (.istore_n 3, 1) := by decide +kernel
theorem dX5_readTable_6 : decode cX5_readTable 6 = .ok (.iconst 0, 1) := by decide +kernel
theorem dX5_readTable_7 : decode cX5_readTable 7 = .ok (.istore 4, 2) := by decide +kernel
theorem dX5_readTable_9 : decode cX5_readTable 9 = .ok (.iload 4, 2) := by decide +kernel
theorem dX5_readTable_11 : decode cX5_readTable 11 = .ok (.iload_n 3, 1) := by decide +kernel
theorem dX5_readTable_12 : decode cX5_readTable 12 = .ok (.if_icmp .ge 67, 3) := by decide +kernel
theorem dX5_readTable_15 : decode cX5_readTable 15 = .ok (.iconst 0, 1) := by decide +kernel
theorem dX5_readTable_16 : decode cX5_readTable 16 = .ok (.istore 5, 2) := by decide +kernel
theorem dX5_readTable_18 : decode cX5_readTable 18 = .ok (.iload 5, 2) := by decide +kernel
theorem dX5_readTable_20 : decode cX5_readTable 20 = .ok (.aload_n 1, 1) := by decide +kernel
theorem dX5_readTable_21 : decode cX5_readTable 21 = .ok (.iload_n 2, 1) := by decide +kernel
theorem dX5_readTable_22 : decode cX5_readTable 22 = .ok (.invokevirtual 46, 3) := by decide +kernel
theorem dX5_readTable_25 : decode cX5_readTable 25 = .ok (.if_icmp .ge 24, 3) := by decide +kernel
theorem dX5_readTable_28 : decode cX5_readTable 28 = .ok (.aload_n 0, 1) := by decide +kernel
theorem dX5_readTable_29 : decode cX5_readTable 29 = .ok (.aload_n 1, 1) := by decide +kernel
theorem dX5_readTable_30 : decode cX5_readTable 30 = .ok (.iload_n 2, 1) := by decide +kernel
theorem dX5_readTable_31 : decode cX5_readTable 31 = .ok (.iload 4, 2) := by decide +kernel
theorem dX5_readTable_33 : decode cX5_readTable 33 = .ok (.iload 5, 2) := by decide +kernel
theorem dX5_readTable_35 : decode cX5_readTable 35 = .ok (.invokevirtual 49, 3) := by decide +kernel
theorem dX5_readTable_38 : decode cX5_readTable 38 = .ok (.ifCond .ne 5, 3) := by decide +kernel
theorem dX5_readTable_41 : decode cX5_readTable 41 = .ok (.iconst 0, 1) := by decide +kernel
theorem dX5_readTable_42 : decode cX5_readTable 42 = .ok (.ireturn, 1) := by decide +kernel
theorem dX5_readTable_43 : decode cX5_readTable 43 = .ok (.iinc 5 1, 3) := by decide +kernel
theorem dX5_readTable_46 : decode cX5_readTable 46 = .ok (.goto (-28), 3) := by decide +kernel
theorem dX5_readTable_49 : decode cX5_readTable 49 = .ok (.aload_n 0, 1) := by decide +kernel
theorem dX5_readTable_50 : decode cX5_readTable 50 = .ok (.iload 4, 2) := by decide +kernel
theorem dX5_readTable_52 : decode cX5_readTable 52 = .ok (.iload_n 3, 1) := by decide +kernel
theorem dX5_readTable_53 : decode cX5_readTable 53 = .ok (.iconst 1, 1) := by decide +kernel
theorem dX5_readTable_54 : decode cX5_readTable 54 = .ok (.isub, 1) := by decide +kernel
theorem dX5_readTable_55 : decode cX5_readTable 55 = .ok (.if_icmp .ge 8, 3) := by decide +kernel
theorem dX5_readTable_58 : decode cX5_readTable 58 = .ok (.bipush 44, 2) := by decide +kernel
theorem dX5_readTable_60 : decode cX5_readTable 60 = .ok (.goto 5, 3) := by decide +kernel
theorem dX5_readTable_63 : decode cX5_readTable 63 = .ok (.bipush 59, 2) := by decide +kernel
theorem dX5_readTable_65 : decode cX5_readTable 65 = .ok (.invokevirtual 53, 3) := by decide +kernel
theorem dX5_readTable_68 : decode cX5_readTable 68 = .ok (.ifCond .ne 5, 3) := by decide +kernel
theorem dX5_readTable_71 : decode cX5_readTable 71 = .ok (.iconst 0, 1) := by decide +kernel
theorem dX5_readTable_72 : decode cX5_readTable 72 = .ok (.ireturn, 1) := by decide +kernel
theorem dX5_readTable_73 : decode cX5_readTable 73 = .ok (.iinc 4 1, 3) := by decide +kernel
theorem dX5_readTable_76 : decode cX5_readTable 76 = .ok (.goto (-67), 3) := by decide +kernel
theorem dX5_readTable_79 : decode cX5_readTable 79 = .ok (.iconst 1, 1) := by decide +kernel
theorem dX5_readTable_80 : decode cX5_readTable 80 = .ok (.ireturn, 1) := by decide +kernel
set_option maxRecDepth 20000 in
theorem ggX5_readMark_X5_skipBlanks : GoodIn wsX5_readMark wsX5_skipBlanks := goodIn_r _ [6, 1, 7, 8, 9, 5, 10, 11, 12, 13, 14, 15] (by decide +kernel) (by decide +kernel)
set_option maxRecDepth 20000 in
theorem gX5_readMark_X5_skipBlanks : GoodIn wsX5_readMark (wsV RX5 22 RX5 yX5_skipBlanks wsX5_skipBlanks) := goodIn_app (goodIn_of _ (by decide +kernel)) ggX5_readMark_X5_skipBlanks
set_option maxRecDepth 20000 in
theorem ggX5_readMark_X5_here : GoodIn wsX5_readMark wsX5_here := goodIn_r _ [10, 1, 11, 12, 13, 14, 15] (by decide +kernel) (by decide +kernel)
set_option maxRecDepth 20000 in
theorem gX5_readMark_X5_here : GoodIn wsX5_readMark (wsV RX5 33 RX5 yX5_here wsX5_here) := goodIn_app (goodIn_of _ (by decide +kernel)) ggX5_readMark_X5_here
theorem dX5_readMark_0 : decode cX5_readMark 0 = .ok (.aload_n 0, 1) := by decide +kernel
theorem dX5_readMark_1 : decode cX5_readMark 1 = .ok (.invokevirtual 22, 3) := by decide +kernel
theorem dX5_readMark_4 : decode cX5_readMark 4 = .ok (.aload_n 0, 1) := by decide +kernel
theorem dX5_readMark_5 : decode cX5_readMark 5 = .ok (.iconst 0, 1) := by decide +kernel
theorem dX5_readMark_6 : decode cX5_readMark 6 = .ok (.invokevirtual 33, 3) := by decide +kernel
theorem dX5_readMark_9 : decode cX5_readMark 9 = .ok (.iload_n 1, 1) := by decide +kernel
theorem dX5_readMark_10 : decode cX5_readMark 10 = .ok (.if_icmp .eq 5, 3) := by decide +kernel
theorem dX5_readMark_13 : decode cX5_readMark 13 = .ok (.iconst 0, 1) := by decide +kernel
theorem dX5_readMark_14 : decode cX5_readMark 14 = .ok (.ireturn, 1) := by decide +kernel
theorem dX5_readMark_15 : decode cX5_readMark 15 = .ok (.aload_n 0, 1) := by decide +kernel
theorem dX5_readMark_16 : decode cX5_readMark 16 = .ok (.dup, 1) := by decide +kernel
theorem dX5_readMark_17 : decode cX5_readMark 17 = .ok (.getfield 19, 3) := by decide +kernel
theorem dX5_readMark_20 : decode cX5_readMark 20 = .ok (.iconst 1, 1) := by decide +kernel
theorem dX5_readMark_21 : decode cX5_readMark 21 = .ok (.iadd, 1) := by decide +kernel
theorem dX5_readMark_22 : decode cX5_readMark 22 = .ok (.putfield 19, 3) := by decide +kernel
theorem dX5_readMark_25 : decode cX5_readMark 25 = .ok (.iconst 1, 1) := by decide +kernel
theorem dX5_readMark_26 : decode cX5_readMark 26 = .ok (.ireturn, 1) := by decide +kernel
set_option maxRecDepth 20000 in
theorem ggX5_readEntry_X5_readMark : GoodIn wsX5_readEntry wsX5_readMark := goodIn_r _ [6, 1, 7, 8, 9, 5, 10, 11, 12, 13, 14, 15, 16, 35, 36, 37] (by decide +kernel) (by decide +kernel)
set_option maxRecDepth 20000 in
theorem gX5_readEntry_X5_readMark : GoodIn wsX5_readEntry (wsV RX5 53 RX5 yX5_readMark wsX5_readMark) := goodIn_app (goodIn_of _ (by decide +kernel)) ggX5_readEntry_X5_readMark
set_option maxRecDepth 20000 in
theorem ggX5_readEntry_X5_skipBlanks : GoodIn wsX5_readEntry wsX5_skipBlanks := goodIn_r _ [10, 1, 11, 12, 13, 5, 14, 15, 16, 35, 36, 37] (by decide +kernel) (by decide +kernel)
set_option maxRecDepth 20000 in
theorem gX5_readEntry_X5_skipBlanks : GoodIn wsX5_readEntry (wsV RX5 22 RX5 yX5_skipBlanks wsX5_skipBlanks) := goodIn_app (goodIn_of _ (by decide +kernel)) ggX5_readEntry_X5_skipBlanks
set_option maxRecDepth 20000 in
theorem ggX5_readEntry_X5_stretch : GoodIn wsX5_readEntry wsX5_stretch := goodIn_r _ [20, 11, 12, 13, 5, 14, 1, 15, 16, 35, 36, 37] (by decide +kernel) (by decide +kernel)
set_option maxRecDepth 20000 in
theorem gX5_readEntry_X5_stretch : GoodIn wsX5_readEntry (wsV RX5 37 RX5 yX5_stretch wsX5_stretch) := goodIn_app (goodIn_of _ (by decide +kernel)) ggX5_readEntry_X5_stretch
set_option maxRecDepth 20000 in
theorem ggX5_readEntry_X5_here : GoodIn wsX5_readEntry wsX5_here := goodIn_r _ [14, 1, 15, 16, 35, 36, 37] (by decide +kernel) (by decide +kernel)
set_option maxRecDepth 20000 in
theorem gX5_readEntry_X5_here : GoodIn wsX5_readEntry (wsV RX5 33 RX5 yX5_here wsX5_here) := goodIn_app (goodIn_of _ (by decide +kernel)) ggX5_readEntry_X5_here
set_option maxRecDepth 20000 in
theorem ggX5_readEntry_X6_reach : GoodIn wsX5_readEntry wsX6_reach := goodIn_r _ [23] (by decide +kernel) (by decide +kernel)
set_option maxRecDepth 20000 in
theorem gX5_readEntry_X6_reach_n57 : GoodIn wsX5_readEntry (wsX6_reach) := ggX5_readEntry_X6_reach
set_option maxRecDepth 20000 in
theorem ggX5_readEntry_X4_store : GoodIn wsX5_readEntry wsX4_store := goodIn_r _ [28, 29, 30, 31, 32, 33, 27, 34, 38, 39, 40, 41, 42, 43, 44, 45, 46] (by decide +kernel) (by decide +kernel)
set_option maxRecDepth 20000 in
theorem gX5_readEntry_X4_store : GoodIn wsX5_readEntry (wsV RX5 60 RX4 yX4_store wsX4_store) := goodIn_app (goodIn_of _ (by decide +kernel)) ggX5_readEntry_X4_store
theorem dX5_readEntry_0 : decode cX5_readEntry 0 = .ok (.aload_n 0, 1) := by decide +kernel
theorem dX5_readEntry_1 : decode cX5_readEntry 1 = .ok (.bipush 45, 2) := by decide +kernel
theorem dX5_readEntry_3 : decode cX5_readEntry 3 = .ok (.invokevirtual 53, 3) := by decide +kernel
theorem dX5_readEntry_6 : decode cX5_readEntry 6 = .ok (.istore 5, 2) := by decide +kernel
theorem dX5_readEntry_8 : decode cX5_readEntry 8 = .ok (.aload_n 0, 1) := by decide +kernel
theorem dX5_readEntry_9 : decode cX5_readEntry 9 = .ok (.invokevirtual 22, 3) := by decide +kernel
theorem dX5_readEntry_12 : decode cX5_readEntry 12 = .ok (.aload_n 0, 1) := by decide +kernel
theorem dX5_readEntry_13 : decode cX5_readEntry 13 = .ok (.bipush 48, 2) := by decide +kernel
theorem dX5_readEntry_15 : decode cX5_readEntry 15 = .ok (.bipush 57, 2) := by decide +kernel
theorem dX5_readEntry_17 : decode cX5_readEntry 17 = .ok (.invokevirtual 37, 3) := by decide +kernel
theorem dX5_readEntry_20 : decode cX5_readEntry 20 = .ok (.istore 6, 2) := by decide +kernel
theorem dX5_readEntry_22 : decode cX5_readEntry 22 = .ok (.iload 6, 2) := by decide +kernel
theorem dX5_readEntry_24 : decode cX5_readEntry 24 = .ok (.iconst 1, 1) := by decide +kernel
theorem dX5_readEntry_25 : decode cX5_readEntry 25 = .ok (.if_icmp .lt 9, 3) := by decide +kernel
theorem dX5_readEntry_28 : decode cX5_readEntry 28 = .ok (.iload 6, 2) := by decide +kernel
theorem dX5_readEntry_30 : decode cX5_readEntry 30 = .ok (.iconst 2, 1) := by decide +kernel
theorem dX5_readEntry_31 : decode cX5_readEntry 31 = .ok (.if_icmp .le 5, 3) := by decide +kernel
theorem dX5_readEntry_34 : decode cX5_readEntry 34 = .ok (.iconst 0, 1) := by decide +kernel
theorem dX5_readEntry_35 : decode cX5_readEntry 35 = .ok (.ireturn, 1) := by decide +kernel
theorem dX5_readEntry_36 : decode cX5_readEntry 36 = .ok (.aload_n 0, 1) := by decide +kernel
theorem dX5_readEntry_37 : decode cX5_readEntry 37 = .ok (.iconst 0, 1) := by decide +kernel
theorem dX5_readEntry_38 : decode cX5_readEntry 38 = .ok (.invokevirtual 33, 3) := by decide +kernel
theorem dX5_readEntry_41 : decode cX5_readEntry 41 = .ok (.bipush 48, 2) := by decide +kernel
theorem dX5_readEntry_43 : decode cX5_readEntry 43 = .ok (.isub, 1) := by decide +kernel
theorem dX5_readEntry_44 : decode cX5_readEntry 44 = .ok (.istore 7, 2) := by decide +kernel
theorem dX5_readEntry_46 : decode cX5_readEntry 46 = .ok (.iload 6, 2) := by decide +kernel
theorem dX5_readEntry_48 : decode cX5_readEntry 48 = .ok (.iconst 2, 1) := by decide +kernel
theorem dX5_readEntry_49 : decode cX5_readEntry 49 = .ok (.if_icmp .ne 19, 3) := by decide +kernel
theorem dX5_readEntry_52 : decode cX5_readEntry 52 = .ok (.bipush 10, 2) := by decide +kernel
theorem dX5_readEntry_54 : decode cX5_readEntry 54 = .ok (.iload 7, 2) := by decide +kernel
theorem dX5_readEntry_56 : decode cX5_readEntry 56 = .ok (.imul, 1) := by decide +kernel
theorem dX5_readEntry_57 : decode cX5_readEntry 57 = .ok (.aload_n 0, 1) := by decide +kernel
theorem dX5_readEntry_58 : decode cX5_readEntry 58 = .ok (.iconst 1, 1) := by decide +kernel
theorem dX5_readEntry_59 : decode cX5_readEntry 59 = .ok (.invokevirtual 33, 3) := by decide +kernel
theorem dX5_readEntry_62 : decode cX5_readEntry 62 = .ok (.iadd, 1) := by decide +kernel
theorem dX5_readEntry_63 : decode cX5_readEntry 63 = .ok (.bipush 48, 2) := by decide +kernel
theorem dX5_readEntry_65 : decode cX5_readEntry 65 = .ok (.isub, 1) := by decide +kernel
theorem dX5_readEntry_66 : decode cX5_readEntry 66 = .ok (.istore 7, 2) := by decide +kernel
theorem dX5_readEntry_68 : decode cX5_readEntry 68 = .ok (.iload 7, 2) := by decide +kernel
theorem dX5_readEntry_70 : decode cX5_readEntry 70 = .ok (.iload_n 2, 1) := by decide +kernel
theorem dX5_readEntry_71 : decode cX5_readEntry 71 = .ok (.invokestatic 57, 3) := by decide +kernel
theorem dX5_readEntry_74 : decode cX5_readEntry 74 = .ok (.if_icmp .le 5, 3) := by decide +kernel
theorem dX5_readEntry_77 : decode cX5_readEntry 77 = .ok (.iconst 0, 1) := by decide +kernel
theorem dX5_readEntry_78 : decode cX5_readEntry 78 = .ok (.ireturn, 1) := by decide +kernel
theorem dX5_readEntry_79 : decode cX5_readEntry 79 = .ok (.aload_n 0, 1) := by decide +kernel
theorem dX5_readEntry_80 : decode cX5_readEntry 80 = .ok (.dup, 1) := by decide +kernel
theorem dX5_readEntry_81 : decode cX5_readEntry 81 = .ok (.getfield 19, 3) := by decide +kernel
theorem dX5_readEntry_84 : decode cX5_readEntry 84 = .ok (.iload 6, 2) := by decide +kernel
theorem dX5_readEntry_86 : decode cX5_readEntry 86 = .ok (.iadd, 1) := by decide +kernel
theorem dX5_readEntry_87 : decode cX5_readEntry 87 = .ok (.putfield 19, 3) := by decide +kernel
theorem dX5_readEntry_90 : decode cX5_readEntry 90 = .ok (.aload_n 1, 1) := by decide +kernel
theorem dX5_readEntry_91 : decode cX5_readEntry 91 = .ok (.iload_n 2, 1) := by decide +kernel
theorem dX5_readEntry_92 : decode cX5_readEntry 92 = .ok (.iload_n 3, 1) := by decide +kernel
theorem dX5_readEntry_93 : decode cX5_readEntry 93 = .ok (.iload 4, 2) := by decide +kernel
theorem dX5_readEntry_95 : decode cX5_readEntry 95 = .ok (.iload 5, 2) := by decide +kernel
theorem dX5_readEntry_97 : decode cX5_readEntry 97 = .ok (.ifCond .eq 9, 3) := by decide +kernel
theorem dX5_readEntry_100 : decode cX5_readEntry 100 = .ok (.iload 7, 2) := by decide +kernel
theorem dX5_readEntry_102 : decode cX5_readEntry 102 = .ok (.ineg, 1) := by decide +kernel
theorem dX5_readEntry_103 : decode cX5_readEntry 103 = .ok (.goto 5, 3) := by decide +kernel
theorem dX5_readEntry_106 : decode cX5_readEntry 106 = .ok (.iload 7, 2) := by decide +kernel
theorem dX5_readEntry_108 : decode cX5_readEntry 108 = .ok (.invokevirtual 60, 3) := by decide +kernel
theorem dX5_readEntry_111 : decode cX5_readEntry 111 = .ok (.iconst 1, 1) := by decide +kernel
theorem dX5_readEntry_112 : decode cX5_readEntry 112 = .ok (.ireturn, 1) := by decide +kernel
