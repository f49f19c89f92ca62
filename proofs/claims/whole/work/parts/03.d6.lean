theorem dX6_init_0 : decode cX6_init 0 = .ok (.aload_n 0, 1) := by decide +kernel
theorem dX6_init_1 : decode cX6_init 1 = .ok (.invokespecial 1, 3) := by decide +kernel
theorem dX6_init_4 : decode cX6_init 4 = .ok (.aload_n 0, 1) := by decide +kernel
theorem dX6_init_5 : decode cX6_init 5 = .ok (.new 7, 3) := by decide +kernel
theorem dX6_init_8 : decode cX6_init 8 = .ok (.dup, 1) := by decide +kernel
theorem dX6_init_9 : decode cX6_init 9 = .ok (.invokespecial 9, 3) := by decide +kernel
theorem dX6_init_12 : decode cX6_init 12 = .ok (.putfield 10, 3) := by decide +kernel
theorem dX6_init_15 : decode cX6_init 15 = .ok (.aload_n 0, 1) := by decide +kernel
theorem dX6_init_16 : decode cX6_init 16 = .ok (.new 7, 3) := by decide +kernel
theorem dX6_init_19 : decode cX6_init 19 = .ok (.dup, 1) := by decide +kernel
theorem dX6_init_20 : decode cX6_init 20 = .ok (.invokespecial 9, 3) := by decide +kernel
theorem dX6_init_23 : decode cX6_init 23 = .ok (.putfield 16, 3) := by decide +kernel
theorem dX6_init_26 : decode cX6_init 26 = .ok (.aload_n 0, 1) := by decide +kernel
theorem dX6_init_27 : decode cX6_init 27 = .ok (.new 7, 3) := by decide +kernel
theorem dX6_init_30 : decode cX6_init 30 = .ok (.dup, 1) := by decide +kernel
theorem dX6_init_31 : decode cX6_init 31 = .ok (.invokespecial 9, 3) := by decide +kernel
theorem dX6_init_34 : decode cX6_init 34 = .ok (.putfield 19, 3) := by decide +kernel
theorem dX6_init_37 : decode cX6_init 37 = .ok (.aload_n 0, 1) := by decide +kernel
theorem dX6_init_38 : decode cX6_init 38 = .ok (.new 22, 3) := by decide +kernel
theorem dX6_init_41 : decode cX6_init 41 = .ok (.dup, 1) := by decide +kernel
theorem dX6_init_42 : decode cX6_init 42 = .ok (.invokespecial 24, 3) := by decide +kernel
theorem dX6_init_45 : decode cX6_init 45 = .ok (.putfield 25, 3) := by decide +kernel
theorem dX6_init_48 : decode cX6_init 48 = .ok (.aload_n 0, 1) := by decide +kernel
theorem dX6_init_49 : decode cX6_init 49 = .ok (.new 22, 3) := by decide +kernel
theorem dX6_init_52 : decode cX6_init 52 = .ok (.dup, 1) := by decide +kernel
theorem dX6_init_53 : decode cX6_init 53 = .ok (.invokespecial 24, 3) := by decide +kernel
theorem dX6_init_56 : decode cX6_init 56 = .ok (.putfield 29, 3) := by decide +kernel
theorem dX6_init_59 : decode cX6_init 59 = .ok (.aload_n 0, 1) := by decide +kernel
theorem dX6_init_60 : decode cX6_init 60 = .ok (.new 32, 3) := by decide +kernel
theorem dX6_init_63 : decode cX6_init 63 = .ok (.dup, 1) := by decide +kernel
theorem dX6_init_64 : decode cX6_init 64 = .ok (.invokespecial 34, 3) := by decide +kernel
theorem dX6_init_67 : decode cX6_init 67 = .ok (.putfield 35, 3) := by decide +kernel
theorem dX6_init_70 : decode cX6_init 70 = .ok (.aload_n 0, 1) := by decide +kernel
theorem dX6_init_71 : decode cX6_init 71 = .ok (.new 39, 3) := by decide +kernel
theorem dX6_init_74 : decode cX6_init 74 = .ok (.dup, 1) := by decide +kernel
theorem dX6_init_75 : decode cX6_init 75 = .ok (.invokespecial 41, 3) := by decide +kernel
theorem dX6_init_78 : decode cX6_init 78 = .ok (.putfield 42, 3) := by decide +kernel
theorem dX6_init_81 : decode cX6_init 81 = .ok (.aload_n 0, 1) := by decide +kernel
theorem dX6_init_82 : decode cX6_init 82 = .ok (.iconst 4, 1) := by decide +kernel
theorem dX6_init_83 : decode cX6_init 83 = .ok (.anewarray 46, 3) := by decide +kernel
theorem dX6_init_86 : decode cX6_init 86 = .ok (.putfield 48, 3) := by decide +kernel
theorem dX6_init_89 : decode cX6_init 89 = .ok (.aload_n 0, 1) := by decide +kernel
theorem dX6_init_90 : decode cX6_init 90 = .ok (.iconst 4, 1) := by decide +kernel
theorem dX6_init_91 : decode cX6_init 91 = .ok (.anewarray 52, 3) := by decide +kernel
theorem dX6_init_94 : decode cX6_init 94 = .ok (.putfield 54, 3) := by decide +kernel
theorem dX6_init_97 : decode cX6_init 97 = .ok (.iconst 0, 1) := by decide +kernel
theorem dX6_init_98 : decode cX6_init 98 = .ok (.istore_n 1, 1) := by decide +kernel
theorem dX6_init_99 : decode cX6_init 99 = .ok (.iload_n 1, 1) := by decide +kernel
theorem dX6_init_100 : decode cX6_init 100 = .ok (.iconst 4, 1) := by decide +kernel
theorem dX6_init_101 : decode cX6_init 101 = .ok (.if_icmp .ge 22, 3) := by decide +kernel
theorem dX6_init_104 : decode cX6_init 104 = .ok (.aload_n 0, 1) := by decide +kernel
theorem dX6_init_105 : decode cX6_init 105 = .ok (.getfield 48, 3) := by decide +kernel
theorem dX6_init_108 : decode cX6_init 108 = .ok (.iload_n 1, 1) := by decide +kernel
theorem dX6_init_109 : decode cX6_init 109 = .ok (.new 46, 3) := by decide +kernel
theorem dX6_init_112 : decode cX6_init 112 = .ok (.dup, 1) := by decide +kernel
theorem dX6_init_113 : decode cX6_init 113 = .ok (.invokespecial 58, 3) := by decide +kernel
theorem dX6_init_116 : decode cX6_init 116 = .ok (.aastore, 1) := by decide +kernel
theorem dX6_init_117 : decode cX6_init 117 = .ok (.iinc 1 1, 3) := by decide +kernel
theorem dX6_init_120 : decode cX6_init 120 = .ok (.goto (-21), 3) := by decide +kernel
theorem dX6_init_123 : decode cX6_init 123 = .ok (.iconst 0, 1) := by decide +kernel
theorem dX6_init_124 : decode cX6_init 124 = .ok (.istore_n 1, 1) := by decide +kernel
theorem dX6_init_125 : decode cX6_init 125 = .ok (.iload_n 1, 1) := by decide +kernel
theorem dX6_init_126 : decode cX6_init 126 = .ok (.iconst 4, 1) := by decide +kernel
theorem dX6_init_127 : decode cX6_init 127 = .ok (.if_icmp .ge 22, 3) := by decide +kernel
theorem dX6_init_130 : decode cX6_init 130 = .ok (.aload_n 0, 1) := by decide +kernel
theorem dX6_init_131 : decode cX6_init 131 = .ok (.getfield 54, 3) := by decide +kernel
theorem dX6_init_134 : decode cX6_init 134 = .ok (.iload_n 1, 1) := by decide +kernel
theorem dX6_init_135 : decode cX6_init 135 = .ok (.new 52, 3) := by decide +kernel
theorem dX6_init_138 : decode cX6_init 138 = .ok (.dup, 1) := by decide +kernel
theorem dX6_init_139 : decode cX6_init 139 = .ok (.invokespecial 59, 3) := by decide +kernel
theorem dX6_init_142 : decode cX6_init 142 = .ok (.aastore, 1) := by decide +kernel
theorem dX6_init_143 : decode cX6_init 143 = .ok (.iinc 1 1, 3) := by decide +kernel
theorem dX6_init_146 : decode cX6_init 146 = .ok (.goto (-21), 3) := by decide +kernel
theorem dX6_init_149 : decode cX6_init 149 = .ok (.return_, 1) := by decide +kernel
theorem dX6_size_0 : decode cX6_size 0 = .ok (.iload_n 1, 1) := by decide +kernel
theorem dX6_size_1 : decode cX6_size 1 = .ok (.iconst 1, 1) := by decide +kernel
theorem dX6_size_2 : decode cX6_size 2 = .ok (.if_icmp .lt 18, 3) := by decide +kernel
theorem dX6_size_5 : decode cX6_size 5 = .ok (.iload_n 1, 1) := by decide +kernel
theorem dX6_size_6 : decode cX6_size 6 = .ok (.iconst 3, 1) := by decide +kernel
theorem dX6_size_7 : decode cX6_size 7 = .ok (.if_icmp .gt 13, 3) := by decide +kernel
theorem dX6_size_10 : decode cX6_size 10 = .ok (.iload_n 2, 1) := by decide +kernel
theorem dX6_size_11 : decode cX6_size 11 = .ok (.iconst 1, 1) := by decide +kernel
theorem dX6_size_12 : decode cX6_size 12 = .ok (.if_icmp .lt 8, 3) := by decide +kernel
theorem dX6_size_15 : decode cX6_size 15 = .ok (.iload_n 2, 1) := by decide +kernel
theorem dX6_size_16 : decode cX6_size 16 = .ok (.iconst 3, 1) := by decide +kernel
theorem dX6_size_17 : decode cX6_size 17 = .ok (.if_icmp .le 5, 3) := by decide +kernel
theorem dX6_size_20 : decode cX6_size 20 = .ok (.iconst (-1), 1) := by decide +kernel
theorem dX6_size_21 : decode cX6_size 21 = .ok (.ireturn, 1) := by decide +kernel
theorem dX6_size_22 : decode cX6_size 22 = .ok (.bipush 10, 2) := by decide +kernel
theorem dX6_size_24 : decode cX6_size 24 = .ok (.aload_n 0, 1) := by decide +kernel
theorem dX6_size_25 : decode cX6_size 25 = .ok (.getfield 10, 3) := by decide +kernel
theorem dX6_size_28 : decode cX6_size 28 = .ok (.getfield 60, 3) := by decide +kernel
theorem dX6_size_31 : decode cX6_size 31 = .ok (.imul, 1) := by decide +kernel
theorem dX6_size_32 : decode cX6_size 32 = .ok (.aload_n 0, 1) := by decide +kernel
theorem dX6_size_33 : decode cX6_size 33 = .ok (.getfield 10, 3) := by decide +kernel
theorem dX6_size_36 : decode cX6_size 36 = .ok (.getfield 64, 3) := by decide +kernel
theorem dX6_size_39 : decode cX6_size 39 = .ok (.iadd, 1) := by decide +kernel
theorem dX6_size_40 : decode cX6_size 40 = .ok (.istore_n 3, 1) := by decide +kernel
theorem dX6_size_41 : decode cX6_size 41 = .ok (.aload_n 0, 1) := by decide +kernel
theorem dX6_size_42 : decode cX6_size 42 = .ok (.getfield 10, 3) := by decide +kernel
theorem dX6_size_45 : decode cX6_size 45 = .ok (.iload_n 1, 1) := by decide +kernel
theorem dX6_size_46 : decode cX6_size 46 = .ok (.iload_n 2, 1) := by decide +kernel
theorem dX6_size_47 : decode cX6_size 47 = .ok (.invokevirtual 67, 3) := by decide +kernel
theorem dX6_size_50 : decode cX6_size 50 = .ok (.iload_n 3, 1) := by decide +kernel
theorem dX6_size_51 : decode cX6_size 51 = .ok (.ireturn, 1) := by decide +kernel
theorem dX6_set_0 : decode cX6_set 0 = .ok (.aload_n 0, 1) := by decide +kernel
theorem dX6_set_1 : decode cX6_set 1 = .ok (.getfield 10, 3) := by decide +kernel
theorem dX6_set_4 : decode cX6_set 4 = .ok (.iload_n 1, 1) := by decide +kernel
theorem dX6_set_5 : decode cX6_set 5 = .ok (.iload_n 2, 1) := by decide +kernel
theorem dX6_set_6 : decode cX6_set 6 = .ok (.iload_n 3, 1) := by decide +kernel
theorem dX6_set_7 : decode cX6_set 7 = .ok (.invokevirtual 71, 3) := by decide +kernel
theorem dX6_set_10 : decode cX6_set 10 = .ok (.ifCond .eq 22, 3) := by decide +kernel
theorem dX6_set_13 : decode cX6_set 13 = .ok (.iload 4, 2) := by decide +kernel
theorem dX6_set_15 : decode cX6_set 15 = .ok (.iload_n 1, 1) := by decide +kernel
theorem dX6_set_16 : decode cX6_set 16 = .ok (.invokestatic 75, 3) := by decide +kernel
theorem dX6_set_19 : decode cX6_set 19 = .ok (.ineg, 1) := by decide +kernel
theorem dX6_set_20 : decode cX6_set 20 = .ok (.if_icmp .lt 12, 3) := by decide +kernel
theorem dX6_set_23 : decode cX6_set 23 = .ok (.iload 4, 2) := by decide +kernel
theorem dX6_set_25 : decode cX6_set 25 = .ok (.iload_n 1, 1) := by decide +kernel
theorem dX6_set_26 : decode cX6_set 26 = .ok (.invokestatic 75, 3) := by decide +kernel
theorem dX6_set_29 : decode cX6_set 29 = .ok (.if_icmp .le 5, 3) := by decide +kernel
theorem dX6_set_32 : decode cX6_set 32 = .ok (.iconst (-1), 1) := by decide +kernel
theorem dX6_set_33 : decode cX6_set 33 = .ok (.ireturn, 1) := by decide +kernel
theorem dX6_set_34 : decode cX6_set 34 = .ok (.aload_n 0, 1) := by decide +kernel
theorem dX6_set_35 : decode cX6_set 35 = .ok (.getfield 10, 3) := by decide +kernel
theorem dX6_set_38 : decode cX6_set 38 = .ok (.iload_n 1, 1) := by decide +kernel
theorem dX6_set_39 : decode cX6_set 39 = .ok (.iload_n 2, 1) := by decide +kernel
theorem dX6_set_40 : decode cX6_set 40 = .ok (.iload_n 3, 1) := by decide +kernel
theorem dX6_set_41 : decode cX6_set 41 = .ok (.invokevirtual 79, 3) := by decide +kernel
theorem dX6_set_44 : decode cX6_set 44 = .ok (.istore 5, 2) := by decide +kernel
theorem dX6_set_46 : decode cX6_set 46 = .ok (.aload_n 0, 1) := by decide +kernel
theorem dX6_set_47 : decode cX6_set 47 = .ok (.getfield 10, 3) := by decide +kernel
theorem dX6_set_50 : decode cX6_set 50 = .ok (.iload_n 1, 1) := by decide +kernel
theorem dX6_set_51 : decode cX6_set 51 = .ok (.iload_n 2, 1) := by decide +kernel
theorem dX6_set_52 : decode cX6_set 52 = .ok (.iload_n 3, 1) := by decide +kernel
theorem dX6_set_53 : decode cX6_set 53 = .ok (.iload 4, 2) := by decide +kernel
theorem dX6_set_55 : decode cX6_set 55 = .ok (.invokevirtual 83, 3) := by decide +kernel
theorem dX6_set_58 : decode cX6_set 58 = .ok (.bipush 100, 2) := by decide +kernel
theorem dX6_set_60 : decode cX6_set 60 = .ok (.iload 5, 2) := by decide +kernel
theorem dX6_set_62 : decode cX6_set 62 = .ok (.iadd, 1) := by decide +kernel
theorem dX6_set_63 : decode cX6_set 63 = .ok (.ireturn, 1) := by decide +kernel
theorem dX6_at_0 : decode cX6_at 0 = .ok (.aload_n 0, 1) := by decide +kernel
theorem dX6_at_1 : decode cX6_at 1 = .ok (.getfield 10, 3) := by decide +kernel
theorem dX6_at_4 : decode cX6_at 4 = .ok (.iload_n 1, 1) := by decide +kernel
theorem dX6_at_5 : decode cX6_at 5 = .ok (.iload_n 2, 1) := by decide +kernel
theorem dX6_at_6 : decode cX6_at 6 = .ok (.iload_n 3, 1) := by decide +kernel
theorem dX6_at_7 : decode cX6_at 7 = .ok (.invokevirtual 71, 3) := by decide +kernel
theorem dX6_at_10 : decode cX6_at 10 = .ok (.ifCond .eq 19, 3) := by decide +kernel
theorem dX6_at_13 : decode cX6_at 13 = .ok (.bipush 100, 2) := by decide +kernel
theorem dX6_at_15 : decode cX6_at 15 = .ok (.aload_n 0, 1) := by decide +kernel
theorem dX6_at_16 : decode cX6_at 16 = .ok (.getfield 10, 3) := by decide +kernel
theorem dX6_at_19 : decode cX6_at 19 = .ok (.iload_n 1, 1) := by decide +kernel
theorem dX6_at_20 : decode cX6_at 20 = .ok (.iload_n 2, 1) := by decide +kernel
theorem dX6_at_21 : decode cX6_at 21 = .ok (.iload_n 3, 1) := by decide +kernel
theorem dX6_at_22 : decode cX6_at 22 = .ok (.invokevirtual 79, 3) := by decide +kernel
theorem dX6_at_25 : decode cX6_at 25 = .ok (.iadd, 1) := by decide +kernel
theorem dX6_at_26 : decode cX6_at 26 = .ok (.goto 4, 3) := by decide +kernel
theorem dX6_at_29 : decode cX6_at 29 = .ok (.iconst (-1), 1) := by decide +kernel
theorem dX6_at_30 : decode cX6_at 30 = .ok (.ireturn, 1) := by decide +kernel
theorem dX6_det_0 : decode cX6_det 0 = .ok (.iload_n 1, 1) := by decide +kernel
theorem dX6_det_1 : decode cX6_det 1 = .ok (.ifCond .eq 13, 3) := by decide +kernel
theorem dX6_det_4 : decode cX6_det 4 = .ok (.iload_n 1, 1) := by decide +kernel
theorem dX6_det_5 : decode cX6_det 5 = .ok (.iconst 1, 1) := by decide +kernel
theorem dX6_det_6 : decode cX6_det 6 = .ok (.if_icmp .eq 8, 3) := by decide +kernel
theorem dX6_det_9 : decode cX6_det 9 = .ok (.iconst (-1), 1) := by decide +kernel
theorem dX6_det_10 : decode cX6_det 10 = .ok (.invokestatic 87, 3) := by decide +kernel
theorem dX6_det_13 : decode cX6_det 13 = .ok (.lreturn, 1) := by decide +kernel
theorem dX6_det_14 : decode cX6_det 14 = .ok (.aload_n 0, 1) := by decide +kernel
theorem dX6_det_15 : decode cX6_det 15 = .ok (.getfield 10, 3) := by decide +kernel
theorem dX6_det_18 : decode cX6_det 18 = .ok (.iload_n 1, 1) := by decide +kernel
theorem dX6_det_19 : decode cX6_det 19 = .ok (.aload_n 0, 1) := by decide +kernel
theorem dX6_det_20 : decode cX6_det 20 = .ok (.getfield 10, 3) := by decide +kernel
theorem dX6_det_23 : decode cX6_det 23 = .ok (.iload_n 1, 1) := by decide +kernel
theorem dX6_det_24 : decode cX6_det 24 = .ok (.invokevirtual 91, 3) := by decide +kernel
theorem dX6_det_27 : decode cX6_det 27 = .ok (.invokevirtual 94, 3) := by decide +kernel
theorem dX6_det_30 : decode cX6_det 30 = .ok (.lreturn, 1) := by decide +kernel
theorem dX6_diagonal_0 : decode cX6_diagonal 0 = .ok (.iload_n 1, 1) := by decide +kernel
theorem dX6_diagonal_1 : decode cX6_diagonal 1 = .ok (.ifCond .eq 18, 3) := by decide +kernel
theorem dX6_diagonal_4 : decode cX6_diagonal 4 = .ok (.iload_n 1, 1) := by decide +kernel
theorem dX6_diagonal_5 : decode cX6_diagonal 5 = .ok (.iconst 1, 1) := by decide +kernel
theorem dX6_diagonal_6 : decode cX6_diagonal 6 = .ok (.if_icmp .eq 13, 3) := by decide +kernel
theorem dX6_diagonal_9 : decode cX6_diagonal 9 = .ok (.iload_n 1, 1) := by decide +kernel
theorem dX6_diagonal_10 : decode cX6_diagonal 10 = .ok (.iconst 2, 1) := by decide +kernel
theorem dX6_diagonal_11 : decode cX6_diagonal 11 = .ok (.if_icmp .eq 8, 3) := by decide +kernel
theorem dX6_diagonal_14 : decode cX6_diagonal 14 = .ok (.iconst (-1), 1) := by decide +kernel
theorem dX6_diagonal_15 : decode cX6_diagonal 15 = .ok (.invokestatic 87, 3) := by decide +kernel
theorem dX6_diagonal_18 : decode cX6_diagonal 18 = .ok (.lreturn, 1) := by decide +kernel
theorem dX6_diagonal_19 : decode cX6_diagonal 19 = .ok (.iload_n 1, 1) := by decide +kernel
theorem dX6_diagonal_20 : decode cX6_diagonal 20 = .ok (.iconst 2, 1) := by decide +kernel
theorem dX6_diagonal_21 : decode cX6_diagonal 21 = .ok (.if_icmp .ne 26, 3) := by decide +kernel
theorem dX6_diagonal_24 : decode cX6_diagonal 24 = .ok (.aload_n 0, 1) := by decide +kernel
theorem dX6_diagonal_25 : decode cX6_diagonal 25 = .ok (.getfield 10, 3) := by decide +kernel
theorem dX6_diagonal_28 : decode cX6_diagonal 28 = .ok (.getfield 60, 3) := by decide +kernel
theorem dX6_diagonal_31 : decode cX6_diagonal 31 = .ok (.aload_n 0, 1) := by decide +kernel
theorem dX6_diagonal_32 : decode cX6_diagonal 32 = .ok (.getfield 10, 3) := by decide +kernel
theorem dX6_diagonal_35 : decode cX6_diagonal 35 = .ok (.getfield 64, 3) := by decide +kernel
theorem dX6_diagonal_38 : decode cX6_diagonal 38 = .ok (.if_icmp .eq 9, 3) := by decide +kernel
theorem dX6_diagonal_41 : decode cX6_diagonal 41 = .ok (.bipush (-4), 2) := by decide +kernel
theorem dX6_diagonal_43 : decode cX6_diagonal 43 = .ok (.invokestatic 87, 3) := by decide +kernel
theorem dX6_diagonal_46 : decode cX6_diagonal 46 = .ok (.lreturn, 1) := by decide +kernel
theorem dX6_diagonal_47 : decode cX6_diagonal 47 = .ok (.aload_n 0, 1) := by decide +kernel
theorem dX6_diagonal_48 : decode cX6_diagonal 48 = .ok (.getfield 10, 3) := by decide +kernel
theorem dX6_diagonal_51 : decode cX6_diagonal 51 = .ok (.iload_n 1, 1) := by decide +kernel
theorem dX6_diagonal_52 : decode cX6_diagonal 52 = .ok (.iconst 1, 1) := by decide +kernel
theorem dX6_diagonal_53 : decode cX6_diagonal 53 = .ok (.invokevirtual 94, 3) := by decide +kernel
theorem dX6_diagonal_56 : decode cX6_diagonal 56 = .ok (.lreturn, 1) := by decide +kernel
theorem dX6_character_0 : decode cX6_character 0 = .ok (.iload_n 1, 1) := by decide +kernel
theorem dX6_character_1 : decode cX6_character 1 = .ok (.ifCond .eq 8, 3) := by decide +kernel
theorem dX6_character_4 : decode cX6_character 4 = .ok (.iload_n 1, 1) := by decide +kernel
theorem dX6_character_5 : decode cX6_character 5 = .ok (.iconst 1, 1) := by decide +kernel
theorem dX6_character_6 : decode cX6_character 6 = .ok (.if_icmp .ne 19, 3) := by decide +kernel
theorem dX6_character_9 : decode cX6_character 9 = .ok (.iload_n 2, 1) := by decide +kernel
theorem dX6_character_10 : decode cX6_character 10 = .ok (.ifCond .lt 15, 3) := by decide +kernel
theorem dX6_character_13 : decode cX6_character 13 = .ok (.iload_n 2, 1) := by decide +kernel
theorem dX6_character_14 : decode cX6_character 14 = .ok (.aload_n 0, 1) := by decide +kernel
theorem dX6_character_15 : decode cX6_character 15 = .ok (.getfield 10, 3) := by decide +kernel
theorem dX6_character_18 : decode cX6_character 18 = .ok (.iload_n 1, 1) := by decide +kernel
theorem dX6_character_19 : decode cX6_character 19 = .ok (.invokevirtual 91, 3) := by decide +kernel
theorem dX6_character_22 : decode cX6_character 22 = .ok (.if_icmp .le 8, 3) := by decide +kernel
theorem dX6_character_25 : decode cX6_character 25 = .ok (.iconst (-1), 1) := by decide +kernel
theorem dX6_character_26 : decode cX6_character 26 = .ok (.invokestatic 87, 3) := by decide +kernel
theorem dX6_character_29 : decode cX6_character 29 = .ok (.lreturn, 1) := by decide +kernel
theorem dX6_character_30 : decode cX6_character 30 = .ok (.aload_n 0, 1) := by decide +kernel
theorem dX6_character_31 : decode cX6_character 31 = .ok (.getfield 10, 3) := by decide +kernel
theorem dX6_character_34 : decode cX6_character 34 = .ok (.iload_n 1, 1) := by decide +kernel
theorem dX6_character_35 : decode cX6_character 35 = .ok (.invokevirtual 91, 3) := by decide +kernel
theorem dX6_character_38 : decode cX6_character 38 = .ok (.iload_n 2, 1) := by decide +kernel
theorem dX6_character_39 : decode cX6_character 39 = .ok (.isub, 1) := by decide +kernel
theorem dX6_character_40 : decode cX6_character 40 = .ok (.istore_n 3, 1) := by decide +kernel
theorem dX6_character_41 : decode cX6_character 41 = .ok (.aload_n 0, 1) := by decide +kernel
theorem dX6_character_42 : decode cX6_character 42 = .ok (.getfield 10, 3) := by decide +kernel
theorem dX6_character_45 : decode cX6_character 45 = .ok (.iload_n 1, 1) := by decide +kernel
theorem dX6_character_46 : decode cX6_character 46 = .ok (.iload_n 3, 1) := by decide +kernel
theorem dX6_character_47 : decode cX6_character 47 = .ok (.invokevirtual 94, 3) := by decide +kernel
theorem dX6_character_50 : decode cX6_character 50 = .ok (.lstore 4, 2) := by decide +kernel
theorem dX6_character_52 : decode cX6_character 52 = .ok (.iload_n 3, 1) := by decide +kernel
theorem dX6_character_53 : decode cX6_character 53 = .ok (.iconst 2, 1) := by decide +kernel
theorem dX6_character_54 : decode cX6_character 54 = .ok (.irem, 1) := by decide +kernel
theorem dX6_character_55 : decode cX6_character 55 = .ok (.ifCond .ne 8, 3) := by decide +kernel
theorem dX6_character_58 : decode cX6_character 58 = .ok (.lload 4, 2) := by decide +kernel
theorem dX6_character_60 : decode cX6_character 60 = .ok (.goto 6, 3) := by decide +kernel
theorem dX6_character_63 : decode cX6_character 63 = .ok (.lload 4, 2) := by decide +kernel
theorem dX6_character_65 : decode cX6_character 65 = .ok (.lneg, 1) := by decide +kernel
theorem dX6_character_66 : decode cX6_character 66 = .ok (.lreturn, 1) := by decide +kernel
theorem dX6_feed_0 : decode cX6_feed 0 = .ok (.iload_n 3, 1) := by decide +kernel
theorem dX6_feed_1 : decode cX6_feed 1 = .ok (.iconst 1, 1) := by decide +kernel
theorem dX6_feed_2 : decode cX6_feed 2 = .ok (.if_icmp .lt 9, 3) := by decide +kernel
theorem dX6_feed_5 : decode cX6_feed 5 = .ok (.iload_n 3, 1) := by decide +kernel
theorem dX6_feed_6 : decode cX6_feed 6 = .ok (.bipush 8, 2) := by decide +kernel
theorem dX6_feed_8 : decode cX6_feed 8 = .ok (.if_icmp .le 5, 3) := by decide +kernel
theorem dX6_feed_11 : decode cX6_feed 11 = .ok (.iconst (-1), 1) := by decide +kernel
theorem dX6_feed_12 : decode cX6_feed 12 = .ok (.ireturn, 1) := by decide +kernel
theorem dX6_feed_13 : decode cX6_feed 13 = .ok (.aload_n 0, 1) := by decide +kernel
theorem dX6_feed_14 : decode cX6_feed 14 = .ok (.getfield 35, 3) := by decide +kernel
theorem dX6_feed_17 : decode cX6_feed 17 = .ok (.getfield 98, 3) := by decide +kernel
theorem dX6_feed_20 : decode cX6_feed 20 = .ok (.iload_n 3, 1) := by decide +kernel
theorem dX6_feed_21 : decode cX6_feed 21 = .ok (.iadd, 1) := by decide +kernel
theorem dX6_feed_22 : decode cX6_feed 22 = .ok (.sipush 200, 3) := by decide +kernel
theorem dX6_feed_25 : decode cX6_feed 25 = .ok (.if_icmp .le 6, 3) := by decide +kernel
theorem dX6_feed_28 : decode cX6_feed 28 = .ok (.bipush (-2), 2) := by decide +kernel
theorem dX6_feed_30 : decode cX6_feed 30 = .ok (.ireturn, 1) := by decide +kernel
theorem dX6_feed_31 : decode cX6_feed 31 = .ok (.iconst 0, 1) := by decide +kernel
theorem dX6_feed_32 : decode cX6_feed 32 = .ok (.istore 4, 2) := by decide +kernel
theorem dX6_feed_34 : decode cX6_feed 34 = .ok (.iload 4, 2) := by decide +kernel
theorem dX6_feed_36 : decode cX6_feed 36 = .ok (.iload_n 3, 1) := by decide +kernel
theorem dX6_feed_37 : decode cX6_feed 37 = .ok (.if_icmp .ge 25, 3) := by decide +kernel
theorem dX6_feed_40 : decode cX6_feed 40 = .ok (.aload_n 0, 1) := by decide +kernel
theorem dX6_feed_41 : decode cX6_feed 41 = .ok (.getfield 35, 3) := by decide +kernel
theorem dX6_feed_44 : decode cX6_feed 44 = .ok (.lload_n 1, 1) := by decide +kernel
theorem dX6_feed_45 : decode cX6_feed 45 = .ok (.bipush 8, 2) := by decide +kernel
theorem dX6_feed_47 : decode cX6_feed 47 = .ok (.iload 4, 2) := by decide +kernel
theorem dX6_feed_49 : decode cX6_feed 49 = .ok (.imul, 1) := by decide +kernel
theorem dX6_feed_50 : decode cX6_feed 50 = .ok (.lushr, 1) := by decide +kernel
theorem dX6_feed_51 : decode cX6_feed 51 = .ok (.l2i, 1) := by decide +kernel
theorem dX6_feed_52 : decode cX6_feed 52 = .ok (.i2b, 1) := by decide +kernel
theorem dX6_feed_53 : decode cX6_feed 53 = .ok (.invokevirtual 101, 3) := by decide +kernel
theorem dX6_feed_56 : decode cX6_feed 56 = .ok (.iinc 4 1, 3) := by decide +kernel
theorem dX6_feed_59 : decode cX6_feed 59 = .ok (.goto (-25), 3) := by decide +kernel
theorem dX6_feed_62 : decode cX6_feed 62 = .ok (.aload_n 0, 1) := by decide +kernel
theorem dX6_feed_63 : decode cX6_feed 63 = .ok (.getfield 35, 3) := by decide +kernel
theorem dX6_feed_66 : decode cX6_feed 66 = .ok (.getfield 98, 3) := by decide +kernel
theorem dX6_feed_69 : decode cX6_feed 69 = .ok (.ireturn, 1) := by decide +kernel
theorem dX6_text_0 : decode cX6_text 0 = .ok (.aload_n 0, 1) := by decide +kernel
theorem dX6_text_1 : decode cX6_text 1 = .ok (.getfield 19, 3) := by decide +kernel
theorem dX6_text_4 : decode cX6_text 4 = .ok (.aload_n 0, 1) := by decide +kernel
theorem dX6_text_5 : decode cX6_text 5 = .ok (.getfield 10, 3) := by decide +kernel
theorem dX6_text_8 : decode cX6_text 8 = .ok (.invokevirtual 105, 3) := by decide +kernel
theorem dX6_text_11 : decode cX6_text 11 = .ok (.aload_n 0, 1) := by decide +kernel
theorem dX6_text_12 : decode cX6_text 12 = .ok (.getfield 35, 3) := by decide +kernel
theorem dX6_text_15 : decode cX6_text 15 = .ok (.aload_n 0, 1) := by decide +kernel
theorem dX6_text_16 : decode cX6_text 16 = .ok (.getfield 19, 3) := by decide +kernel
theorem dX6_text_19 : decode cX6_text 19 = .ok (.invokevirtual 109, 3) := by decide +kernel
theorem dX6_text_22 : decode cX6_text 22 = .ok (.istore_n 1, 1) := by decide +kernel
theorem dX6_text_23 : decode cX6_text 23 = .ok (.iload_n 1, 1) := by decide +kernel
theorem dX6_text_24 : decode cX6_text 24 = .ok (.ifCond .lt 14, 3) := by decide +kernel
theorem dX6_text_27 : decode cX6_text 27 = .ok (.aload_n 0, 1) := by decide +kernel
theorem dX6_text_28 : decode cX6_text 28 = .ok (.getfield 10, 3) := by decide +kernel
theorem dX6_text_31 : decode cX6_text 31 = .ok (.aload_n 0, 1) := by decide +kernel
theorem dX6_text_32 : decode cX6_text 32 = .ok (.getfield 19, 3) := by decide +kernel
theorem dX6_text_35 : decode cX6_text 35 = .ok (.invokevirtual 105, 3) := by decide +kernel
theorem dX6_text_38 : decode cX6_text 38 = .ok (.aload_n 0, 1) := by decide +kernel
theorem dX6_text_39 : decode cX6_text 39 = .ok (.getfield 35, 3) := by decide +kernel
theorem dX6_text_42 : decode cX6_text 42 = .ok (.iconst 0, 1) := by decide +kernel
theorem dX6_text_43 : decode cX6_text 43 = .ok (.putfield 98, 3) := by decide +kernel
theorem dX6_text_46 : decode cX6_text 46 = .ok (.iload_n 1, 1) := by decide +kernel
theorem dX6_text_47 : decode cX6_text 47 = .ok (.ireturn, 1) := by decide +kernel
theorem dX6_equation_0 : decode cX6_equation 0 = .ok (.iload_n 1, 1) := by decide +kernel
theorem dX6_equation_1 : decode cX6_equation 1 = .ok (.invokestatic 113, 3) := by decide +kernel
theorem dX6_equation_4 : decode cX6_equation 4 = .ok (.ifCond .eq 10, 3) := by decide +kernel
theorem dX6_equation_7 : decode cX6_equation 7 = .ok (.iload_n 2, 1) := by decide +kernel
theorem dX6_equation_8 : decode cX6_equation 8 = .ok (.invokestatic 117, 3) := by decide +kernel
theorem dX6_equation_11 : decode cX6_equation 11 = .ok (.ifCond .ne 5, 3) := by decide +kernel
theorem dX6_equation_14 : decode cX6_equation 14 = .ok (.iconst (-1), 1) := by decide +kernel
theorem dX6_equation_15 : decode cX6_equation 15 = .ok (.ireturn, 1) := by decide +kernel
theorem dX6_equation_16 : decode cX6_equation 16 = .ok (.aload_n 0, 1) := by decide +kernel
theorem dX6_equation_17 : decode cX6_equation 17 = .ok (.getfield 10, 3) := by decide +kernel
theorem dX6_equation_20 : decode cX6_equation 20 = .ok (.getfield 120, 3) := by decide +kernel
theorem dX6_equation_23 : decode cX6_equation 23 = .ok (.bipush 6, 2) := by decide +kernel
theorem dX6_equation_25 : decode cX6_equation 25 = .ok (.if_icmp .lt 6, 3) := by decide +kernel
theorem dX6_equation_28 : decode cX6_equation 28 = .ok (.bipush (-2), 2) := by decide +kernel
theorem dX6_equation_30 : decode cX6_equation 30 = .ok (.ireturn, 1) := by decide +kernel
theorem dX6_equation_31 : decode cX6_equation 31 = .ok (.aload_n 0, 1) := by decide +kernel
theorem dX6_equation_32 : decode cX6_equation 32 = .ok (.getfield 10, 3) := by decide +kernel
theorem dX6_equation_35 : decode cX6_equation 35 = .ok (.dup, 1) := by decide +kernel
theorem dX6_equation_36 : decode cX6_equation 36 = .ok (.getfield 120, 3) := by decide +kernel
theorem dX6_equation_39 : decode cX6_equation 39 = .ok (.iconst 1, 1) := by decide +kernel
theorem dX6_equation_40 : decode cX6_equation 40 = .ok (.iadd, 1) := by decide +kernel
theorem dX6_equation_41 : decode cX6_equation 41 = .ok (.putfield 120, 3) := by decide +kernel
theorem dX6_equation_44 : decode cX6_equation 44 = .ok (.aload_n 0, 1) := by decide +kernel
theorem dX6_equation_45 : decode cX6_equation 45 = .ok (.getfield 10, 3) := by decide +kernel
theorem dX6_equation_48 : decode cX6_equation 48 = .ok (.aload_n 0, 1) := by decide +kernel
theorem dX6_equation_49 : decode cX6_equation 49 = .ok (.getfield 10, 3) := by decide +kernel
theorem dX6_equation_52 : decode cX6_equation 52 = .ok (.getfield 120, 3) := by decide +kernel
theorem dX6_equation_55 : decode cX6_equation 55 = .ok (.iconst 1, 1) := by decide +kernel
theorem dX6_equation_56 : decode cX6_equation 56 = .ok (.isub, 1) := by decide +kernel
theorem dX6_equation_57 : decode cX6_equation 57 = .ok (.iload_n 1, 1) := by decide +kernel
theorem dX6_equation_58 : decode cX6_equation 58 = .ok (.iload_n 2, 1) := by decide +kernel
theorem dX6_equation_59 : decode cX6_equation 59 = .ok (.invokevirtual 121, 3) := by decide +kernel
theorem dX6_equation_62 : decode cX6_equation 62 = .ok (.aload_n 0, 1) := by decide +kernel
theorem dX6_equation_63 : decode cX6_equation 63 = .ok (.getfield 10, 3) := by decide +kernel
theorem dX6_equation_66 : decode cX6_equation 66 = .ok (.getfield 120, 3) := by decide +kernel
theorem dX6_equation_69 : decode cX6_equation 69 = .ok (.iconst 1, 1) := by decide +kernel
theorem dX6_equation_70 : decode cX6_equation 70 = .ok (.isub, 1) := by decide +kernel
theorem dX6_equation_71 : decode cX6_equation 71 = .ok (.ireturn, 1) := by decide +kernel
theorem dX6_of_0 : decode cX6_of 0 = .ok (.aload_n 0, 1) := by decide +kernel
theorem dX6_of_1 : decode cX6_of 1 = .ok (.getfield 10, 3) := by decide +kernel
theorem dX6_of_4 : decode cX6_of 4 = .ok (.iload_n 1, 1) := by decide +kernel
theorem dX6_of_5 : decode cX6_of 5 = .ok (.invokevirtual 125, 3) := by decide +kernel
theorem dX6_of_8 : decode cX6_of 8 = .ok (.ifCond .eq 13, 3) := by decide +kernel
theorem dX6_of_11 : decode cX6_of 11 = .ok (.iload_n 2, 1) := by decide +kernel
theorem dX6_of_12 : decode cX6_of 12 = .ok (.ifCond .lt 9, 3) := by decide +kernel
theorem dX6_of_15 : decode cX6_of 15 = .ok (.iload_n 2, 1) := by decide +kernel
theorem dX6_of_16 : decode cX6_of 16 = .ok (.bipush 6, 2) := by decide +kernel
theorem dX6_of_18 : decode cX6_of 18 = .ok (.if_icmp .le 5, 3) := by decide +kernel
theorem dX6_of_21 : decode cX6_of 21 = .ok (.iconst (-1), 1) := by decide +kernel
theorem dX6_of_22 : decode cX6_of 22 = .ok (.ireturn, 1) := by decide +kernel
theorem dX6_of_23 : decode cX6_of 23 = .ok (.aload_n 0, 1) := by decide +kernel
theorem dX6_of_24 : decode cX6_of 24 = .ok (.getfield 10, 3) := by decide +kernel
theorem dX6_of_27 : decode cX6_of 27 = .ok (.iload_n 1, 1) := by decide +kernel
theorem dX6_of_28 : decode cX6_of 28 = .ok (.invokevirtual 128, 3) := by decide +kernel
theorem dX6_of_31 : decode cX6_of 31 = .ok (.istore_n 3, 1) := by decide +kernel
theorem dX6_of_32 : decode cX6_of 32 = .ok (.iload_n 2, 1) := by decide +kernel
theorem dX6_of_33 : decode cX6_of 33 = .ok (.ifCond .ne 5, 3) := by decide +kernel
theorem dX6_of_36 : decode cX6_of 36 = .ok (.iload_n 3, 1) := by decide +kernel
theorem dX6_of_37 : decode cX6_of 37 = .ok (.ireturn, 1) := by decide +kernel
theorem dX6_of_38 : decode cX6_of 38 = .ok (.iload_n 2, 1) := by decide +kernel
theorem dX6_of_39 : decode cX6_of 39 = .ok (.iconst 1, 1) := by decide +kernel
theorem dX6_of_40 : decode cX6_of 40 = .ok (.if_icmp .ne 15, 3) := by decide +kernel
theorem dX6_of_43 : decode cX6_of 43 = .ok (.bipush 10, 2) := by decide +kernel
theorem dX6_of_45 : decode cX6_of 45 = .ok (.aload_n 0, 1) := by decide +kernel
theorem dX6_of_46 : decode cX6_of 46 = .ok (.getfield 10, 3) := by decide +kernel
theorem dX6_of_49 : decode cX6_of 49 = .ok (.iload_n 1, 1) := by decide +kernel
theorem dX6_of_50 : decode cX6_of 50 = .ok (.invokevirtual 131, 3) := by decide +kernel
theorem dX6_of_53 : decode cX6_of 53 = .ok (.iadd, 1) := by decide +kernel
theorem dX6_of_54 : decode cX6_of 54 = .ok (.ireturn, 1) := by decide +kernel
theorem dX6_of_55 : decode cX6_of 55 = .ok (.iload_n 2, 1) := by decide +kernel
theorem dX6_of_56 : decode cX6_of 56 = .ok (.iconst 2, 1) := by decide +kernel
theorem dX6_of_57 : decode cX6_of 57 = .ok (.if_icmp .ne 20, 3) := by decide +kernel
theorem dX6_of_60 : decode cX6_of 60 = .ok (.aload_n 0, 1) := by decide +kernel
theorem dX6_of_61 : decode cX6_of 61 = .ok (.getfield 10, 3) := by decide +kernel
theorem dX6_of_64 : decode cX6_of 64 = .ok (.iload_n 3, 1) := by decide +kernel
theorem dX6_of_65 : decode cX6_of 65 = .ok (.invokevirtual 134, 3) := by decide +kernel
theorem dX6_of_68 : decode cX6_of 68 = .ok (.ifCond .eq 7, 3) := by decide +kernel
theorem dX6_of_71 : decode cX6_of 71 = .ok (.iconst 1, 1) := by decide +kernel
theorem dX6_of_72 : decode cX6_of 72 = .ok (.goto 4, 3) := by decide +kernel
theorem dX6_of_75 : decode cX6_of 75 = .ok (.iconst 0, 1) := by decide +kernel
theorem dX6_of_76 : decode cX6_of 76 = .ok (.ireturn, 1) := by decide +kernel
theorem dX6_of_77 : decode cX6_of 77 = .ok (.iload_n 2, 1) := by decide +kernel
theorem dX6_of_78 : decode cX6_of 78 = .ok (.iconst 3, 1) := by decide +kernel
theorem dX6_of_79 : decode cX6_of 79 = .ok (.if_icmp .ne 28, 3) := by decide +kernel
theorem dX6_of_82 : decode cX6_of 82 = .ok (.aload_n 0, 1) := by decide +kernel
theorem dX6_of_83 : decode cX6_of 83 = .ok (.getfield 10, 3) := by decide +kernel
theorem dX6_of_86 : decode cX6_of 86 = .ok (.iload_n 3, 1) := by decide +kernel
theorem dX6_of_87 : decode cX6_of 87 = .ok (.invokevirtual 137, 3) := by decide +kernel
theorem dX6_of_90 : decode cX6_of 90 = .ok (.ifCond .eq 14, 3) := by decide +kernel
theorem dX6_of_93 : decode cX6_of 93 = .ok (.aload_n 0, 1) := by decide +kernel
theorem dX6_of_94 : decode cX6_of 94 = .ok (.getfield 10, 3) := by decide +kernel
theorem dX6_of_97 : decode cX6_of 97 = .ok (.iload_n 3, 1) := by decide +kernel
theorem dX6_of_98 : decode cX6_of 98 = .ok (.invokevirtual 140, 3) := by decide +kernel
theorem dX6_of_101 : decode cX6_of 101 = .ok (.goto 5, 3) := by decide +kernel
theorem dX6_of_104 : decode cX6_of 104 = .ok (.bipush (-4), 2) := by decide +kernel
theorem dX6_of_106 : decode cX6_of 106 = .ok (.ireturn, 1) := by decide +kernel
theorem dX6_of_107 : decode cX6_of 107 = .ok (.aload_n 0, 1) := by decide +kernel
theorem dX6_of_108 : decode cX6_of 108 = .ok (.getfield 10, 3) := by decide +kernel
theorem dX6_of_111 : decode cX6_of 111 = .ok (.iload_n 3, 1) := by decide +kernel
theorem dX6_of_112 : decode cX6_of 112 = .ok (.invokevirtual 134, 3) := by decide +kernel
theorem dX6_of_115 : decode cX6_of 115 = .ok (.ifCond .ne 6, 3) := by decide +kernel
theorem dX6_of_118 : decode cX6_of 118 = .ok (.bipush (-4), 2) := by decide +kernel
theorem dX6_of_120 : decode cX6_of 120 = .ok (.ireturn, 1) := by decide +kernel
theorem dX6_of_121 : decode cX6_of 121 = .ok (.aload_n 0, 1) := by decide +kernel
theorem dX6_of_122 : decode cX6_of 122 = .ok (.iload_n 1, 1) := by decide +kernel
theorem dX6_of_123 : decode cX6_of 123 = .ok (.invokevirtual 143, 3) := by decide +kernel
theorem dX6_of_126 : decode cX6_of 126 = .ok (.iload_n 2, 1) := by decide +kernel
theorem dX6_of_127 : decode cX6_of 127 = .ok (.iconst 4, 1) := by decide +kernel
theorem dX6_of_128 : decode cX6_of 128 = .ok (.if_icmp .ne 11, 3) := by decide +kernel
theorem dX6_of_131 : decode cX6_of 131 = .ok (.aload_n 0, 1) := by decide +kernel
theorem dX6_of_132 : decode cX6_of 132 = .ok (.getfield 25, 3) := by decide +kernel
theorem dX6_of_135 : decode cX6_of 135 = .ok (.getfield 147, 3) := by decide +kernel
theorem dX6_of_138 : decode cX6_of 138 = .ok (.ireturn, 1) := by decide +kernel
theorem dX6_of_139 : decode cX6_of 139 = .ok (.iload_n 2, 1) := by decide +kernel
theorem dX6_of_140 : decode cX6_of 140 = .ok (.iconst 5, 1) := by decide +kernel
theorem dX6_of_141 : decode cX6_of 141 = .ok (.if_icmp .ne 13, 3) := by decide +kernel
theorem dX6_of_144 : decode cX6_of 144 = .ok (.aload_n 0, 1) := by decide +kernel
theorem dX6_of_145 : decode cX6_of 145 = .ok (.getfield 25, 3) := by decide +kernel
theorem dX6_of_148 : decode cX6_of 148 = .ok (.invokevirtual 150, 3) := by decide +kernel
theorem dX6_of_151 : decode cX6_of 151 = .ok (.goto 13, 3) := by decide +kernel
theorem dX6_of_154 : decode cX6_of 154 = .ok (.aload_n 0, 1) := by decide +kernel
theorem dX6_of_155 : decode cX6_of 155 = .ok (.getfield 25, 3) := by decide +kernel
theorem dX6_of_158 : decode cX6_of 158 = .ok (.invokevirtual 154, 3) := by decide +kernel
theorem dX6_of_161 : decode cX6_of 161 = .ok (.invokestatic 158, 3) := by decide +kernel
theorem dX6_of_164 : decode cX6_of 164 = .ok (.ireturn, 1) := by decide +kernel
theorem dX6_change_0 : decode cX6_change 0 = .ok (.aload_n 0, 1) := by decide +kernel
theorem dX6_change_1 : decode cX6_change 1 = .ok (.getfield 10, 3) := by decide +kernel
theorem dX6_change_4 : decode cX6_change 4 = .ok (.iload_n 1, 1) := by decide +kernel
theorem dX6_change_5 : decode cX6_change 5 = .ok (.invokevirtual 125, 3) := by decide +kernel
theorem dX6_change_8 : decode cX6_change 8 = .ok (.ifCond .eq 17, 3) := by decide +kernel
theorem dX6_change_11 : decode cX6_change 11 = .ok (.iload_n 2, 1) := by decide +kernel
theorem dX6_change_12 : decode cX6_change 12 = .ok (.invokestatic 113, 3) := by decide +kernel
theorem dX6_change_15 : decode cX6_change 15 = .ok (.ifCond .eq 10, 3) := by decide +kernel
theorem dX6_change_18 : decode cX6_change 18 = .ok (.iload_n 3, 1) := by decide +kernel
theorem dX6_change_19 : decode cX6_change 19 = .ok (.invokestatic 117, 3) := by decide +kernel
theorem dX6_change_22 : decode cX6_change 22 = .ok (.ifCond .ne 5, 3) := by decide +kernel
theorem dX6_change_25 : decode cX6_change 25 = .ok (.iconst (-1), 1) := by decide +kernel
theorem dX6_change_26 : decode cX6_change 26 = .ok (.ireturn, 1) := by decide +kernel
theorem dX6_change_27 : decode cX6_change 27 = .ok (.aload_n 0, 1) := by decide +kernel
theorem dX6_change_28 : decode cX6_change 28 = .ok (.getfield 10, 3) := by decide +kernel
theorem dX6_change_31 : decode cX6_change 31 = .ok (.iload_n 1, 1) := by decide +kernel
theorem dX6_change_32 : decode cX6_change 32 = .ok (.invokevirtual 128, 3) := by decide +kernel
theorem dX6_change_35 : decode cX6_change 35 = .ok (.istore 4, 2) := by decide +kernel
theorem dX6_change_37 : decode cX6_change 37 = .ok (.aload_n 0, 1) := by decide +kernel
theorem dX6_change_38 : decode cX6_change 38 = .ok (.getfield 10, 3) := by decide +kernel
theorem dX6_change_41 : decode cX6_change 41 = .ok (.iload_n 1, 1) := by decide +kernel
theorem dX6_change_42 : decode cX6_change 42 = .ok (.iload_n 2, 1) := by decide +kernel
theorem dX6_change_43 : decode cX6_change 43 = .ok (.iload_n 3, 1) := by decide +kernel
theorem dX6_change_44 : decode cX6_change 44 = .ok (.invokevirtual 121, 3) := by decide +kernel
theorem dX6_change_47 : decode cX6_change 47 = .ok (.iload 4, 2) := by decide +kernel
theorem dX6_change_49 : decode cX6_change 49 = .ok (.ireturn, 1) := by decide +kernel
theorem dX6_right_0 : decode cX6_right 0 = .ok (.aload_n 0, 1) := by decide +kernel
theorem dX6_right_1 : decode cX6_right 1 = .ok (.getfield 10, 3) := by decide +kernel
theorem dX6_right_4 : decode cX6_right 4 = .ok (.iload_n 1, 1) := by decide +kernel
theorem dX6_right_5 : decode cX6_right 5 = .ok (.invokevirtual 125, 3) := by decide +kernel
theorem dX6_right_8 : decode cX6_right 8 = .ok (.ifCond .eq 16, 3) := by decide +kernel
theorem dX6_right_11 : decode cX6_right 11 = .ok (.aload_n 0, 1) := by decide +kernel
theorem dX6_right_12 : decode cX6_right 12 = .ok (.getfield 10, 3) := by decide +kernel
theorem dX6_right_15 : decode cX6_right 15 = .ok (.iconst 1, 1) := by decide +kernel
theorem dX6_right_16 : decode cX6_right 16 = .ok (.iload_n 2, 1) := by decide +kernel
theorem dX6_right_17 : decode cX6_right 17 = .ok (.iload_n 3, 1) := by decide +kernel
theorem dX6_right_18 : decode cX6_right 18 = .ok (.invokevirtual 71, 3) := by decide +kernel
theorem dX6_right_21 : decode cX6_right 21 = .ok (.ifCond .ne 8, 3) := by decide +kernel
theorem dX6_right_24 : decode cX6_right 24 = .ok (.iconst (-1), 1) := by decide +kernel
theorem dX6_right_25 : decode cX6_right 25 = .ok (.invokestatic 87, 3) := by decide +kernel
theorem dX6_right_28 : decode cX6_right 28 = .ok (.lreturn, 1) := by decide +kernel
theorem dX6_right_29 : decode cX6_right 29 = .ok (.aload_n 0, 1) := by decide +kernel
theorem dX6_right_30 : decode cX6_right 30 = .ok (.getfield 10, 3) := by decide +kernel
theorem dX6_right_33 : decode cX6_right 33 = .ok (.aload_n 0, 1) := by decide +kernel
theorem dX6_right_34 : decode cX6_right 34 = .ok (.getfield 10, 3) := by decide +kernel
theorem dX6_right_37 : decode cX6_right 37 = .ok (.iload_n 1, 1) := by decide +kernel
theorem dX6_right_38 : decode cX6_right 38 = .ok (.invokevirtual 128, 3) := by decide +kernel
theorem dX6_right_41 : decode cX6_right 41 = .ok (.invokevirtual 137, 3) := by decide +kernel
theorem dX6_right_44 : decode cX6_right 44 = .ok (.ifCond .ne 9, 3) := by decide +kernel
theorem dX6_right_47 : decode cX6_right 47 = .ok (.bipush (-4), 2) := by decide +kernel
theorem dX6_right_49 : decode cX6_right 49 = .ok (.invokestatic 87, 3) := by decide +kernel
theorem dX6_right_52 : decode cX6_right 52 = .ok (.lreturn, 1) := by decide +kernel
theorem dX6_right_53 : decode cX6_right 53 = .ok (.aload_n 0, 1) := by decide +kernel
theorem dX6_right_54 : decode cX6_right 54 = .ok (.getfield 10, 3) := by decide +kernel
theorem dX6_right_57 : decode cX6_right 57 = .ok (.aload_n 0, 1) := by decide +kernel
theorem dX6_right_58 : decode cX6_right 58 = .ok (.getfield 10, 3) := by decide +kernel
theorem dX6_right_61 : decode cX6_right 61 = .ok (.iload_n 1, 1) := by decide +kernel
theorem dX6_right_62 : decode cX6_right 62 = .ok (.invokevirtual 128, 3) := by decide +kernel
theorem dX6_right_65 : decode cX6_right 65 = .ok (.iload_n 2, 1) := by decide +kernel
theorem dX6_right_66 : decode cX6_right 66 = .ok (.iload_n 3, 1) := by decide +kernel
theorem dX6_right_67 : decode cX6_right 67 = .ok (.invokevirtual 162, 3) := by decide +kernel
theorem dX6_right_70 : decode cX6_right 70 = .ok (.i2l, 1) := by decide +kernel
theorem dX6_right_71 : decode cX6_right 71 = .ok (.lreturn, 1) := by decide +kernel
theorem dX6_solution_0 : decode cX6_solution 0 = .ok (.aload_n 0, 1) := by decide +kernel
theorem dX6_solution_1 : decode cX6_solution 1 = .ok (.getfield 10, 3) := by decide +kernel
theorem dX6_solution_4 : decode cX6_solution 4 = .ok (.iload_n 1, 1) := by decide +kernel
theorem dX6_solution_5 : decode cX6_solution 5 = .ok (.invokevirtual 125, 3) := by decide +kernel
theorem dX6_solution_8 : decode cX6_solution 8 = .ok (.ifCond .eq 24, 3) := by decide +kernel
theorem dX6_solution_11 : decode cX6_solution 11 = .ok (.aload_n 0, 1) := by decide +kernel
theorem dX6_solution_12 : decode cX6_solution 12 = .ok (.getfield 10, 3) := by decide +kernel
theorem dX6_solution_15 : decode cX6_solution 15 = .ok (.iconst 2, 1) := by decide +kernel
theorem dX6_solution_16 : decode cX6_solution 16 = .ok (.iload_n 2, 1) := by decide +kernel
theorem dX6_solution_17 : decode cX6_solution 17 = .ok (.iload_n 3, 1) := by decide +kernel
theorem dX6_solution_18 : decode cX6_solution 18 = .ok (.invokevirtual 71, 3) := by decide +kernel
theorem dX6_solution_21 : decode cX6_solution 21 = .ok (.ifCond .eq 11, 3) := by decide +kernel
theorem dX6_solution_24 : decode cX6_solution 24 = .ok (.iload 4, 2) := by decide +kernel
theorem dX6_solution_26 : decode cX6_solution 26 = .ok (.invokestatic 165, 3) := by decide +kernel
theorem dX6_solution_29 : decode cX6_solution 29 = .ok (.ifCond .ne 8, 3) := by decide +kernel
theorem dX6_solution_32 : decode cX6_solution 32 = .ok (.iconst (-1), 1) := by decide +kernel
theorem dX6_solution_33 : decode cX6_solution 33 = .ok (.invokestatic 87, 3) := by decide +kernel
theorem dX6_solution_36 : decode cX6_solution 36 = .ok (.lreturn, 1) := by decide +kernel
theorem dX6_solution_37 : decode cX6_solution 37 = .ok (.aload_n 0, 1) := by decide +kernel
theorem dX6_solution_38 : decode cX6_solution 38 = .ok (.getfield 10, 3) := by decide +kernel
theorem dX6_solution_41 : decode cX6_solution 41 = .ok (.aload_n 0, 1) := by decide +kernel
theorem dX6_solution_42 : decode cX6_solution 42 = .ok (.getfield 10, 3) := by decide +kernel
theorem dX6_solution_45 : decode cX6_solution 45 = .ok (.iload_n 1, 1) := by decide +kernel
theorem dX6_solution_46 : decode cX6_solution 46 = .ok (.invokevirtual 128, 3) := by decide +kernel
theorem dX6_solution_49 : decode cX6_solution 49 = .ok (.invokevirtual 134, 3) := by decide +kernel
theorem dX6_solution_52 : decode cX6_solution 52 = .ok (.ifCond .ne 9, 3) := by decide +kernel
theorem dX6_solution_55 : decode cX6_solution 55 = .ok (.bipush (-4), 2) := by decide +kernel
theorem dX6_solution_57 : decode cX6_solution 57 = .ok (.invokestatic 87, 3) := by decide +kernel
theorem dX6_solution_60 : decode cX6_solution 60 = .ok (.lreturn, 1) := by decide +kernel
theorem dX6_solution_61 : decode cX6_solution 61 = .ok (.aload_n 0, 1) := by decide +kernel
theorem dX6_solution_62 : decode cX6_solution 62 = .ok (.iload_n 1, 1) := by decide +kernel
theorem dX6_solution_63 : decode cX6_solution 63 = .ok (.invokevirtual 143, 3) := by decide +kernel
theorem dX6_solution_66 : decode cX6_solution 66 = .ok (.aload_n 0, 1) := by decide +kernel
theorem dX6_solution_67 : decode cX6_solution 67 = .ok (.getfield 25, 3) := by decide +kernel
theorem dX6_solution_70 : decode cX6_solution 70 = .ok (.invokevirtual 154, 3) := by decide +kernel
theorem dX6_solution_73 : decode cX6_solution 73 = .ok (.ifCond .ne 9, 3) := by decide +kernel
theorem dX6_solution_76 : decode cX6_solution 76 = .ok (.bipush (-3), 2) := by decide +kernel
theorem dX6_solution_78 : decode cX6_solution 78 = .ok (.invokestatic 87, 3) := by decide +kernel
theorem dX6_solution_81 : decode cX6_solution 81 = .ok (.lreturn, 1) := by decide +kernel
theorem dX6_solution_82 : decode cX6_solution 82 = .ok (.aload_n 0, 1) := by decide +kernel
theorem dX6_solution_83 : decode cX6_solution 83 = .ok (.aload_n 0, 1) := by decide +kernel
theorem dX6_solution_84 : decode cX6_solution 84 = .ok (.getfield 10, 3) := by decide +kernel
theorem dX6_solution_87 : decode cX6_solution 87 = .ok (.iload_n 1, 1) := by decide +kernel
theorem dX6_solution_88 : decode cX6_solution 88 = .ok (.invokevirtual 128, 3) := by decide +kernel
theorem dX6_solution_91 : decode cX6_solution 91 = .ok (.iload_n 2, 1) := by decide +kernel
theorem dX6_solution_92 : decode cX6_solution 92 = .ok (.iload_n 3, 1) := by decide +kernel
theorem dX6_solution_93 : decode cX6_solution 93 = .ok (.invokevirtual 168, 3) := by decide +kernel
theorem dX6_solution_96 : decode cX6_solution 96 = .ok (.aload_n 0, 1) := by decide +kernel
theorem dX6_solution_97 : decode cX6_solution 97 = .ok (.getfield 25, 3) := by decide +kernel
theorem dX6_solution_100 : decode cX6_solution 100 = .ok (.getfield 172, 3) := by decide +kernel
theorem dX6_solution_103 : decode cX6_solution 103 = .ok (.iload 4, 2) := by decide +kernel
theorem dX6_solution_105 : decode cX6_solution 105 = .ok (.invokestatic 176, 3) := by decide +kernel
theorem dX6_solution_108 : decode cX6_solution 108 = .ok (.lreturn, 1) := by decide +kernel
theorem dX6_base_0 : decode cX6_base 0 = .ok (.aload_n 0, 1) := by decide +kernel
theorem dX6_base_1 : decode cX6_base 1 = .ok (.getfield 10, 3) := by decide +kernel
theorem dX6_base_4 : decode cX6_base 4 = .ok (.iload_n 1, 1) := by decide +kernel
theorem dX6_base_5 : decode cX6_base 5 = .ok (.invokevirtual 125, 3) := by decide +kernel
theorem dX6_base_8 : decode cX6_base 8 = .ok (.ifCond .eq 35, 3) := by decide +kernel
theorem dX6_base_11 : decode cX6_base 11 = .ok (.iload_n 2, 1) := by decide +kernel
theorem dX6_base_12 : decode cX6_base 12 = .ok (.ifCond .lt 31, 3) := by decide +kernel
theorem dX6_base_15 : decode cX6_base 15 = .ok (.iload_n 2, 1) := by decide +kernel
theorem dX6_base_16 : decode cX6_base 16 = .ok (.bipush 9, 2) := by decide +kernel
theorem dX6_base_18 : decode cX6_base 18 = .ok (.if_icmp .ge 25, 3) := by decide +kernel
theorem dX6_base_21 : decode cX6_base 21 = .ok (.aload_n 0, 1) := by decide +kernel
theorem dX6_base_22 : decode cX6_base 22 = .ok (.getfield 10, 3) := by decide +kernel
theorem dX6_base_25 : decode cX6_base 25 = .ok (.iconst 2, 1) := by decide +kernel
theorem dX6_base_26 : decode cX6_base 26 = .ok (.iload_n 3, 1) := by decide +kernel
theorem dX6_base_27 : decode cX6_base 27 = .ok (.iload 4, 2) := by decide +kernel
theorem dX6_base_29 : decode cX6_base 29 = .ok (.invokevirtual 71, 3) := by decide +kernel
theorem dX6_base_32 : decode cX6_base 32 = .ok (.ifCond .eq 11, 3) := by decide +kernel
theorem dX6_base_35 : decode cX6_base 35 = .ok (.iload 5, 2) := by decide +kernel
theorem dX6_base_37 : decode cX6_base 37 = .ok (.invokestatic 165, 3) := by decide +kernel
theorem dX6_base_40 : decode cX6_base 40 = .ok (.ifCond .ne 8, 3) := by decide +kernel
theorem dX6_base_43 : decode cX6_base 43 = .ok (.iconst (-1), 1) := by decide +kernel
theorem dX6_base_44 : decode cX6_base 44 = .ok (.invokestatic 87, 3) := by decide +kernel
theorem dX6_base_47 : decode cX6_base 47 = .ok (.lreturn, 1) := by decide +kernel
theorem dX6_base_48 : decode cX6_base 48 = .ok (.aload_n 0, 1) := by decide +kernel
theorem dX6_base_49 : decode cX6_base 49 = .ok (.getfield 10, 3) := by decide +kernel
theorem dX6_base_52 : decode cX6_base 52 = .ok (.iload_n 1, 1) := by decide +kernel
theorem dX6_base_53 : decode cX6_base 53 = .ok (.invokevirtual 128, 3) := by decide +kernel
theorem dX6_base_56 : decode cX6_base 56 = .ok (.istore 6, 2) := by decide +kernel
theorem dX6_base_58 : decode cX6_base 58 = .ok (.aload_n 0, 1) := by decide +kernel
theorem dX6_base_59 : decode cX6_base 59 = .ok (.getfield 10, 3) := by decide +kernel
theorem dX6_base_62 : decode cX6_base 62 = .ok (.iload 6, 2) := by decide +kernel
theorem dX6_base_64 : decode cX6_base 64 = .ok (.invokevirtual 134, 3) := by decide +kernel
theorem dX6_base_67 : decode cX6_base 67 = .ok (.ifCond .ne 9, 3) := by decide +kernel
theorem dX6_base_70 : decode cX6_base 70 = .ok (.bipush (-4), 2) := by decide +kernel
theorem dX6_base_72 : decode cX6_base 72 = .ok (.invokestatic 87, 3) := by decide +kernel
theorem dX6_base_75 : decode cX6_base 75 = .ok (.lreturn, 1) := by decide +kernel
theorem dX6_base_76 : decode cX6_base 76 = .ok (.aload_n 0, 1) := by decide +kernel
theorem dX6_base_77 : decode cX6_base 77 = .ok (.iload_n 1, 1) := by decide +kernel
theorem dX6_base_78 : decode cX6_base 78 = .ok (.invokevirtual 143, 3) := by decide +kernel
theorem dX6_base_81 : decode cX6_base 81 = .ok (.aload_n 0, 1) := by decide +kernel
theorem dX6_base_82 : decode cX6_base 82 = .ok (.getfield 25, 3) := by decide +kernel
theorem dX6_base_85 : decode cX6_base 85 = .ok (.iload_n 2, 1) := by decide +kernel
theorem dX6_base_86 : decode cX6_base 86 = .ok (.invokevirtual 180, 3) := by decide +kernel
theorem dX6_base_89 : decode cX6_base 89 = .ok (.ifCond .ne 9, 3) := by decide +kernel
theorem dX6_base_92 : decode cX6_base 92 = .ok (.bipush (-3), 2) := by decide +kernel
theorem dX6_base_94 : decode cX6_base 94 = .ok (.invokestatic 87, 3) := by decide +kernel
theorem dX6_base_97 : decode cX6_base 97 = .ok (.lreturn, 1) := by decide +kernel
theorem dX6_base_98 : decode cX6_base 98 = .ok (.aload_n 0, 1) := by decide +kernel
theorem dX6_base_99 : decode cX6_base 99 = .ok (.getfield 10, 3) := by decide +kernel
theorem dX6_base_102 : decode cX6_base 102 = .ok (.iload 6, 2) := by decide +kernel
theorem dX6_base_104 : decode cX6_base 104 = .ok (.iload_n 3, 1) := by decide +kernel
theorem dX6_base_105 : decode cX6_base 105 = .ok (.iload 4, 2) := by decide +kernel
theorem dX6_base_107 : decode cX6_base 107 = .ok (.invokevirtual 183, 3) := by decide +kernel
theorem dX6_base_110 : decode cX6_base 110 = .ok (.i2l, 1) := by decide +kernel
theorem dX6_base_111 : decode cX6_base 111 = .ok (.aload_n 0, 1) := by decide +kernel
theorem dX6_base_112 : decode cX6_base 112 = .ok (.getfield 25, 3) := by decide +kernel
theorem dX6_base_115 : decode cX6_base 115 = .ok (.iload_n 2, 1) := by decide +kernel
theorem dX6_base_116 : decode cX6_base 116 = .ok (.aload_n 0, 1) := by decide +kernel
theorem dX6_base_117 : decode cX6_base 117 = .ok (.getfield 10, 3) := by decide +kernel
theorem dX6_base_120 : decode cX6_base 120 = .ok (.iload 6, 2) := by decide +kernel
theorem dX6_base_122 : decode cX6_base 122 = .ok (.iload_n 3, 1) := by decide +kernel
theorem dX6_base_123 : decode cX6_base 123 = .ok (.iload 4, 2) := by decide +kernel
theorem dX6_base_125 : decode cX6_base 125 = .ok (.invokevirtual 186, 3) := by decide +kernel
theorem dX6_base_128 : decode cX6_base 128 = .ok (.invokevirtual 189, 3) := by decide +kernel
theorem dX6_base_131 : decode cX6_base 131 = .ok (.lmul, 1) := by decide +kernel
theorem dX6_base_132 : decode cX6_base 132 = .ok (.lstore 7, 2) := by decide +kernel
theorem dX6_base_134 : decode cX6_base 134 = .ok (.lload 7, 2) := by decide +kernel
theorem dX6_base_136 : decode cX6_base 136 = .ok (.aload_n 0, 1) := by decide +kernel
theorem dX6_base_137 : decode cX6_base 137 = .ok (.getfield 25, 3) := by decide +kernel
theorem dX6_base_140 : decode cX6_base 140 = .ok (.getfield 172, 3) := by decide +kernel
theorem dX6_base_143 : decode cX6_base 143 = .ok (.iload 5, 2) := by decide +kernel
theorem dX6_base_145 : decode cX6_base 145 = .ok (.invokestatic 176, 3) := by decide +kernel
theorem dX6_base_148 : decode cX6_base 148 = .ok (.lreturn, 1) := by decide +kernel
theorem dX6_witness_0 : decode cX6_witness 0 = .ok (.aload_n 0, 1) := by decide +kernel
theorem dX6_witness_1 : decode cX6_witness 1 = .ok (.getfield 10, 3) := by decide +kernel
theorem dX6_witness_4 : decode cX6_witness 4 = .ok (.iload_n 1, 1) := by decide +kernel
theorem dX6_witness_5 : decode cX6_witness 5 = .ok (.invokevirtual 125, 3) := by decide +kernel
theorem dX6_witness_8 : decode cX6_witness 8 = .ok (.ifCond .eq 24, 3) := by decide +kernel
theorem dX6_witness_11 : decode cX6_witness 11 = .ok (.aload_n 0, 1) := by decide +kernel
theorem dX6_witness_12 : decode cX6_witness 12 = .ok (.getfield 10, 3) := by decide +kernel
theorem dX6_witness_15 : decode cX6_witness 15 = .ok (.iconst 2, 1) := by decide +kernel
theorem dX6_witness_16 : decode cX6_witness 16 = .ok (.iload_n 2, 1) := by decide +kernel
theorem dX6_witness_17 : decode cX6_witness 17 = .ok (.iload_n 3, 1) := by decide +kernel
theorem dX6_witness_18 : decode cX6_witness 18 = .ok (.invokevirtual 71, 3) := by decide +kernel
theorem dX6_witness_21 : decode cX6_witness 21 = .ok (.ifCond .eq 11, 3) := by decide +kernel
theorem dX6_witness_24 : decode cX6_witness 24 = .ok (.iload 4, 2) := by decide +kernel
theorem dX6_witness_26 : decode cX6_witness 26 = .ok (.invokestatic 165, 3) := by decide +kernel
theorem dX6_witness_29 : decode cX6_witness 29 = .ok (.ifCond .ne 8, 3) := by decide +kernel
theorem dX6_witness_32 : decode cX6_witness 32 = .ok (.iconst (-1), 1) := by decide +kernel
theorem dX6_witness_33 : decode cX6_witness 33 = .ok (.invokestatic 87, 3) := by decide +kernel
theorem dX6_witness_36 : decode cX6_witness 36 = .ok (.lreturn, 1) := by decide +kernel
theorem dX6_witness_37 : decode cX6_witness 37 = .ok (.aload_n 0, 1) := by decide +kernel
theorem dX6_witness_38 : decode cX6_witness 38 = .ok (.getfield 10, 3) := by decide +kernel
theorem dX6_witness_41 : decode cX6_witness 41 = .ok (.iload_n 1, 1) := by decide +kernel
theorem dX6_witness_42 : decode cX6_witness 42 = .ok (.invokevirtual 128, 3) := by decide +kernel
theorem dX6_witness_45 : decode cX6_witness 45 = .ok (.istore 5, 2) := by decide +kernel
theorem dX6_witness_47 : decode cX6_witness 47 = .ok (.aload_n 0, 1) := by decide +kernel
theorem dX6_witness_48 : decode cX6_witness 48 = .ok (.getfield 10, 3) := by decide +kernel
theorem dX6_witness_51 : decode cX6_witness 51 = .ok (.iload 5, 2) := by decide +kernel
theorem dX6_witness_53 : decode cX6_witness 53 = .ok (.invokevirtual 134, 3) := by decide +kernel
theorem dX6_witness_56 : decode cX6_witness 56 = .ok (.ifCond .ne 9, 3) := by decide +kernel
theorem dX6_witness_59 : decode cX6_witness 59 = .ok (.bipush (-4), 2) := by decide +kernel
theorem dX6_witness_61 : decode cX6_witness 61 = .ok (.invokestatic 87, 3) := by decide +kernel
theorem dX6_witness_64 : decode cX6_witness 64 = .ok (.lreturn, 1) := by decide +kernel
theorem dX6_witness_65 : decode cX6_witness 65 = .ok (.aload_n 0, 1) := by decide +kernel
theorem dX6_witness_66 : decode cX6_witness 66 = .ok (.iload 5, 2) := by decide +kernel
theorem dX6_witness_68 : decode cX6_witness 68 = .ok (.iload 5, 2) := by decide +kernel
theorem dX6_witness_70 : decode cX6_witness 70 = .ok (.aload_n 0, 1) := by decide +kernel
theorem dX6_witness_71 : decode cX6_witness 71 = .ok (.getfield 10, 3) := by decide +kernel
theorem dX6_witness_74 : decode cX6_witness 74 = .ok (.iload_n 1, 1) := by decide +kernel
theorem dX6_witness_75 : decode cX6_witness 75 = .ok (.invokevirtual 131, 3) := by decide +kernel
theorem dX6_witness_78 : decode cX6_witness 78 = .ok (.iconst 0, 1) := by decide +kernel
theorem dX6_witness_79 : decode cX6_witness 79 = .ok (.invokevirtual 192, 3) := by decide +kernel
theorem dX6_witness_82 : decode cX6_witness 82 = .ok (.aload_n 0, 1) := by decide +kernel
theorem dX6_witness_83 : decode cX6_witness 83 = .ok (.getfield 29, 3) := by decide +kernel
theorem dX6_witness_86 : decode cX6_witness 86 = .ok (.aload_n 0, 1) := by decide +kernel
theorem dX6_witness_87 : decode cX6_witness 87 = .ok (.getfield 25, 3) := by decide +kernel
theorem dX6_witness_90 : decode cX6_witness 90 = .ok (.invokevirtual 195, 3) := by decide +kernel
theorem dX6_witness_93 : decode cX6_witness 93 = .ok (.aload_n 0, 1) := by decide +kernel
theorem dX6_witness_94 : decode cX6_witness 94 = .ok (.getfield 25, 3) := by decide +kernel
theorem dX6_witness_97 : decode cX6_witness 97 = .ok (.invokevirtual 199, 3) := by decide +kernel
theorem dX6_witness_100 : decode cX6_witness 100 = .ok (.aload_n 0, 1) := by decide +kernel
theorem dX6_witness_101 : decode cX6_witness 101 = .ok (.getfield 25, 3) := by decide +kernel
theorem dX6_witness_104 : decode cX6_witness 104 = .ok (.invokevirtual 154, 3) := by decide +kernel
theorem dX6_witness_107 : decode cX6_witness 107 = .ok (.ifCond .eq 9, 3) := by decide +kernel
theorem dX6_witness_110 : decode cX6_witness 110 = .ok (.bipush (-3), 2) := by decide +kernel
theorem dX6_witness_112 : decode cX6_witness 112 = .ok (.invokestatic 87, 3) := by decide +kernel
theorem dX6_witness_115 : decode cX6_witness 115 = .ok (.lreturn, 1) := by decide +kernel
theorem dX6_witness_116 : decode cX6_witness 116 = .ok (.aload_n 0, 1) := by decide +kernel
theorem dX6_witness_117 : decode cX6_witness 117 = .ok (.getfield 29, 3) := by decide +kernel
theorem dX6_witness_120 : decode cX6_witness 120 = .ok (.invokevirtual 199, 3) := by decide +kernel
theorem dX6_witness_123 : decode cX6_witness 123 = .ok (.aload_n 0, 1) := by decide +kernel
theorem dX6_witness_124 : decode cX6_witness 124 = .ok (.getfield 29, 3) := by decide +kernel
theorem dX6_witness_127 : decode cX6_witness 127 = .ok (.iload_n 2, 1) := by decide +kernel
theorem dX6_witness_128 : decode cX6_witness 128 = .ok (.aload_n 0, 1) := by decide +kernel
theorem dX6_witness_129 : decode cX6_witness 129 = .ok (.getfield 10, 3) := by decide +kernel
theorem dX6_witness_132 : decode cX6_witness 132 = .ok (.getfield 64, 3) := by decide +kernel
theorem dX6_witness_135 : decode cX6_witness 135 = .ok (.imul, 1) := by decide +kernel
theorem dX6_witness_136 : decode cX6_witness 136 = .ok (.iload_n 3, 1) := by decide +kernel
theorem dX6_witness_137 : decode cX6_witness 137 = .ok (.iadd, 1) := by decide +kernel
theorem dX6_witness_138 : decode cX6_witness 138 = .ok (.invokevirtual 202, 3) := by decide +kernel
theorem dX6_witness_141 : decode cX6_witness 141 = .ok (.aload_n 0, 1) := by decide +kernel
theorem dX6_witness_142 : decode cX6_witness 142 = .ok (.getfield 29, 3) := by decide +kernel
theorem dX6_witness_145 : decode cX6_witness 145 = .ok (.getfield 172, 3) := by decide +kernel
theorem dX6_witness_148 : decode cX6_witness 148 = .ok (.iload 4, 2) := by decide +kernel
theorem dX6_witness_150 : decode cX6_witness 150 = .ok (.invokestatic 176, 3) := by decide +kernel
theorem dX6_witness_153 : decode cX6_witness 153 = .ok (.lreturn, 1) := by decide +kernel
theorem dX6_similar_0 : decode cX6_similar 0 = .ok (.aload_n 0, 1) := by decide +kernel
theorem dX6_similar_1 : decode cX6_similar 1 = .ok (.getfield 10, 3) := by decide +kernel
theorem dX6_similar_4 : decode cX6_similar 4 = .ok (.iload_n 1, 1) := by decide +kernel
theorem dX6_similar_5 : decode cX6_similar 5 = .ok (.invokevirtual 125, 3) := by decide +kernel
theorem dX6_similar_8 : decode cX6_similar 8 = .ok (.ifCond .ne 5, 3) := by decide +kernel
theorem dX6_similar_11 : decode cX6_similar 11 = .ok (.iconst (-1), 1) := by decide +kernel
theorem dX6_similar_12 : decode cX6_similar 12 = .ok (.ireturn, 1) := by decide +kernel
theorem dX6_similar_13 : decode cX6_similar 13 = .ok (.aload_n 0, 1) := by decide +kernel
theorem dX6_similar_14 : decode cX6_similar 14 = .ok (.iload_n 1, 1) := by decide +kernel
theorem dX6_similar_15 : decode cX6_similar 15 = .ok (.invokevirtual 204, 3) := by decide +kernel
theorem dX6_similar_18 : decode cX6_similar 18 = .ok (.ifCond .ne 6, 3) := by decide +kernel
theorem dX6_similar_21 : decode cX6_similar 21 = .ok (.bipush (-4), 2) := by decide +kernel
theorem dX6_similar_23 : decode cX6_similar 23 = .ok (.ireturn, 1) := by decide +kernel
theorem dX6_similar_24 : decode cX6_similar 24 = .ok (.aload_n 0, 1) := by decide +kernel
theorem dX6_similar_25 : decode cX6_similar 25 = .ok (.aload_n 0, 1) := by decide +kernel
theorem dX6_similar_26 : decode cX6_similar 26 = .ok (.getfield 10, 3) := by decide +kernel
theorem dX6_similar_29 : decode cX6_similar 29 = .ok (.iload_n 1, 1) := by decide +kernel
theorem dX6_similar_30 : decode cX6_similar 30 = .ok (.invokevirtual 128, 3) := by decide +kernel
theorem dX6_similar_33 : decode cX6_similar 33 = .ok (.iconst 0, 1) := by decide +kernel
theorem dX6_similar_34 : decode cX6_similar 34 = .ok (.aload_n 0, 1) := by decide +kernel
theorem dX6_similar_35 : decode cX6_similar 35 = .ok (.getfield 10, 3) := by decide +kernel
theorem dX6_similar_38 : decode cX6_similar 38 = .ok (.iload_n 1, 1) := by decide +kernel
theorem dX6_similar_39 : decode cX6_similar 39 = .ok (.invokevirtual 131, 3) := by decide +kernel
theorem dX6_similar_42 : decode cX6_similar 42 = .ok (.iconst 0, 1) := by decide +kernel
theorem dX6_similar_43 : decode cX6_similar 43 = .ok (.invokevirtual 192, 3) := by decide +kernel
theorem dX6_similar_46 : decode cX6_similar 46 = .ok (.aload_n 0, 1) := by decide +kernel
theorem dX6_similar_47 : decode cX6_similar 47 = .ok (.getfield 25, 3) := by decide +kernel
theorem dX6_similar_50 : decode cX6_similar 50 = .ok (.invokevirtual 199, 3) := by decide +kernel
theorem dX6_similar_53 : decode cX6_similar 53 = .ok (.aload_n 0, 1) := by decide +kernel
theorem dX6_similar_54 : decode cX6_similar 54 = .ok (.getfield 25, 3) := by decide +kernel
theorem dX6_similar_57 : decode cX6_similar 57 = .ok (.invokevirtual 154, 3) := by decide +kernel
theorem dX6_similar_60 : decode cX6_similar 60 = .ok (.invokestatic 158, 3) := by decide +kernel
theorem dX6_similar_63 : decode cX6_similar 63 = .ok (.ireturn, 1) := by decide +kernel
theorem dX6_whole_0 : decode cX6_whole 0 = .ok (.aload_n 0, 1) := by decide +kernel
theorem dX6_whole_1 : decode cX6_whole 1 = .ok (.getfield 10, 3) := by decide +kernel
theorem dX6_whole_4 : decode cX6_whole 4 = .ok (.iload_n 1, 1) := by decide +kernel
theorem dX6_whole_5 : decode cX6_whole 5 = .ok (.invokevirtual 125, 3) := by decide +kernel
theorem dX6_whole_8 : decode cX6_whole 8 = .ok (.ifCond .ne 8, 3) := by decide +kernel
theorem dX6_whole_11 : decode cX6_whole 11 = .ok (.iconst (-1), 1) := by decide +kernel
theorem dX6_whole_12 : decode cX6_whole 12 = .ok (.invokestatic 87, 3) := by decide +kernel
theorem dX6_whole_15 : decode cX6_whole 15 = .ok (.lreturn, 1) := by decide +kernel
theorem dX6_whole_16 : decode cX6_whole 16 = .ok (.aload_n 0, 1) := by decide +kernel
theorem dX6_whole_17 : decode cX6_whole 17 = .ok (.iload_n 1, 1) := by decide +kernel
theorem dX6_whole_18 : decode cX6_whole 18 = .ok (.invokevirtual 204, 3) := by decide +kernel
theorem dX6_whole_21 : decode cX6_whole 21 = .ok (.ifCond .ne 9, 3) := by decide +kernel
theorem dX6_whole_24 : decode cX6_whole 24 = .ok (.bipush (-4), 2) := by decide +kernel
theorem dX6_whole_26 : decode cX6_whole 26 = .ok (.invokestatic 87, 3) := by decide +kernel
theorem dX6_whole_29 : decode cX6_whole 29 = .ok (.lreturn, 1) := by decide +kernel
theorem dX6_whole_30 : decode cX6_whole 30 = .ok (.aload_n 0, 1) := by decide +kernel
theorem dX6_whole_31 : decode cX6_whole 31 = .ok (.aload_n 0, 1) := by decide +kernel
theorem dX6_whole_32 : decode cX6_whole 32 = .ok (.getfield 10, 3) := by decide +kernel
theorem dX6_whole_35 : decode cX6_whole 35 = .ok (.iload_n 1, 1) := by decide +kernel
theorem dX6_whole_36 : decode cX6_whole 36 = .ok (.invokevirtual 128, 3) := by decide +kernel
theorem dX6_whole_39 : decode cX6_whole 39 = .ok (.iconst 0, 1) := by decide +kernel
theorem dX6_whole_40 : decode cX6_whole 40 = .ok (.aload_n 0, 1) := by decide +kernel
theorem dX6_whole_41 : decode cX6_whole 41 = .ok (.getfield 10, 3) := by decide +kernel
theorem dX6_whole_44 : decode cX6_whole 44 = .ok (.iload_n 1, 1) := by decide +kernel
theorem dX6_whole_45 : decode cX6_whole 45 = .ok (.invokevirtual 131, 3) := by decide +kernel
theorem dX6_whole_48 : decode cX6_whole 48 = .ok (.iconst 0, 1) := by decide +kernel
theorem dX6_whole_49 : decode cX6_whole 49 = .ok (.invokevirtual 192, 3) := by decide +kernel
theorem dX6_whole_52 : decode cX6_whole 52 = .ok (.aload_n 0, 1) := by decide +kernel
theorem dX6_whole_53 : decode cX6_whole 53 = .ok (.getfield 25, 3) := by decide +kernel
theorem dX6_whole_56 : decode cX6_whole 56 = .ok (.invokevirtual 199, 3) := by decide +kernel
theorem dX6_whole_59 : decode cX6_whole 59 = .ok (.aload_n 0, 1) := by decide +kernel
theorem dX6_whole_60 : decode cX6_whole 60 = .ok (.getfield 25, 3) := by decide +kernel
theorem dX6_whole_63 : decode cX6_whole 63 = .ok (.invokevirtual 207, 3) := by decide +kernel
theorem dX6_whole_66 : decode cX6_whole 66 = .ok (.lreturn, 1) := by decide +kernel
theorem dX6_lower_0 : decode cX6_lower 0 = .ok (.aload_n 0, 1) := by decide +kernel
theorem dX6_lower_1 : decode cX6_lower 1 = .ok (.getfield 10, 3) := by decide +kernel
theorem dX6_lower_4 : decode cX6_lower 4 = .ok (.iload_n 1, 1) := by decide +kernel
theorem dX6_lower_5 : decode cX6_lower 5 = .ok (.invokevirtual 125, 3) := by decide +kernel
theorem dX6_lower_8 : decode cX6_lower 8 = .ok (.ifCond .eq 13, 3) := by decide +kernel
theorem dX6_lower_11 : decode cX6_lower 11 = .ok (.iload_n 2, 1) := by decide +kernel
theorem dX6_lower_12 : decode cX6_lower 12 = .ok (.iconst 1, 1) := by decide +kernel
theorem dX6_lower_13 : decode cX6_lower 13 = .ok (.if_icmp .lt 8, 3) := by decide +kernel
theorem dX6_lower_16 : decode cX6_lower 16 = .ok (.iload_n 2, 1) := by decide +kernel
theorem dX6_lower_17 : decode cX6_lower 17 = .ok (.iconst 2, 1) := by decide +kernel
theorem dX6_lower_18 : decode cX6_lower 18 = .ok (.if_icmp .le 5, 3) := by decide +kernel
theorem dX6_lower_21 : decode cX6_lower 21 = .ok (.iconst (-1), 1) := by decide +kernel
theorem dX6_lower_22 : decode cX6_lower 22 = .ok (.ireturn, 1) := by decide +kernel
theorem dX6_lower_23 : decode cX6_lower 23 = .ok (.aload_n 0, 1) := by decide +kernel
theorem dX6_lower_24 : decode cX6_lower 24 = .ok (.getfield 10, 3) := by decide +kernel
theorem dX6_lower_27 : decode cX6_lower 27 = .ok (.iload_n 2, 1) := by decide +kernel
theorem dX6_lower_28 : decode cX6_lower 28 = .ok (.invokevirtual 211, 3) := by decide +kernel
theorem dX6_lower_31 : decode cX6_lower 31 = .ok (.ifCond .eq 43, 3) := by decide +kernel
theorem dX6_lower_34 : decode cX6_lower 34 = .ok (.aload_n 0, 1) := by decide +kernel
theorem dX6_lower_35 : decode cX6_lower 35 = .ok (.getfield 10, 3) := by decide +kernel
theorem dX6_lower_38 : decode cX6_lower 38 = .ok (.aload_n 0, 1) := by decide +kernel
theorem dX6_lower_39 : decode cX6_lower 39 = .ok (.getfield 10, 3) := by decide +kernel
theorem dX6_lower_42 : decode cX6_lower 42 = .ok (.iload_n 1, 1) := by decide +kernel
theorem dX6_lower_43 : decode cX6_lower 43 = .ok (.invokevirtual 128, 3) := by decide +kernel
theorem dX6_lower_46 : decode cX6_lower 46 = .ok (.invokevirtual 137, 3) := by decide +kernel
theorem dX6_lower_49 : decode cX6_lower 49 = .ok (.ifCond .eq 25, 3) := by decide +kernel
theorem dX6_lower_52 : decode cX6_lower 52 = .ok (.aload_n 0, 1) := by decide +kernel
theorem dX6_lower_53 : decode cX6_lower 53 = .ok (.getfield 10, 3) := by decide +kernel
theorem dX6_lower_56 : decode cX6_lower 56 = .ok (.getfield 60, 3) := by decide +kernel
theorem dX6_lower_59 : decode cX6_lower 59 = .ok (.iload_n 2, 1) := by decide +kernel
theorem dX6_lower_60 : decode cX6_lower 60 = .ok (.isub, 1) := by decide +kernel
theorem dX6_lower_61 : decode cX6_lower 61 = .ok (.aload_n 0, 1) := by decide +kernel
theorem dX6_lower_62 : decode cX6_lower 62 = .ok (.getfield 10, 3) := by decide +kernel
theorem dX6_lower_65 : decode cX6_lower 65 = .ok (.getfield 64, 3) := by decide +kernel
theorem dX6_lower_68 : decode cX6_lower 68 = .ok (.imul, 1) := by decide +kernel
theorem dX6_lower_69 : decode cX6_lower 69 = .ok (.bipush 6, 2) := by decide +kernel
theorem dX6_lower_71 : decode cX6_lower 71 = .ok (.if_icmp .le 6, 3) := by decide +kernel
theorem dX6_lower_74 : decode cX6_lower 74 = .ok (.bipush (-4), 2) := by decide +kernel
theorem dX6_lower_76 : decode cX6_lower 76 = .ok (.ireturn, 1) := by decide +kernel
theorem dX6_lower_77 : decode cX6_lower 77 = .ok (.aload_n 0, 1) := by decide +kernel
theorem dX6_lower_78 : decode cX6_lower 78 = .ok (.aload_n 0, 1) := by decide +kernel
theorem dX6_lower_79 : decode cX6_lower 79 = .ok (.getfield 10, 3) := by decide +kernel
theorem dX6_lower_82 : decode cX6_lower 82 = .ok (.iload_n 1, 1) := by decide +kernel
theorem dX6_lower_83 : decode cX6_lower 83 = .ok (.invokevirtual 128, 3) := by decide +kernel
theorem dX6_lower_86 : decode cX6_lower 86 = .ok (.iconst 0, 1) := by decide +kernel
theorem dX6_lower_87 : decode cX6_lower 87 = .ok (.aload_n 0, 1) := by decide +kernel
theorem dX6_lower_88 : decode cX6_lower 88 = .ok (.getfield 10, 3) := by decide +kernel
theorem dX6_lower_91 : decode cX6_lower 91 = .ok (.iload_n 1, 1) := by decide +kernel
theorem dX6_lower_92 : decode cX6_lower 92 = .ok (.invokevirtual 131, 3) := by decide +kernel
theorem dX6_lower_95 : decode cX6_lower 95 = .ok (.iload_n 2, 1) := by decide +kernel
theorem dX6_lower_96 : decode cX6_lower 96 = .ok (.invokevirtual 192, 3) := by decide +kernel
theorem dX6_lower_99 : decode cX6_lower 99 = .ok (.aload_n 0, 1) := by decide +kernel
theorem dX6_lower_100 : decode cX6_lower 100 = .ok (.getfield 25, 3) := by decide +kernel
theorem dX6_lower_103 : decode cX6_lower 103 = .ok (.invokevirtual 199, 3) := by decide +kernel
theorem dX6_lower_106 : decode cX6_lower 106 = .ok (.aload_n 0, 1) := by decide +kernel
theorem dX6_lower_107 : decode cX6_lower 107 = .ok (.getfield 25, 3) := by decide +kernel
theorem dX6_lower_110 : decode cX6_lower 110 = .ok (.invokevirtual 154, 3) := by decide +kernel
theorem dX6_lower_113 : decode cX6_lower 113 = .ok (.invokestatic 158, 3) := by decide +kernel
theorem dX6_lower_116 : decode cX6_lower 116 = .ok (.ireturn, 1) := by decide +kernel
theorem dX6_swapped_0 : decode cX6_swapped 0 = .ok (.aload_n 0, 1) := by decide +kernel
theorem dX6_swapped_1 : decode cX6_swapped 1 = .ok (.getfield 10, 3) := by decide +kernel
theorem dX6_swapped_4 : decode cX6_swapped 4 = .ok (.getfield 60, 3) := by decide +kernel
theorem dX6_swapped_7 : decode cX6_swapped 7 = .ok (.aload_n 0, 1) := by decide +kernel
theorem dX6_swapped_8 : decode cX6_swapped 8 = .ok (.getfield 10, 3) := by decide +kernel
theorem dX6_swapped_11 : decode cX6_swapped 11 = .ok (.getfield 64, 3) := by decide +kernel
theorem dX6_swapped_14 : decode cX6_swapped 14 = .ok (.if_icmp .eq 6, 3) := by decide +kernel
theorem dX6_swapped_17 : decode cX6_swapped 17 = .ok (.bipush (-4), 2) := by decide +kernel
theorem dX6_swapped_19 : decode cX6_swapped 19 = .ok (.ireturn, 1) := by decide +kernel
theorem dX6_swapped_20 : decode cX6_swapped 20 = .ok (.aload_n 0, 1) := by decide +kernel
theorem dX6_swapped_21 : decode cX6_swapped 21 = .ok (.getfield 10, 3) := by decide +kernel
theorem dX6_swapped_24 : decode cX6_swapped 24 = .ok (.iconst 2, 1) := by decide +kernel
theorem dX6_swapped_25 : decode cX6_swapped 25 = .ok (.iconst 1, 1) := by decide +kernel
theorem dX6_swapped_26 : decode cX6_swapped 26 = .ok (.invokevirtual 94, 3) := by decide +kernel
theorem dX6_swapped_29 : decode cX6_swapped 29 = .ok (.lconst 0, 1) := by decide +kernel
theorem dX6_swapped_30 : decode cX6_swapped 30 = .ok (.lcmp, 1) := by decide +kernel
theorem dX6_swapped_31 : decode cX6_swapped 31 = .ok (.ifCond .ne 7, 3) := by decide +kernel
theorem dX6_swapped_34 : decode cX6_swapped 34 = .ok (.iconst 1, 1) := by decide +kernel
theorem dX6_swapped_35 : decode cX6_swapped 35 = .ok (.goto 4, 3) := by decide +kernel
theorem dX6_swapped_38 : decode cX6_swapped 38 = .ok (.iconst 0, 1) := by decide +kernel
theorem dX6_swapped_39 : decode cX6_swapped 39 = .ok (.invokestatic 158, 3) := by decide +kernel
theorem dX6_swapped_42 : decode cX6_swapped 42 = .ok (.ireturn, 1) := by decide +kernel
theorem dX6_stable_0 : decode cX6_stable 0 = .ok (.aload_n 0, 1) := by decide +kernel
theorem dX6_stable_1 : decode cX6_stable 1 = .ok (.getfield 10, 3) := by decide +kernel
theorem dX6_stable_4 : decode cX6_stable 4 = .ok (.iconst 0, 1) := by decide +kernel
theorem dX6_stable_5 : decode cX6_stable 5 = .ok (.iconst 1, 1) := by decide +kernel
theorem dX6_stable_6 : decode cX6_stable 6 = .ok (.invokevirtual 94, 3) := by decide +kernel
theorem dX6_stable_9 : decode cX6_stable 9 = .ok (.lneg, 1) := by decide +kernel
theorem dX6_stable_10 : decode cX6_stable 10 = .ok (.lstore_n 1, 1) := by decide +kernel
theorem dX6_stable_11 : decode cX6_stable 11 = .ok (.aload_n 0, 1) := by decide +kernel
theorem dX6_stable_12 : decode cX6_stable 12 = .ok (.getfield 10, 3) := by decide +kernel
theorem dX6_stable_15 : decode cX6_stable 15 = .ok (.iconst 0, 1) := by decide +kernel
theorem dX6_stable_16 : decode cX6_stable 16 = .ok (.iconst 2, 1) := by decide +kernel
theorem dX6_stable_17 : decode cX6_stable 17 = .ok (.invokevirtual 94, 3) := by decide +kernel
theorem dX6_stable_20 : decode cX6_stable 20 = .ok (.lstore_n 3, 1) := by decide +kernel
theorem dX6_stable_21 : decode cX6_stable 21 = .ok (.aload_n 0, 1) := by decide +kernel
theorem dX6_stable_22 : decode cX6_stable 22 = .ok (.getfield 10, 3) := by decide +kernel
theorem dX6_stable_25 : decode cX6_stable 25 = .ok (.iconst 0, 1) := by decide +kernel
theorem dX6_stable_26 : decode cX6_stable 26 = .ok (.iconst 3, 1) := by decide +kernel
theorem dX6_stable_27 : decode cX6_stable 27 = .ok (.invokevirtual 94, 3) := by decide +kernel
theorem dX6_stable_30 : decode cX6_stable 30 = .ok (.lneg, 1) := by decide +kernel
theorem dX6_stable_31 : decode cX6_stable 31 = .ok (.lstore 5, 2) := by decide +kernel
theorem dX6_stable_33 : decode cX6_stable 33 = .ok (.aload_n 0, 1) := by decide +kernel
theorem dX6_stable_34 : decode cX6_stable 34 = .ok (.getfield 10, 3) := by decide +kernel
theorem dX6_stable_37 : decode cX6_stable 37 = .ok (.getfield 60, 3) := by decide +kernel
theorem dX6_stable_40 : decode cX6_stable 40 = .ok (.iconst 1, 1) := by decide +kernel
theorem dX6_stable_41 : decode cX6_stable 41 = .ok (.if_icmp .ne 18, 3) := by decide +kernel
theorem dX6_stable_44 : decode cX6_stable 44 = .ok (.lload_n 1, 1) := by decide +kernel
theorem dX6_stable_45 : decode cX6_stable 45 = .ok (.lconst 0, 1) := by decide +kernel
theorem dX6_stable_46 : decode cX6_stable 46 = .ok (.lcmp, 1) := by decide +kernel
theorem dX6_stable_47 : decode cX6_stable 47 = .ok (.ifCond .le 7, 3) := by decide +kernel
theorem dX6_stable_50 : decode cX6_stable 50 = .ok (.iconst 1, 1) := by decide +kernel
theorem dX6_stable_51 : decode cX6_stable 51 = .ok (.goto 4, 3) := by decide +kernel
theorem dX6_stable_54 : decode cX6_stable 54 = .ok (.iconst 0, 1) := by decide +kernel
theorem dX6_stable_55 : decode cX6_stable 55 = .ok (.invokestatic 158, 3) := by decide +kernel
theorem dX6_stable_58 : decode cX6_stable 58 = .ok (.ireturn, 1) := by decide +kernel
theorem dX6_stable_59 : decode cX6_stable 59 = .ok (.aload_n 0, 1) := by decide +kernel
theorem dX6_stable_60 : decode cX6_stable 60 = .ok (.getfield 10, 3) := by decide +kernel
theorem dX6_stable_63 : decode cX6_stable 63 = .ok (.getfield 60, 3) := by decide +kernel
theorem dX6_stable_66 : decode cX6_stable 66 = .ok (.iconst 2, 1) := by decide +kernel
theorem dX6_stable_67 : decode cX6_stable 67 = .ok (.if_icmp .ne 24, 3) := by decide +kernel
theorem dX6_stable_70 : decode cX6_stable 70 = .ok (.lload_n 1, 1) := by decide +kernel
theorem dX6_stable_71 : decode cX6_stable 71 = .ok (.lconst 0, 1) := by decide +kernel
theorem dX6_stable_72 : decode cX6_stable 72 = .ok (.lcmp, 1) := by decide +kernel
theorem dX6_stable_73 : decode cX6_stable 73 = .ok (.ifCond .le 13, 3) := by decide +kernel
theorem dX6_stable_76 : decode cX6_stable 76 = .ok (.lload_n 3, 1) := by decide +kernel
theorem dX6_stable_77 : decode cX6_stable 77 = .ok (.lconst 0, 1) := by decide +kernel
theorem dX6_stable_78 : decode cX6_stable 78 = .ok (.lcmp, 1) := by decide +kernel
theorem dX6_stable_79 : decode cX6_stable 79 = .ok (.ifCond .le 7, 3) := by decide +kernel
theorem dX6_stable_82 : decode cX6_stable 82 = .ok (.iconst 1, 1) := by decide +kernel
theorem dX6_stable_83 : decode cX6_stable 83 = .ok (.goto 4, 3) := by decide +kernel
theorem dX6_stable_86 : decode cX6_stable 86 = .ok (.iconst 0, 1) := by decide +kernel
theorem dX6_stable_87 : decode cX6_stable 87 = .ok (.invokestatic 158, 3) := by decide +kernel
theorem dX6_stable_90 : decode cX6_stable 90 = .ok (.ireturn, 1) := by decide +kernel
theorem dX6_stable_91 : decode cX6_stable 91 = .ok (.lload_n 1, 1) := by decide +kernel
theorem dX6_stable_92 : decode cX6_stable 92 = .ok (.lconst 0, 1) := by decide +kernel
theorem dX6_stable_93 : decode cX6_stable 93 = .ok (.lcmp, 1) := by decide +kernel
theorem dX6_stable_94 : decode cX6_stable 94 = .ok (.ifCond .le 23, 3) := by decide +kernel
theorem dX6_stable_97 : decode cX6_stable 97 = .ok (.lload 5, 2) := by decide +kernel
theorem dX6_stable_99 : decode cX6_stable 99 = .ok (.lconst 0, 1) := by decide +kernel
theorem dX6_stable_100 : decode cX6_stable 100 = .ok (.lcmp, 1) := by decide +kernel
theorem dX6_stable_101 : decode cX6_stable 101 = .ok (.ifCond .le 16, 3) := by decide +kernel
theorem dX6_stable_104 : decode cX6_stable 104 = .ok (.lload_n 1, 1) := by decide +kernel
theorem dX6_stable_105 : decode cX6_stable 105 = .ok (.lload_n 3, 1) := by decide +kernel
theorem dX6_stable_106 : decode cX6_stable 106 = .ok (.lmul, 1) := by decide +kernel
theorem dX6_stable_107 : decode cX6_stable 107 = .ok (.lload 5, 2) := by decide +kernel
theorem dX6_stable_109 : decode cX6_stable 109 = .ok (.lcmp, 1) := by decide +kernel
theorem dX6_stable_110 : decode cX6_stable 110 = .ok (.ifCond .le 7, 3) := by decide +kernel
theorem dX6_stable_113 : decode cX6_stable 113 = .ok (.iconst 1, 1) := by decide +kernel
theorem dX6_stable_114 : decode cX6_stable 114 = .ok (.goto 4, 3) := by decide +kernel
theorem dX6_stable_117 : decode cX6_stable 117 = .ok (.iconst 0, 1) := by decide +kernel
theorem dX6_stable_118 : decode cX6_stable 118 = .ok (.invokestatic 158, 3) := by decide +kernel
theorem dX6_stable_121 : decode cX6_stable 121 = .ok (.ireturn, 1) := by decide +kernel
theorem dX6_lay_0 : decode cX6_lay 0 = .ok (.aload_n 0, 1) := by decide +kernel
theorem dX6_lay_1 : decode cX6_lay 1 = .ok (.getfield 10, 3) := by decide +kernel
theorem dX6_lay_4 : decode cX6_lay 4 = .ok (.iload_n 1, 1) := by decide +kernel
theorem dX6_lay_5 : decode cX6_lay 5 = .ok (.invokevirtual 125, 3) := by decide +kernel
theorem dX6_lay_8 : decode cX6_lay 8 = .ok (.ifCond .eq 10, 3) := by decide +kernel
theorem dX6_lay_11 : decode cX6_lay 11 = .ok (.iload_n 2, 1) := by decide +kernel
theorem dX6_lay_12 : decode cX6_lay 12 = .ok (.invokestatic 214, 3) := by decide +kernel
theorem dX6_lay_15 : decode cX6_lay 15 = .ok (.ifCond .ne 5, 3) := by decide +kernel
theorem dX6_lay_18 : decode cX6_lay 18 = .ok (.iconst (-1), 1) := by decide +kernel
theorem dX6_lay_19 : decode cX6_lay 19 = .ok (.ireturn, 1) := by decide +kernel
theorem dX6_lay_20 : decode cX6_lay 20 = .ok (.aload_n 0, 1) := by decide +kernel
theorem dX6_lay_21 : decode cX6_lay 21 = .ok (.getfield 10, 3) := by decide +kernel
theorem dX6_lay_24 : decode cX6_lay 24 = .ok (.iload_n 1, 1) := by decide +kernel
theorem dX6_lay_25 : decode cX6_lay 25 = .ok (.invokevirtual 128, 3) := by decide +kernel
theorem dX6_lay_28 : decode cX6_lay 28 = .ok (.istore_n 3, 1) := by decide +kernel
theorem dX6_lay_29 : decode cX6_lay 29 = .ok (.aload_n 0, 1) := by decide +kernel
theorem dX6_lay_30 : decode cX6_lay 30 = .ok (.getfield 10, 3) := by decide +kernel
theorem dX6_lay_33 : decode cX6_lay 33 = .ok (.iload_n 3, 1) := by decide +kernel
theorem dX6_lay_34 : decode cX6_lay 34 = .ok (.invokevirtual 134, 3) := by decide +kernel
theorem dX6_lay_37 : decode cX6_lay 37 = .ok (.ifCond .ne 6, 3) := by decide +kernel
theorem dX6_lay_40 : decode cX6_lay 40 = .ok (.bipush (-4), 2) := by decide +kernel
theorem dX6_lay_42 : decode cX6_lay 42 = .ok (.ireturn, 1) := by decide +kernel
theorem dX6_lay_43 : decode cX6_lay 43 = .ok (.aload_n 0, 1) := by decide +kernel
theorem dX6_lay_44 : decode cX6_lay 44 = .ok (.iload_n 1, 1) := by decide +kernel
theorem dX6_lay_45 : decode cX6_lay 45 = .ok (.invokevirtual 143, 3) := by decide +kernel
theorem dX6_lay_48 : decode cX6_lay 48 = .ok (.aload_n 0, 1) := by decide +kernel
theorem dX6_lay_49 : decode cX6_lay 49 = .ok (.getfield 25, 3) := by decide +kernel
theorem dX6_lay_52 : decode cX6_lay 52 = .ok (.invokevirtual 154, 3) := by decide +kernel
theorem dX6_lay_55 : decode cX6_lay 55 = .ok (.ifCond .ne 6, 3) := by decide +kernel
theorem dX6_lay_58 : decode cX6_lay 58 = .ok (.bipush (-3), 2) := by decide +kernel
theorem dX6_lay_60 : decode cX6_lay 60 = .ok (.ireturn, 1) := by decide +kernel
theorem dX6_lay_61 : decode cX6_lay 61 = .ok (.aload_n 0, 1) := by decide +kernel
theorem dX6_lay_62 : decode cX6_lay 62 = .ok (.iload_n 3, 1) := by decide +kernel
theorem dX6_lay_63 : decode cX6_lay 63 = .ok (.invokevirtual 217, 3) := by decide +kernel
theorem dX6_lay_66 : decode cX6_lay 66 = .ok (.lstore 4, 2) := by decide +kernel
theorem dX6_lay_68 : decode cX6_lay 68 = .ok (.lload 4, 2) := by decide +kernel
theorem dX6_lay_70 : decode cX6_lay 70 = .ok (.lconst 0, 1) := by decide +kernel
theorem dX6_lay_71 : decode cX6_lay 71 = .ok (.lcmp, 1) := by decide +kernel
theorem dX6_lay_72 : decode cX6_lay 72 = .ok (.ifCond .eq 13, 3) := by decide +kernel
theorem dX6_lay_75 : decode cX6_lay 75 = .ok (.aload_n 0, 1) := by decide +kernel
theorem dX6_lay_76 : decode cX6_lay 76 = .ok (.iload_n 3, 1) := by decide +kernel
theorem dX6_lay_77 : decode cX6_lay 77 = .ok (.lload 4, 2) := by decide +kernel
theorem dX6_lay_79 : decode cX6_lay 79 = .ok (.invokevirtual 220, 3) := by decide +kernel
theorem dX6_lay_82 : decode cX6_lay 82 = .ok (.ifCond .ne 6, 3) := by decide +kernel
theorem dX6_lay_85 : decode cX6_lay 85 = .ok (.bipush (-16), 2) := by decide +kernel
theorem dX6_lay_87 : decode cX6_lay 87 = .ok (.ireturn, 1) := by decide +kernel
theorem dX6_lay_88 : decode cX6_lay 88 = .ok (.aload_n 0, 1) := by decide +kernel
theorem dX6_lay_89 : decode cX6_lay 89 = .ok (.getfield 48, 3) := by decide +kernel
theorem dX6_lay_92 : decode cX6_lay 92 = .ok (.iload_n 2, 1) := by decide +kernel
theorem dX6_lay_93 : decode cX6_lay 93 = .ok (.aaload, 1) := by decide +kernel
theorem dX6_lay_94 : decode cX6_lay 94 = .ok (.astore 6, 2) := by decide +kernel
theorem dX6_lay_96 : decode cX6_lay 96 = .ok (.aload 6, 2) := by decide +kernel
theorem dX6_lay_98 : decode cX6_lay 98 = .ok (.iconst 2, 1) := by decide +kernel
theorem dX6_lay_99 : decode cX6_lay 99 = .ok (.aload_n 0, 1) := by decide +kernel
theorem dX6_lay_100 : decode cX6_lay 100 = .ok (.getfield 10, 3) := by decide +kernel
theorem dX6_lay_103 : decode cX6_lay 103 = .ok (.getfield 60, 3) := by decide +kernel
theorem dX6_lay_106 : decode cX6_lay 106 = .ok (.aload_n 0, 1) := by decide +kernel
theorem dX6_lay_107 : decode cX6_lay 107 = .ok (.getfield 10, 3) := by decide +kernel
theorem dX6_lay_110 : decode cX6_lay 110 = .ok (.getfield 64, 3) := by decide +kernel
theorem dX6_lay_113 : decode cX6_lay 113 = .ok (.imul, 1) := by decide +kernel
theorem dX6_lay_114 : decode cX6_lay 114 = .ok (.invokevirtual 224, 3) := by decide +kernel
theorem dX6_lay_117 : decode cX6_lay 117 = .ok (.iconst 0, 1) := by decide +kernel
theorem dX6_lay_118 : decode cX6_lay 118 = .ok (.istore 7, 2) := by decide +kernel
theorem dX6_lay_120 : decode cX6_lay 120 = .ok (.iload 7, 2) := by decide +kernel
theorem dX6_lay_122 : decode cX6_lay 122 = .ok (.aload_n 0, 1) := by decide +kernel
theorem dX6_lay_123 : decode cX6_lay 123 = .ok (.getfield 10, 3) := by decide +kernel
theorem dX6_lay_126 : decode cX6_lay 126 = .ok (.getfield 60, 3) := by decide +kernel
theorem dX6_lay_129 : decode cX6_lay 129 = .ok (.if_icmp .ge 60, 3) := by decide +kernel
theorem dX6_lay_132 : decode cX6_lay 132 = .ok (.iconst 0, 1) := by decide +kernel
theorem dX6_lay_133 : decode cX6_lay 133 = .ok (.istore 8, 2) := by decide +kernel
theorem dX6_lay_135 : decode cX6_lay 135 = .ok (.iload 8, 2) := by decide +kernel
theorem dX6_lay_137 : decode cX6_lay 137 = .ok (.aload_n 0, 1) := by decide +kernel
theorem dX6_lay_138 : decode cX6_lay 138 = .ok (.getfield 10, 3) := by decide +kernel
theorem dX6_lay_141 : decode cX6_lay 141 = .ok (.getfield 64, 3) := by decide +kernel
theorem dX6_lay_144 : decode cX6_lay 144 = .ok (.if_icmp .ge 39, 3) := by decide +kernel
theorem dX6_lay_147 : decode cX6_lay 147 = .ok (.aload 6, 2) := by decide +kernel
theorem dX6_lay_149 : decode cX6_lay 149 = .ok (.iload 7, 2) := by decide +kernel
theorem dX6_lay_151 : decode cX6_lay 151 = .ok (.aload_n 0, 1) := by decide +kernel
theorem dX6_lay_152 : decode cX6_lay 152 = .ok (.getfield 10, 3) := by decide +kernel
theorem dX6_lay_155 : decode cX6_lay 155 = .ok (.getfield 64, 3) := by decide +kernel
theorem dX6_lay_158 : decode cX6_lay 158 = .ok (.imul, 1) := by decide +kernel
theorem dX6_lay_159 : decode cX6_lay 159 = .ok (.iload 8, 2) := by decide +kernel
theorem dX6_lay_161 : decode cX6_lay 161 = .ok (.iadd, 1) := by decide +kernel
theorem dX6_lay_162 : decode cX6_lay 162 = .ok (.aload_n 0, 1) := by decide +kernel
theorem dX6_lay_163 : decode cX6_lay 163 = .ok (.iload_n 3, 1) := by decide +kernel
theorem dX6_lay_164 : decode cX6_lay 164 = .ok (.iload 7, 2) := by decide +kernel
theorem dX6_lay_166 : decode cX6_lay 166 = .ok (.iload 8, 2) := by decide +kernel
theorem dX6_lay_168 : decode cX6_lay 168 = .ok (.invokevirtual 168, 3) := by decide +kernel
theorem dX6_lay_171 : decode cX6_lay 171 = .ok (.lload 4, 2) := by decide +kernel
theorem dX6_lay_173 : decode cX6_lay 173 = .ok (.ldiv, 1) := by decide +kernel
theorem dX6_lay_174 : decode cX6_lay 174 = .ok (.invokevirtual 227, 3) := by decide +kernel
theorem dX6_lay_177 : decode cX6_lay 177 = .ok (.iinc 8 1, 3) := by decide +kernel
theorem dX6_lay_180 : decode cX6_lay 180 = .ok (.goto (-45), 3) := by decide +kernel
theorem dX6_lay_183 : decode cX6_lay 183 = .ok (.iinc 7 1, 3) := by decide +kernel
theorem dX6_lay_186 : decode cX6_lay 186 = .ok (.goto (-66), 3) := by decide +kernel
theorem dX6_lay_189 : decode cX6_lay 189 = .ok (.aload_n 0, 1) := by decide +kernel
theorem dX6_lay_190 : decode cX6_lay 190 = .ok (.getfield 25, 3) := by decide +kernel
theorem dX6_lay_193 : decode cX6_lay 193 = .ok (.getfield 172, 3) := by decide +kernel
theorem dX6_lay_196 : decode cX6_lay 196 = .ok (.lload 4, 2) := by decide +kernel
theorem dX6_lay_198 : decode cX6_lay 198 = .ok (.ldiv, 1) := by decide +kernel
theorem dX6_lay_199 : decode cX6_lay 199 = .ok (.l2i, 1) := by decide +kernel
theorem dX6_lay_200 : decode cX6_lay 200 = .ok (.ireturn, 1) := by decide +kernel
theorem dX6_judge_0 : decode cX6_judge 0 = .ok (.aload_n 0, 1) := by decide +kernel
theorem dX6_judge_1 : decode cX6_judge 1 = .ok (.getfield 10, 3) := by decide +kernel
theorem dX6_judge_4 : decode cX6_judge 4 = .ok (.iload_n 1, 1) := by decide +kernel
theorem dX6_judge_5 : decode cX6_judge 5 = .ok (.invokevirtual 125, 3) := by decide +kernel
theorem dX6_judge_8 : decode cX6_judge 8 = .ok (.ifCond .eq 15, 3) := by decide +kernel
theorem dX6_judge_11 : decode cX6_judge 11 = .ok (.iload_n 2, 1) := by decide +kernel
theorem dX6_judge_12 : decode cX6_judge 12 = .ok (.invokestatic 214, 3) := by decide +kernel
theorem dX6_judge_15 : decode cX6_judge 15 = .ok (.ifCond .eq 8, 3) := by decide +kernel
theorem dX6_judge_18 : decode cX6_judge 18 = .ok (.iload_n 3, 1) := by decide +kernel
theorem dX6_judge_19 : decode cX6_judge 19 = .ok (.iconst 1, 1) := by decide +kernel
theorem dX6_judge_20 : decode cX6_judge 20 = .ok (.if_icmp .ge 5, 3) := by decide +kernel
theorem dX6_judge_23 : decode cX6_judge 23 = .ok (.iconst (-1), 1) := by decide +kernel
theorem dX6_judge_24 : decode cX6_judge 24 = .ok (.ireturn, 1) := by decide +kernel
theorem dX6_judge_25 : decode cX6_judge 25 = .ok (.aload_n 0, 1) := by decide +kernel
theorem dX6_judge_26 : decode cX6_judge 26 = .ok (.getfield 10, 3) := by decide +kernel
theorem dX6_judge_29 : decode cX6_judge 29 = .ok (.iload_n 1, 1) := by decide +kernel
theorem dX6_judge_30 : decode cX6_judge 30 = .ok (.invokevirtual 128, 3) := by decide +kernel
theorem dX6_judge_33 : decode cX6_judge 33 = .ok (.istore 4, 2) := by decide +kernel
theorem dX6_judge_35 : decode cX6_judge 35 = .ok (.aload_n 0, 1) := by decide +kernel
theorem dX6_judge_36 : decode cX6_judge 36 = .ok (.getfield 10, 3) := by decide +kernel
theorem dX6_judge_39 : decode cX6_judge 39 = .ok (.iload 4, 2) := by decide +kernel
theorem dX6_judge_41 : decode cX6_judge 41 = .ok (.invokevirtual 137, 3) := by decide +kernel
theorem dX6_judge_44 : decode cX6_judge 44 = .ok (.ifCond .ne 6, 3) := by decide +kernel
theorem dX6_judge_47 : decode cX6_judge 47 = .ok (.bipush (-4), 2) := by decide +kernel
theorem dX6_judge_49 : decode cX6_judge 49 = .ok (.ireturn, 1) := by decide +kernel
theorem dX6_judge_50 : decode cX6_judge 50 = .ok (.aload_n 0, 1) := by decide +kernel
theorem dX6_judge_51 : decode cX6_judge 51 = .ok (.getfield 48, 3) := by decide +kernel
theorem dX6_judge_54 : decode cX6_judge 54 = .ok (.iload_n 2, 1) := by decide +kernel
theorem dX6_judge_55 : decode cX6_judge 55 = .ok (.aaload, 1) := by decide +kernel
theorem dX6_judge_56 : decode cX6_judge 56 = .ok (.astore 5, 2) := by decide +kernel
theorem dX6_judge_58 : decode cX6_judge 58 = .ok (.aload_n 0, 1) := by decide +kernel
theorem dX6_judge_59 : decode cX6_judge 59 = .ok (.aload 5, 2) := by decide +kernel
theorem dX6_judge_61 : decode cX6_judge 61 = .ok (.invokevirtual 231, 3) := by decide +kernel
theorem dX6_judge_64 : decode cX6_judge 64 = .ok (.istore 6, 2) := by decide +kernel
theorem dX6_judge_66 : decode cX6_judge 66 = .ok (.iload 6, 2) := by decide +kernel
theorem dX6_judge_68 : decode cX6_judge 68 = .ok (.ifCond .eq 6, 3) := by decide +kernel
theorem dX6_judge_71 : decode cX6_judge 71 = .ok (.iload 6, 2) := by decide +kernel
theorem dX6_judge_73 : decode cX6_judge 73 = .ok (.ireturn, 1) := by decide +kernel
theorem dX6_judge_74 : decode cX6_judge 74 = .ok (.aload_n 0, 1) := by decide +kernel
theorem dX6_judge_75 : decode cX6_judge 75 = .ok (.iload 4, 2) := by decide +kernel
theorem dX6_judge_77 : decode cX6_judge 77 = .ok (.aload_n 0, 1) := by decide +kernel
theorem dX6_judge_78 : decode cX6_judge 78 = .ok (.getfield 10, 3) := by decide +kernel
theorem dX6_judge_81 : decode cX6_judge 81 = .ok (.iload_n 1, 1) := by decide +kernel
theorem dX6_judge_82 : decode cX6_judge 82 = .ok (.invokevirtual 131, 3) := by decide +kernel
theorem dX6_judge_85 : decode cX6_judge 85 = .ok (.aload 5, 2) := by decide +kernel
theorem dX6_judge_87 : decode cX6_judge 87 = .ok (.iload_n 3, 1) := by decide +kernel
theorem dX6_judge_88 : decode cX6_judge 88 = .ok (.invokevirtual 235, 3) := by decide +kernel
theorem dX6_judge_91 : decode cX6_judge 91 = .ok (.istore 7, 2) := by decide +kernel
theorem dX6_judge_93 : decode cX6_judge 93 = .ok (.iload 7, 2) := by decide +kernel
theorem dX6_judge_95 : decode cX6_judge 95 = .ok (.aload_n 0, 1) := by decide +kernel
theorem dX6_judge_96 : decode cX6_judge 96 = .ok (.getfield 10, 3) := by decide +kernel
theorem dX6_judge_99 : decode cX6_judge 99 = .ok (.getfield 60, 3) := by decide +kernel
theorem dX6_judge_102 : decode cX6_judge 102 = .ok (.aload_n 0, 1) := by decide +kernel
theorem dX6_judge_103 : decode cX6_judge 103 = .ok (.getfield 10, 3) := by decide +kernel
theorem dX6_judge_106 : decode cX6_judge 106 = .ok (.getfield 64, 3) := by decide +kernel
theorem dX6_judge_109 : decode cX6_judge 109 = .ok (.imul, 1) := by decide +kernel
theorem dX6_judge_110 : decode cX6_judge 110 = .ok (.if_icmp .ne 18, 3) := by decide +kernel
theorem dX6_judge_113 : decode cX6_judge 113 = .ok (.aload_n 0, 1) := by decide +kernel
theorem dX6_judge_114 : decode cX6_judge 114 = .ok (.iload 4, 2) := by decide +kernel
theorem dX6_judge_116 : decode cX6_judge 116 = .ok (.aload 5, 2) := by decide +kernel
theorem dX6_judge_118 : decode cX6_judge 118 = .ok (.invokevirtual 239, 3) := by decide +kernel
theorem dX6_judge_121 : decode cX6_judge 121 = .ok (.ifCond .eq 7, 3) := by decide +kernel
theorem dX6_judge_124 : decode cX6_judge 124 = .ok (.iconst 0, 1) := by decide +kernel
theorem dX6_judge_125 : decode cX6_judge 125 = .ok (.goto 7, 3) := by decide +kernel
theorem dX6_judge_128 : decode cX6_judge 128 = .ok (.iconst 1, 1) := by decide +kernel
theorem dX6_judge_129 : decode cX6_judge 129 = .ok (.iload 7, 2) := by decide +kernel
theorem dX6_judge_131 : decode cX6_judge 131 = .ok (.iadd, 1) := by decide +kernel
theorem dX6_judge_132 : decode cX6_judge 132 = .ok (.ireturn, 1) := by decide +kernel
theorem dX6_kinds_0 : decode cX6_kinds 0 = .ok (.iload_n 1, 1) := by decide +kernel
theorem dX6_kinds_1 : decode cX6_kinds 1 = .ok (.invokestatic 214, 3) := by decide +kernel
theorem dX6_kinds_4 : decode cX6_kinds 4 = .ok (.ifCond .eq 10, 3) := by decide +kernel
theorem dX6_kinds_7 : decode cX6_kinds 7 = .ok (.iload_n 2, 1) := by decide +kernel
theorem dX6_kinds_8 : decode cX6_kinds 8 = .ok (.invokestatic 117, 3) := by decide +kernel
theorem dX6_kinds_11 : decode cX6_kinds 11 = .ok (.ifCond .ne 5, 3) := by decide +kernel
theorem dX6_kinds_14 : decode cX6_kinds 14 = .ok (.iconst (-1), 1) := by decide +kernel
theorem dX6_kinds_15 : decode cX6_kinds 15 = .ok (.ireturn, 1) := by decide +kernel
theorem dX6_kinds_16 : decode cX6_kinds 16 = .ok (.aload_n 0, 1) := by decide +kernel
theorem dX6_kinds_17 : decode cX6_kinds 17 = .ok (.getfield 48, 3) := by decide +kernel
theorem dX6_kinds_20 : decode cX6_kinds 20 = .ok (.iload_n 1, 1) := by decide +kernel
theorem dX6_kinds_21 : decode cX6_kinds 21 = .ok (.aaload, 1) := by decide +kernel
theorem dX6_kinds_22 : decode cX6_kinds 22 = .ok (.astore_n 3, 1) := by decide +kernel
theorem dX6_kinds_23 : decode cX6_kinds 23 = .ok (.aload_n 0, 1) := by decide +kernel
theorem dX6_kinds_24 : decode cX6_kinds 24 = .ok (.aload_n 3, 1) := by decide +kernel
theorem dX6_kinds_25 : decode cX6_kinds 25 = .ok (.invokevirtual 231, 3) := by decide +kernel
theorem dX6_kinds_28 : decode cX6_kinds 28 = .ok (.istore 4, 2) := by decide +kernel
theorem dX6_kinds_30 : decode cX6_kinds 30 = .ok (.iload 4, 2) := by decide +kernel
theorem dX6_kinds_32 : decode cX6_kinds 32 = .ok (.ifCond .eq 6, 3) := by decide +kernel
theorem dX6_kinds_35 : decode cX6_kinds 35 = .ok (.iload 4, 2) := by decide +kernel
theorem dX6_kinds_37 : decode cX6_kinds 37 = .ok (.ireturn, 1) := by decide +kernel
theorem dX6_kinds_38 : decode cX6_kinds 38 = .ok (.iconst 0, 1) := by decide +kernel
theorem dX6_kinds_39 : decode cX6_kinds 39 = .ok (.istore 5, 2) := by decide +kernel
theorem dX6_kinds_41 : decode cX6_kinds 41 = .ok (.iconst 0, 1) := by decide +kernel
theorem dX6_kinds_42 : decode cX6_kinds 42 = .ok (.istore 6, 2) := by decide +kernel
theorem dX6_kinds_44 : decode cX6_kinds 44 = .ok (.iload 6, 2) := by decide +kernel
theorem dX6_kinds_46 : decode cX6_kinds 46 = .ok (.bipush 7, 2) := by decide +kernel
theorem dX6_kinds_48 : decode cX6_kinds 48 = .ok (.if_icmp .ge 67, 3) := by decide +kernel
theorem dX6_kinds_51 : decode cX6_kinds 51 = .ok (.aload_n 0, 1) := by decide +kernel
theorem dX6_kinds_52 : decode cX6_kinds 52 = .ok (.getfield 10, 3) := by decide +kernel
theorem dX6_kinds_55 : decode cX6_kinds 55 = .ok (.iload 6, 2) := by decide +kernel
theorem dX6_kinds_57 : decode cX6_kinds 57 = .ok (.invokevirtual 137, 3) := by decide +kernel
theorem dX6_kinds_60 : decode cX6_kinds 60 = .ok (.ifCond .eq 49, 3) := by decide +kernel
theorem dX6_kinds_63 : decode cX6_kinds 63 = .ok (.aload_n 0, 1) := by decide +kernel
theorem dX6_kinds_64 : decode cX6_kinds 64 = .ok (.iload 6, 2) := by decide +kernel
theorem dX6_kinds_66 : decode cX6_kinds 66 = .ok (.aload_n 3, 1) := by decide +kernel
theorem dX6_kinds_67 : decode cX6_kinds 67 = .ok (.invokevirtual 239, 3) := by decide +kernel
theorem dX6_kinds_70 : decode cX6_kinds 70 = .ok (.ifCond .eq 39, 3) := by decide +kernel
theorem dX6_kinds_73 : decode cX6_kinds 73 = .ok (.aload_n 0, 1) := by decide +kernel
theorem dX6_kinds_74 : decode cX6_kinds 74 = .ok (.iload 6, 2) := by decide +kernel
theorem dX6_kinds_76 : decode cX6_kinds 76 = .ok (.iload_n 2, 1) := by decide +kernel
theorem dX6_kinds_77 : decode cX6_kinds 77 = .ok (.aload_n 3, 1) := by decide +kernel
theorem dX6_kinds_78 : decode cX6_kinds 78 = .ok (.iconst 1, 1) := by decide +kernel
theorem dX6_kinds_79 : decode cX6_kinds 79 = .ok (.invokevirtual 235, 3) := by decide +kernel
theorem dX6_kinds_82 : decode cX6_kinds 82 = .ok (.aload_n 0, 1) := by decide +kernel
theorem dX6_kinds_83 : decode cX6_kinds 83 = .ok (.getfield 10, 3) := by decide +kernel
theorem dX6_kinds_86 : decode cX6_kinds 86 = .ok (.getfield 60, 3) := by decide +kernel
theorem dX6_kinds_89 : decode cX6_kinds 89 = .ok (.aload_n 0, 1) := by decide +kernel
theorem dX6_kinds_90 : decode cX6_kinds 90 = .ok (.getfield 10, 3) := by decide +kernel
theorem dX6_kinds_93 : decode cX6_kinds 93 = .ok (.getfield 64, 3) := by decide +kernel
theorem dX6_kinds_96 : decode cX6_kinds 96 = .ok (.imul, 1) := by decide +kernel
theorem dX6_kinds_97 : decode cX6_kinds 97 = .ok (.if_icmp .ne 12, 3) := by decide +kernel
theorem dX6_kinds_100 : decode cX6_kinds 100 = .ok (.iload 5, 2) := by decide +kernel
theorem dX6_kinds_102 : decode cX6_kinds 102 = .ok (.iconst 1, 1) := by decide +kernel
theorem dX6_kinds_103 : decode cX6_kinds 103 = .ok (.iload 6, 2) := by decide +kernel
theorem dX6_kinds_105 : decode cX6_kinds 105 = .ok (.ishl, 1) := by decide +kernel
theorem dX6_kinds_106 : decode cX6_kinds 106 = .ok (.ior, 1) := by decide +kernel
theorem dX6_kinds_107 : decode cX6_kinds 107 = .ok (.istore 5, 2) := by decide +kernel
theorem dX6_kinds_109 : decode cX6_kinds 109 = .ok (.iinc 6 1, 3) := by decide +kernel
theorem dX6_kinds_112 : decode cX6_kinds 112 = .ok (.goto (-68), 3) := by decide +kernel
theorem dX6_kinds_115 : decode cX6_kinds 115 = .ok (.iload 5, 2) := by decide +kernel
theorem dX6_kinds_117 : decode cX6_kinds 117 = .ok (.ireturn, 1) := by decide +kernel
theorem dX6_ratio_0 : decode cX6_ratio 0 = .ok (.iload 5, 2) := by decide +kernel
theorem dX6_ratio_2 : decode cX6_ratio 2 = .ok (.invokestatic 165, 3) := by decide +kernel
theorem dX6_ratio_5 : decode cX6_ratio 5 = .ok (.ifCond .ne 8, 3) := by decide +kernel
theorem dX6_ratio_8 : decode cX6_ratio 8 = .ok (.iconst (-1), 1) := by decide +kernel
theorem dX6_ratio_9 : decode cX6_ratio 9 = .ok (.invokestatic 87, 3) := by decide +kernel
theorem dX6_ratio_12 : decode cX6_ratio 12 = .ok (.lreturn, 1) := by decide +kernel
theorem dX6_ratio_13 : decode cX6_ratio 13 = .ok (.lload_n 1, 1) := by decide +kernel
theorem dX6_ratio_14 : decode cX6_ratio 14 = .ok (.lload_n 3, 1) := by decide +kernel
theorem dX6_ratio_15 : decode cX6_ratio 15 = .ok (.iload 5, 2) := by decide +kernel
theorem dX6_ratio_17 : decode cX6_ratio 17 = .ok (.invokestatic 176, 3) := by decide +kernel
theorem dX6_ratio_20 : decode cX6_ratio 20 = .ok (.lreturn, 1) := by decide +kernel
theorem dX6_seed_0 : decode cX6_seed 0 = .ok (.aload_n 0, 1) := by decide +kernel
theorem dX6_seed_1 : decode cX6_seed 1 = .ok (.getfield 10, 3) := by decide +kernel
theorem dX6_seed_4 : decode cX6_seed 4 = .ok (.getfield 243, 3) := by decide +kernel
theorem dX6_seed_7 : decode cX6_seed 7 = .ok (.istore_n 2, 1) := by decide +kernel
theorem dX6_seed_8 : decode cX6_seed 8 = .ok (.aload_n 0, 1) := by decide +kernel
theorem dX6_seed_9 : decode cX6_seed 9 = .ok (.getfield 10, 3) := by decide +kernel
theorem dX6_seed_12 : decode cX6_seed 12 = .ok (.iload_n 1, 1) := by decide +kernel
theorem dX6_seed_13 : decode cX6_seed 13 = .ok (.putfield 243, 3) := by decide +kernel
theorem dX6_seed_16 : decode cX6_seed 16 = .ok (.iload_n 2, 1) := by decide +kernel
theorem dX6_seed_17 : decode cX6_seed 17 = .ok (.ireturn, 1) := by decide +kernel
theorem dX6_lot_0 : decode cX6_lot 0 = .ok (.aload_n 0, 1) := by decide +kernel
theorem dX6_lot_1 : decode cX6_lot 1 = .ok (.getfield 10, 3) := by decide +kernel
theorem dX6_lot_4 : decode cX6_lot 4 = .ok (.invokevirtual 246, 3) := by decide +kernel
theorem dX6_lot_7 : decode cX6_lot 7 = .ok (.bipush 100, 2) := by decide +kernel
theorem dX6_lot_9 : decode cX6_lot 9 = .ok (.aload_n 0, 1) := by decide +kernel
theorem dX6_lot_10 : decode cX6_lot 10 = .ok (.getfield 10, 3) := by decide +kernel
theorem dX6_lot_13 : decode cX6_lot 13 = .ok (.iconst 2, 1) := by decide +kernel
theorem dX6_lot_14 : decode cX6_lot 14 = .ok (.iconst 0, 1) := by decide +kernel
theorem dX6_lot_15 : decode cX6_lot 15 = .ok (.iconst 0, 1) := by decide +kernel
theorem dX6_lot_16 : decode cX6_lot 16 = .ok (.invokevirtual 79, 3) := by decide +kernel
theorem dX6_lot_19 : decode cX6_lot 19 = .ok (.iadd, 1) := by decide +kernel
theorem dX6_lot_20 : decode cX6_lot 20 = .ok (.ireturn, 1) := by decide +kernel
theorem dX6_times_0 : decode cX6_times 0 = .ok (.aload_n 0, 1) := by decide +kernel
theorem dX6_times_1 : decode cX6_times 1 = .ok (.getfield 10, 3) := by decide +kernel
theorem dX6_times_4 : decode cX6_times 4 = .ok (.iload_n 1, 1) := by decide +kernel
theorem dX6_times_5 : decode cX6_times 5 = .ok (.invokevirtual 125, 3) := by decide +kernel
theorem dX6_times_8 : decode cX6_times 8 = .ok (.ifCond .eq 14, 3) := by decide +kernel
theorem dX6_times_11 : decode cX6_times 11 = .ok (.iload_n 2, 1) := by decide +kernel
theorem dX6_times_12 : decode cX6_times 12 = .ok (.iconst 1, 1) := by decide +kernel
theorem dX6_times_13 : decode cX6_times 13 = .ok (.if_icmp .lt 9, 3) := by decide +kernel
theorem dX6_times_16 : decode cX6_times 16 = .ok (.iload_n 2, 1) := by decide +kernel
theorem dX6_times_17 : decode cX6_times 17 = .ok (.bipush 30, 2) := by decide +kernel
theorem dX6_times_19 : decode cX6_times 19 = .ok (.if_icmp .le 5, 3) := by decide +kernel
theorem dX6_times_22 : decode cX6_times 22 = .ok (.iconst (-1), 1) := by decide +kernel
theorem dX6_times_23 : decode cX6_times 23 = .ok (.ireturn, 1) := by decide +kernel
theorem dX6_times_24 : decode cX6_times 24 = .ok (.aload_n 0, 1) := by decide +kernel
theorem dX6_times_25 : decode cX6_times 25 = .ok (.getfield 10, 3) := by decide +kernel
theorem dX6_times_28 : decode cX6_times 28 = .ok (.aload_n 0, 1) := by decide +kernel
theorem dX6_times_29 : decode cX6_times 29 = .ok (.getfield 10, 3) := by decide +kernel
theorem dX6_times_32 : decode cX6_times 32 = .ok (.iload_n 1, 1) := by decide +kernel
theorem dX6_times_33 : decode cX6_times 33 = .ok (.invokevirtual 128, 3) := by decide +kernel
theorem dX6_times_36 : decode cX6_times 36 = .ok (.invokevirtual 134, 3) := by decide +kernel
theorem dX6_times_39 : decode cX6_times 39 = .ok (.ifCond .ne 6, 3) := by decide +kernel
theorem dX6_times_42 : decode cX6_times 42 = .ok (.bipush (-4), 2) := by decide +kernel
theorem dX6_times_44 : decode cX6_times 44 = .ok (.ireturn, 1) := by decide +kernel
theorem dX6_times_45 : decode cX6_times 45 = .ok (.aload_n 0, 1) := by decide +kernel
theorem dX6_times_46 : decode cX6_times 46 = .ok (.getfield 19, 3) := by decide +kernel
theorem dX6_times_49 : decode cX6_times 49 = .ok (.aload_n 0, 1) := by decide +kernel
theorem dX6_times_50 : decode cX6_times 50 = .ok (.getfield 10, 3) := by decide +kernel
theorem dX6_times_53 : decode cX6_times 53 = .ok (.invokevirtual 105, 3) := by decide +kernel
theorem dX6_times_56 : decode cX6_times 56 = .ok (.iconst 0, 1) := by decide +kernel
theorem dX6_times_57 : decode cX6_times 57 = .ok (.istore_n 3, 1) := by decide +kernel
theorem dX6_times_58 : decode cX6_times 58 = .ok (.iconst 0, 1) := by decide +kernel
theorem dX6_times_59 : decode cX6_times 59 = .ok (.istore 4, 2) := by decide +kernel
theorem dX6_times_61 : decode cX6_times 61 = .ok (.iload 4, 2) := by decide +kernel
theorem dX6_times_63 : decode cX6_times 63 = .ok (.iload_n 2, 1) := by decide +kernel
theorem dX6_times_64 : decode cX6_times 64 = .ok (.if_icmp .ge 34, 3) := by decide +kernel
theorem dX6_times_67 : decode cX6_times 67 = .ok (.aload_n 0, 1) := by decide +kernel
theorem dX6_times_68 : decode cX6_times 68 = .ok (.getfield 10, 3) := by decide +kernel
theorem dX6_times_71 : decode cX6_times 71 = .ok (.invokevirtual 246, 3) := by decide +kernel
theorem dX6_times_74 : decode cX6_times 74 = .ok (.aload_n 0, 1) := by decide +kernel
theorem dX6_times_75 : decode cX6_times 75 = .ok (.iload_n 1, 1) := by decide +kernel
theorem dX6_times_76 : decode cX6_times 76 = .ok (.invokevirtual 143, 3) := by decide +kernel
theorem dX6_times_79 : decode cX6_times 79 = .ok (.iload_n 3, 1) := by decide +kernel
theorem dX6_times_80 : decode cX6_times 80 = .ok (.aload_n 0, 1) := by decide +kernel
theorem dX6_times_81 : decode cX6_times 81 = .ok (.getfield 25, 3) := by decide +kernel
theorem dX6_times_84 : decode cX6_times 84 = .ok (.invokevirtual 154, 3) := by decide +kernel
theorem dX6_times_87 : decode cX6_times 87 = .ok (.invokestatic 158, 3) := by decide +kernel
theorem dX6_times_90 : decode cX6_times 90 = .ok (.iadd, 1) := by decide +kernel
theorem dX6_times_91 : decode cX6_times 91 = .ok (.istore_n 3, 1) := by decide +kernel
theorem dX6_times_92 : decode cX6_times 92 = .ok (.iinc 4 1, 3) := by decide +kernel
theorem dX6_times_95 : decode cX6_times 95 = .ok (.goto (-34), 3) := by decide +kernel
theorem dX6_times_98 : decode cX6_times 98 = .ok (.aload_n 0, 1) := by decide +kernel
theorem dX6_times_99 : decode cX6_times 99 = .ok (.getfield 19, 3) := by decide +kernel
theorem dX6_times_102 : decode cX6_times 102 = .ok (.aload_n 0, 1) := by decide +kernel
theorem dX6_times_103 : decode cX6_times 103 = .ok (.getfield 10, 3) := by decide +kernel
theorem dX6_times_106 : decode cX6_times 106 = .ok (.getfield 243, 3) := by decide +kernel
theorem dX6_times_109 : decode cX6_times 109 = .ok (.putfield 243, 3) := by decide +kernel
theorem dX6_times_112 : decode cX6_times 112 = .ok (.aload_n 0, 1) := by decide +kernel
theorem dX6_times_113 : decode cX6_times 113 = .ok (.getfield 10, 3) := by decide +kernel
theorem dX6_times_116 : decode cX6_times 116 = .ok (.aload_n 0, 1) := by decide +kernel
theorem dX6_times_117 : decode cX6_times 117 = .ok (.getfield 19, 3) := by decide +kernel
theorem dX6_times_120 : decode cX6_times 120 = .ok (.invokevirtual 105, 3) := by decide +kernel
theorem dX6_times_123 : decode cX6_times 123 = .ok (.iload_n 3, 1) := by decide +kernel
theorem dX6_times_124 : decode cX6_times 124 = .ok (.ireturn, 1) := by decide +kernel
theorem dX6_sheet_0 : decode cX6_sheet 0 = .ok (.iload_n 1, 1) := by decide +kernel
theorem dX6_sheet_1 : decode cX6_sheet 1 = .ok (.invokestatic 214, 3) := by decide +kernel
theorem dX6_sheet_4 : decode cX6_sheet 4 = .ok (.ifCond .eq 21, 3) := by decide +kernel
theorem dX6_sheet_7 : decode cX6_sheet 7 = .ok (.iload_n 2, 1) := by decide +kernel
theorem dX6_sheet_8 : decode cX6_sheet 8 = .ok (.iconst (-1), 1) := by decide +kernel
theorem dX6_sheet_9 : decode cX6_sheet 9 = .ok (.if_icmp .eq 18, 3) := by decide +kernel
theorem dX6_sheet_12 : decode cX6_sheet 12 = .ok (.iload_n 2, 1) := by decide +kernel
theorem dX6_sheet_13 : decode cX6_sheet 13 = .ok (.invokestatic 249, 3) := by decide +kernel
theorem dX6_sheet_16 : decode cX6_sheet 16 = .ok (.ifCond .eq 9, 3) := by decide +kernel
theorem dX6_sheet_19 : decode cX6_sheet 19 = .ok (.iload_n 3, 1) := by decide +kernel
theorem dX6_sheet_20 : decode cX6_sheet 20 = .ok (.bipush 40, 2) := by decide +kernel
theorem dX6_sheet_22 : decode cX6_sheet 22 = .ok (.if_icmp .le 5, 3) := by decide +kernel
theorem dX6_sheet_25 : decode cX6_sheet 25 = .ok (.iconst (-1), 1) := by decide +kernel
theorem dX6_sheet_26 : decode cX6_sheet 26 = .ok (.ireturn, 1) := by decide +kernel
theorem dX6_sheet_27 : decode cX6_sheet 27 = .ok (.iload_n 2, 1) := by decide +kernel
theorem dX6_sheet_28 : decode cX6_sheet 28 = .ok (.iconst (-1), 1) := by decide +kernel
theorem dX6_sheet_29 : decode cX6_sheet 29 = .ok (.if_icmp .eq 10, 3) := by decide +kernel
theorem dX6_sheet_32 : decode cX6_sheet 32 = .ok (.iload_n 3, 1) := by decide +kernel
theorem dX6_sheet_33 : decode cX6_sheet 33 = .ok (.ifCond .ge 6, 3) := by decide +kernel
theorem dX6_sheet_36 : decode cX6_sheet 36 = .ok (.bipush (-14), 2) := by decide +kernel
theorem dX6_sheet_38 : decode cX6_sheet 38 = .ok (.ireturn, 1) := by decide +kernel
theorem dX6_sheet_39 : decode cX6_sheet 39 = .ok (.aload_n 0, 1) := by decide +kernel
theorem dX6_sheet_40 : decode cX6_sheet 40 = .ok (.getfield 48, 3) := by decide +kernel
theorem dX6_sheet_43 : decode cX6_sheet 43 = .ok (.iload_n 1, 1) := by decide +kernel
theorem dX6_sheet_44 : decode cX6_sheet 44 = .ok (.aaload, 1) := by decide +kernel
theorem dX6_sheet_45 : decode cX6_sheet 45 = .ok (.iload_n 2, 1) := by decide +kernel
theorem dX6_sheet_46 : decode cX6_sheet 46 = .ok (.iload_n 2, 1) := by decide +kernel
theorem dX6_sheet_47 : decode cX6_sheet 47 = .ok (.iconst (-1), 1) := by decide +kernel
theorem dX6_sheet_48 : decode cX6_sheet 48 = .ok (.if_icmp .ne 7, 3) := by decide +kernel
theorem dX6_sheet_51 : decode cX6_sheet 51 = .ok (.iconst 0, 1) := by decide +kernel
theorem dX6_sheet_52 : decode cX6_sheet 52 = .ok (.goto 4, 3) := by decide +kernel
theorem dX6_sheet_55 : decode cX6_sheet 55 = .ok (.iload_n 3, 1) := by decide +kernel
theorem dX6_sheet_56 : decode cX6_sheet 56 = .ok (.invokevirtual 224, 3) := by decide +kernel
theorem dX6_sheet_59 : decode cX6_sheet 59 = .ok (.iconst 1, 1) := by decide +kernel
theorem dX6_sheet_60 : decode cX6_sheet 60 = .ok (.ireturn, 1) := by decide +kernel
theorem dX6_put_0 : decode cX6_put 0 = .ok (.iload_n 1, 1) := by decide +kernel
theorem dX6_put_1 : decode cX6_put 1 = .ok (.invokestatic 214, 3) := by decide +kernel
theorem dX6_put_4 : decode cX6_put 4 = .ok (.ifCond .ne 5, 3) := by decide +kernel
theorem dX6_put_7 : decode cX6_put 7 = .ok (.iconst (-1), 1) := by decide +kernel
theorem dX6_put_8 : decode cX6_put 8 = .ok (.ireturn, 1) := by decide +kernel
theorem dX6_put_9 : decode cX6_put 9 = .ok (.aload_n 0, 1) := by decide +kernel
theorem dX6_put_10 : decode cX6_put 10 = .ok (.getfield 48, 3) := by decide +kernel
theorem dX6_put_13 : decode cX6_put 13 = .ok (.iload_n 1, 1) := by decide +kernel
theorem dX6_put_14 : decode cX6_put 14 = .ok (.aaload, 1) := by decide +kernel
theorem dX6_put_15 : decode cX6_put 15 = .ok (.astore 5, 2) := by decide +kernel
theorem dX6_put_17 : decode cX6_put 17 = .ok (.aload 5, 2) := by decide +kernel
theorem dX6_put_19 : decode cX6_put 19 = .ok (.getfield 252, 3) := by decide +kernel
theorem dX6_put_22 : decode cX6_put 22 = .ok (.iconst (-1), 1) := by decide +kernel
theorem dX6_put_23 : decode cX6_put 23 = .ok (.if_icmp .ne 6, 3) := by decide +kernel
theorem dX6_put_26 : decode cX6_put 26 = .ok (.bipush (-11), 2) := by decide +kernel
theorem dX6_put_28 : decode cX6_put 28 = .ok (.ireturn, 1) := by decide +kernel
theorem dX6_put_29 : decode cX6_put 29 = .ok (.iload_n 2, 1) := by decide +kernel
theorem dX6_put_30 : decode cX6_put 30 = .ok (.ifCond .lt 12, 3) := by decide +kernel
theorem dX6_put_33 : decode cX6_put 33 = .ok (.iload_n 2, 1) := by decide +kernel
theorem dX6_put_34 : decode cX6_put 34 = .ok (.aload 5, 2) := by decide +kernel
theorem dX6_put_36 : decode cX6_put 36 = .ok (.getfield 255, 3) := by decide +kernel
theorem dX6_put_39 : decode cX6_put 39 = .ok (.if_icmp .lt 6, 3) := by decide +kernel
theorem dX6_put_42 : decode cX6_put 42 = .ok (.bipush (-12), 2) := by decide +kernel
theorem dX6_put_44 : decode cX6_put 44 = .ok (.ireturn, 1) := by decide +kernel
theorem dX6_put_45 : decode cX6_put 45 = .ok (.aload 5, 2) := by decide +kernel
theorem dX6_put_47 : decode cX6_put 47 = .ok (.iload_n 2, 1) := by decide +kernel
theorem dX6_put_48 : decode cX6_put 48 = .ok (.lload_n 3, 1) := by decide +kernel
theorem dX6_put_49 : decode cX6_put 49 = .ok (.invokevirtual 227, 3) := by decide +kernel
theorem dX6_put_52 : decode cX6_put 52 = .ok (.iconst 1, 1) := by decide +kernel
theorem dX6_put_53 : decode cX6_put 53 = .ok (.ireturn, 1) := by decide +kernel
theorem dX6_item_0 : decode cX6_item 0 = .ok (.iload_n 1, 1) := by decide +kernel
theorem dX6_item_1 : decode cX6_item 1 = .ok (.invokestatic 214, 3) := by decide +kernel
theorem dX6_item_4 : decode cX6_item 4 = .ok (.ifCond .eq 10, 3) := by decide +kernel
theorem dX6_item_7 : decode cX6_item 7 = .ok (.iload_n 2, 1) := by decide +kernel
theorem dX6_item_8 : decode cX6_item 8 = .ok (.invokestatic 249, 3) := by decide +kernel
theorem dX6_item_11 : decode cX6_item 11 = .ok (.ifCond .ne 5, 3) := by decide +kernel
theorem dX6_item_14 : decode cX6_item 14 = .ok (.iconst (-1), 1) := by decide +kernel
theorem dX6_item_15 : decode cX6_item 15 = .ok (.ireturn, 1) := by decide +kernel
theorem dX6_item_16 : decode cX6_item 16 = .ok (.aload_n 0, 1) := by decide +kernel
theorem dX6_item_17 : decode cX6_item 17 = .ok (.getfield 48, 3) := by decide +kernel
theorem dX6_item_20 : decode cX6_item 20 = .ok (.iload_n 1, 1) := by decide +kernel
theorem dX6_item_21 : decode cX6_item 21 = .ok (.aaload, 1) := by decide +kernel
theorem dX6_item_22 : decode cX6_item 22 = .ok (.astore 4, 2) := by decide +kernel
theorem dX6_item_24 : decode cX6_item 24 = .ok (.aload 4, 2) := by decide +kernel
theorem dX6_item_26 : decode cX6_item 26 = .ok (.getfield 252, 3) := by decide +kernel
theorem dX6_item_29 : decode cX6_item 29 = .ok (.iconst (-1), 1) := by decide +kernel
theorem dX6_item_30 : decode cX6_item 30 = .ok (.if_icmp .ne 6, 3) := by decide +kernel
theorem dX6_item_33 : decode cX6_item 33 = .ok (.bipush (-11), 2) := by decide +kernel
theorem dX6_item_35 : decode cX6_item 35 = .ok (.ireturn, 1) := by decide +kernel
theorem dX6_item_36 : decode cX6_item 36 = .ok (.aload 4, 2) := by decide +kernel
theorem dX6_item_38 : decode cX6_item 38 = .ok (.getfield 252, 3) := by decide +kernel
theorem dX6_item_41 : decode cX6_item 41 = .ok (.iload_n 2, 1) := by decide +kernel
theorem dX6_item_42 : decode cX6_item 42 = .ok (.if_icmp .eq 6, 3) := by decide +kernel
theorem dX6_item_45 : decode cX6_item 45 = .ok (.bipush (-13), 2) := by decide +kernel
theorem dX6_item_47 : decode cX6_item 47 = .ok (.ireturn, 1) := by decide +kernel
theorem dX6_item_48 : decode cX6_item 48 = .ok (.iload_n 3, 1) := by decide +kernel
theorem dX6_item_49 : decode cX6_item 49 = .ok (.ifCond .lt 12, 3) := by decide +kernel
theorem dX6_item_52 : decode cX6_item 52 = .ok (.iload_n 3, 1) := by decide +kernel
theorem dX6_item_53 : decode cX6_item 53 = .ok (.aload 4, 2) := by decide +kernel
theorem dX6_item_55 : decode cX6_item 55 = .ok (.getfield 255, 3) := by decide +kernel
theorem dX6_item_58 : decode cX6_item 58 = .ok (.if_icmp .lt 8, 3) := by decide +kernel
theorem dX6_item_61 : decode cX6_item 61 = .ok (.bipush (-12), 2) := by decide +kernel
theorem dX6_item_63 : decode cX6_item 63 = .ok (.goto 10, 3) := by decide +kernel
theorem dX6_item_66 : decode cX6_item 66 = .ok (.aload 4, 2) := by decide +kernel
theorem dX6_item_68 : decode cX6_item 68 = .ok (.iload_n 3, 1) := by decide +kernel
theorem dX6_item_69 : decode cX6_item 69 = .ok (.invokevirtual 258, 3) := by decide +kernel
theorem dX6_item_72 : decode cX6_item 72 = .ok (.l2i, 1) := by decide +kernel
theorem dX6_item_73 : decode cX6_item 73 = .ok (.ireturn, 1) := by decide +kernel
theorem dX6_move_0 : decode cX6_move 0 = .ok (.iload_n 1, 1) := by decide +kernel
theorem dX6_move_1 : decode cX6_move 1 = .ok (.invokestatic 214, 3) := by decide +kernel
theorem dX6_move_4 : decode cX6_move 4 = .ok (.ifCond .eq 10, 3) := by decide +kernel
theorem dX6_move_7 : decode cX6_move 7 = .ok (.iload_n 3, 1) := by decide +kernel
theorem dX6_move_8 : decode cX6_move 8 = .ok (.invokestatic 214, 3) := by decide +kernel
theorem dX6_move_11 : decode cX6_move 11 = .ok (.ifCond .ne 5, 3) := by decide +kernel
theorem dX6_move_14 : decode cX6_move 14 = .ok (.iconst (-1), 1) := by decide +kernel
theorem dX6_move_15 : decode cX6_move 15 = .ok (.ireturn, 1) := by decide +kernel
theorem dX6_move_16 : decode cX6_move 16 = .ok (.aload_n 0, 1) := by decide +kernel
theorem dX6_move_17 : decode cX6_move 17 = .ok (.getfield 48, 3) := by decide +kernel
theorem dX6_move_20 : decode cX6_move 20 = .ok (.iload_n 1, 1) := by decide +kernel
theorem dX6_move_21 : decode cX6_move 21 = .ok (.aaload, 1) := by decide +kernel
theorem dX6_move_22 : decode cX6_move 22 = .ok (.astore 6, 2) := by decide +kernel
theorem dX6_move_24 : decode cX6_move 24 = .ok (.aload_n 0, 1) := by decide +kernel
theorem dX6_move_25 : decode cX6_move 25 = .ok (.getfield 48, 3) := by decide +kernel
theorem dX6_move_28 : decode cX6_move 28 = .ok (.iload_n 3, 1) := by decide +kernel
theorem dX6_move_29 : decode cX6_move 29 = .ok (.aaload, 1) := by decide +kernel
theorem dX6_move_30 : decode cX6_move 30 = .ok (.astore 7, 2) := by decide +kernel
theorem dX6_move_32 : decode cX6_move 32 = .ok (.aload 6, 2) := by decide +kernel
theorem dX6_move_34 : decode cX6_move 34 = .ok (.getfield 252, 3) := by decide +kernel
theorem dX6_move_37 : decode cX6_move 37 = .ok (.iconst (-1), 1) := by decide +kernel
theorem dX6_move_38 : decode cX6_move 38 = .ok (.if_icmp .eq 12, 3) := by decide +kernel
theorem dX6_move_41 : decode cX6_move 41 = .ok (.aload 7, 2) := by decide +kernel
theorem dX6_move_43 : decode cX6_move 43 = .ok (.getfield 252, 3) := by decide +kernel
theorem dX6_move_46 : decode cX6_move 46 = .ok (.iconst (-1), 1) := by decide +kernel
theorem dX6_move_47 : decode cX6_move 47 = .ok (.if_icmp .ne 6, 3) := by decide +kernel
theorem dX6_move_50 : decode cX6_move 50 = .ok (.bipush (-11), 2) := by decide +kernel
theorem dX6_move_52 : decode cX6_move 52 = .ok (.ireturn, 1) := by decide +kernel
theorem dX6_move_53 : decode cX6_move 53 = .ok (.aload 6, 2) := by decide +kernel
theorem dX6_move_55 : decode cX6_move 55 = .ok (.getfield 252, 3) := by decide +kernel
theorem dX6_move_58 : decode cX6_move 58 = .ok (.aload 7, 2) := by decide +kernel
theorem dX6_move_60 : decode cX6_move 60 = .ok (.getfield 252, 3) := by decide +kernel
theorem dX6_move_63 : decode cX6_move 63 = .ok (.if_icmp .eq 6, 3) := by decide +kernel
theorem dX6_move_66 : decode cX6_move 66 = .ok (.bipush (-13), 2) := by decide +kernel
theorem dX6_move_68 : decode cX6_move 68 = .ok (.ireturn, 1) := by decide +kernel
theorem dX6_move_69 : decode cX6_move 69 = .ok (.aload 6, 2) := by decide +kernel
theorem dX6_move_71 : decode cX6_move 71 = .ok (.iload_n 2, 1) := by decide +kernel
theorem dX6_move_72 : decode cX6_move 72 = .ok (.iload 5, 2) := by decide +kernel
theorem dX6_move_74 : decode cX6_move 74 = .ok (.invokevirtual 261, 3) := by decide +kernel
theorem dX6_move_77 : decode cX6_move 77 = .ok (.ifCond .eq 15, 3) := by decide +kernel
theorem dX6_move_80 : decode cX6_move 80 = .ok (.aload 7, 2) := by decide +kernel
theorem dX6_move_82 : decode cX6_move 82 = .ok (.iload 4, 2) := by decide +kernel
theorem dX6_move_84 : decode cX6_move 84 = .ok (.iload 5, 2) := by decide +kernel
theorem dX6_move_86 : decode cX6_move 86 = .ok (.invokevirtual 261, 3) := by decide +kernel
theorem dX6_move_89 : decode cX6_move 89 = .ok (.ifCond .ne 6, 3) := by decide +kernel
theorem dX6_move_92 : decode cX6_move 92 = .ok (.bipush (-12), 2) := by decide +kernel
theorem dX6_move_94 : decode cX6_move 94 = .ok (.ireturn, 1) := by decide +kernel
theorem dX6_move_95 : decode cX6_move 95 = .ok (.aload 6, 2) := by decide +kernel
theorem dX6_move_97 : decode cX6_move 97 = .ok (.getfield 265, 3) := by decide +kernel
theorem dX6_move_100 : decode cX6_move 100 = .ok (.iload_n 2, 1) := by decide +kernel
theorem dX6_move_101 : decode cX6_move 101 = .ok (.aload 7, 2) := by decide +kernel
theorem dX6_move_103 : decode cX6_move 103 = .ok (.getfield 265, 3) := by decide +kernel
theorem dX6_move_106 : decode cX6_move 106 = .ok (.iload 4, 2) := by decide +kernel
theorem dX6_move_108 : decode cX6_move 108 = .ok (.iload 5, 2) := by decide +kernel
theorem dX6_move_110 : decode cX6_move 110 = .ok (.invokestatic 269, 3) := by decide +kernel
theorem dX6_move_113 : decode cX6_move 113 = .ok (.iload 5, 2) := by decide +kernel
theorem dX6_move_115 : decode cX6_move 115 = .ok (.ireturn, 1) := by decide +kernel
theorem dX6_shelf_0 : decode cX6_shelf 0 = .ok (.iload_n 1, 1) := by decide +kernel
theorem dX6_shelf_1 : decode cX6_shelf 1 = .ok (.invokestatic 275, 3) := by decide +kernel
theorem dX6_shelf_4 : decode cX6_shelf 4 = .ok (.ifCond .ne 5, 3) := by decide +kernel
theorem dX6_shelf_7 : decode cX6_shelf 7 = .ok (.iconst (-1), 1) := by decide +kernel
theorem dX6_shelf_8 : decode cX6_shelf 8 = .ok (.ireturn, 1) := by decide +kernel
theorem dX6_shelf_9 : decode cX6_shelf 9 = .ok (.iload_n 2, 1) := by decide +kernel
theorem dX6_shelf_10 : decode cX6_shelf 10 = .ok (.ifCond .ne 28, 3) := by decide +kernel
theorem dX6_shelf_13 : decode cX6_shelf 13 = .ok (.aload_n 0, 1) := by decide +kernel
theorem dX6_shelf_14 : decode cX6_shelf 14 = .ok (.getfield 10, 3) := by decide +kernel
theorem dX6_shelf_17 : decode cX6_shelf 17 = .ok (.iload_n 3, 1) := by decide +kernel
theorem dX6_shelf_18 : decode cX6_shelf 18 = .ok (.invokevirtual 125, 3) := by decide +kernel
theorem dX6_shelf_21 : decode cX6_shelf 21 = .ok (.ifCond .eq 17, 3) := by decide +kernel
theorem dX6_shelf_24 : decode cX6_shelf 24 = .ok (.aload_n 0, 1) := by decide +kernel
theorem dX6_shelf_25 : decode cX6_shelf 25 = .ok (.getfield 54, 3) := by decide +kernel
theorem dX6_shelf_28 : decode cX6_shelf 28 = .ok (.iload_n 1, 1) := by decide +kernel
theorem dX6_shelf_29 : decode cX6_shelf 29 = .ok (.aaload, 1) := by decide +kernel
theorem dX6_shelf_30 : decode cX6_shelf 30 = .ok (.iconst 0, 1) := by decide +kernel
theorem dX6_shelf_31 : decode cX6_shelf 31 = .ok (.iload_n 3, 1) := by decide +kernel
theorem dX6_shelf_32 : decode cX6_shelf 32 = .ok (.iconst 0, 1) := by decide +kernel
theorem dX6_shelf_33 : decode cX6_shelf 33 = .ok (.invokevirtual 278, 3) := by decide +kernel
theorem dX6_shelf_36 : decode cX6_shelf 36 = .ok (.iconst 1, 1) := by decide +kernel
theorem dX6_shelf_37 : decode cX6_shelf 37 = .ok (.ireturn, 1) := by decide +kernel
theorem dX6_shelf_38 : decode cX6_shelf 38 = .ok (.iload_n 2, 1) := by decide +kernel
theorem dX6_shelf_39 : decode cX6_shelf 39 = .ok (.iconst 1, 1) := by decide +kernel
theorem dX6_shelf_40 : decode cX6_shelf 40 = .ok (.if_icmp .ne 53, 3) := by decide +kernel
theorem dX6_shelf_43 : decode cX6_shelf 43 = .ok (.iload_n 3, 1) := by decide +kernel
theorem dX6_shelf_44 : decode cX6_shelf 44 = .ok (.invokestatic 214, 3) := by decide +kernel
theorem dX6_shelf_47 : decode cX6_shelf 47 = .ok (.ifCond .eq 46, 3) := by decide +kernel
theorem dX6_shelf_50 : decode cX6_shelf 50 = .ok (.aload_n 0, 1) := by decide +kernel
theorem dX6_shelf_51 : decode cX6_shelf 51 = .ok (.getfield 48, 3) := by decide +kernel
theorem dX6_shelf_54 : decode cX6_shelf 54 = .ok (.iload_n 3, 1) := by decide +kernel
theorem dX6_shelf_55 : decode cX6_shelf 55 = .ok (.aaload, 1) := by decide +kernel
theorem dX6_shelf_56 : decode cX6_shelf 56 = .ok (.astore 4, 2) := by decide +kernel
theorem dX6_shelf_58 : decode cX6_shelf 58 = .ok (.aload_n 0, 1) := by decide +kernel
theorem dX6_shelf_59 : decode cX6_shelf 59 = .ok (.getfield 54, 3) := by decide +kernel
theorem dX6_shelf_62 : decode cX6_shelf 62 = .ok (.iload_n 1, 1) := by decide +kernel
theorem dX6_shelf_63 : decode cX6_shelf 63 = .ok (.aaload, 1) := by decide +kernel
theorem dX6_shelf_64 : decode cX6_shelf 64 = .ok (.aload 4, 2) := by decide +kernel
theorem dX6_shelf_66 : decode cX6_shelf 66 = .ok (.getfield 252, 3) := by decide +kernel
theorem dX6_shelf_69 : decode cX6_shelf 69 = .ok (.iconst (-1), 1) := by decide +kernel
theorem dX6_shelf_70 : decode cX6_shelf 70 = .ok (.if_icmp .ne 7, 3) := by decide +kernel
theorem dX6_shelf_73 : decode cX6_shelf 73 = .ok (.iconst 2, 1) := by decide +kernel
theorem dX6_shelf_74 : decode cX6_shelf 74 = .ok (.goto 4, 3) := by decide +kernel
theorem dX6_shelf_77 : decode cX6_shelf 77 = .ok (.iconst 1, 1) := by decide +kernel
theorem dX6_shelf_78 : decode cX6_shelf 78 = .ok (.aload 4, 2) := by decide +kernel
theorem dX6_shelf_80 : decode cX6_shelf 80 = .ok (.getfield 255, 3) := by decide +kernel
theorem dX6_shelf_83 : decode cX6_shelf 83 = .ok (.aload 4, 2) := by decide +kernel
theorem dX6_shelf_85 : decode cX6_shelf 85 = .ok (.getfield 252, 3) := by decide +kernel
theorem dX6_shelf_88 : decode cX6_shelf 88 = .ok (.invokevirtual 278, 3) := by decide +kernel
theorem dX6_shelf_91 : decode cX6_shelf 91 = .ok (.iconst 1, 1) := by decide +kernel
theorem dX6_shelf_92 : decode cX6_shelf 92 = .ok (.ireturn, 1) := by decide +kernel
theorem dX6_shelf_93 : decode cX6_shelf 93 = .ok (.iload_n 2, 1) := by decide +kernel
theorem dX6_shelf_94 : decode cX6_shelf 94 = .ok (.iconst 2, 1) := by decide +kernel
theorem dX6_shelf_95 : decode cX6_shelf 95 = .ok (.if_icmp .ne 17, 3) := by decide +kernel
theorem dX6_shelf_98 : decode cX6_shelf 98 = .ok (.aload_n 0, 1) := by decide +kernel
theorem dX6_shelf_99 : decode cX6_shelf 99 = .ok (.getfield 54, 3) := by decide +kernel
theorem dX6_shelf_102 : decode cX6_shelf 102 = .ok (.iload_n 1, 1) := by decide +kernel
theorem dX6_shelf_103 : decode cX6_shelf 103 = .ok (.aaload, 1) := by decide +kernel
theorem dX6_shelf_104 : decode cX6_shelf 104 = .ok (.iconst 2, 1) := by decide +kernel
theorem dX6_shelf_105 : decode cX6_shelf 105 = .ok (.iconst 0, 1) := by decide +kernel
theorem dX6_shelf_106 : decode cX6_shelf 106 = .ok (.iconst 0, 1) := by decide +kernel
theorem dX6_shelf_107 : decode cX6_shelf 107 = .ok (.invokevirtual 278, 3) := by decide +kernel
theorem dX6_shelf_110 : decode cX6_shelf 110 = .ok (.iconst 1, 1) := by decide +kernel
theorem dX6_shelf_111 : decode cX6_shelf 111 = .ok (.ireturn, 1) := by decide +kernel
theorem dX6_shelf_112 : decode cX6_shelf 112 = .ok (.iconst (-1), 1) := by decide +kernel
theorem dX6_shelf_113 : decode cX6_shelf 113 = .ok (.ireturn, 1) := by decide +kernel
theorem dX6_taken_0 : decode cX6_taken 0 = .ok (.iload_n 2, 1) := by decide +kernel
theorem dX6_taken_1 : decode cX6_taken 1 = .ok (.bipush 10, 2) := by decide +kernel
theorem dX6_taken_3 : decode cX6_taken 3 = .ok (.if_icmp .lt 17, 3) := by decide +kernel
theorem dX6_taken_6 : decode cX6_taken 6 = .ok (.iload_n 2, 1) := by decide +kernel
theorem dX6_taken_7 : decode cX6_taken 7 = .ok (.bipush 10, 2) := by decide +kernel
theorem dX6_taken_9 : decode cX6_taken 9 = .ok (.isub, 1) := by decide +kernel
theorem dX6_taken_10 : decode cX6_taken 10 = .ok (.invokestatic 249, 3) := by decide +kernel
theorem dX6_taken_13 : decode cX6_taken 13 = .ok (.ifCond .eq 7, 3) := by decide +kernel
theorem dX6_taken_16 : decode cX6_taken 16 = .ok (.iconst 1, 1) := by decide +kernel
theorem dX6_taken_17 : decode cX6_taken 17 = .ok (.goto 4, 3) := by decide +kernel
theorem dX6_taken_20 : decode cX6_taken 20 = .ok (.iconst 0, 1) := by decide +kernel
theorem dX6_taken_21 : decode cX6_taken 21 = .ok (.istore_n 3, 1) := by decide +kernel
theorem dX6_taken_22 : decode cX6_taken 22 = .ok (.iload_n 1, 1) := by decide +kernel
theorem dX6_taken_23 : decode cX6_taken 23 = .ok (.invokestatic 275, 3) := by decide +kernel
theorem dX6_taken_26 : decode cX6_taken 26 = .ok (.ifCond .eq 14, 3) := by decide +kernel
theorem dX6_taken_29 : decode cX6_taken 29 = .ok (.iload_n 2, 1) := by decide +kernel
theorem dX6_taken_30 : decode cX6_taken 30 = .ok (.invokestatic 113, 3) := by decide +kernel
theorem dX6_taken_33 : decode cX6_taken 33 = .ok (.ifCond .ne 9, 3) := by decide +kernel
theorem dX6_taken_36 : decode cX6_taken 36 = .ok (.iload_n 3, 1) := by decide +kernel
theorem dX6_taken_37 : decode cX6_taken 37 = .ok (.ifCond .ne 5, 3) := by decide +kernel
theorem dX6_taken_40 : decode cX6_taken 40 = .ok (.iconst (-1), 1) := by decide +kernel
theorem dX6_taken_41 : decode cX6_taken 41 = .ok (.ireturn, 1) := by decide +kernel
theorem dX6_taken_42 : decode cX6_taken 42 = .ok (.aload_n 0, 1) := by decide +kernel
theorem dX6_taken_43 : decode cX6_taken 43 = .ok (.getfield 54, 3) := by decide +kernel
theorem dX6_taken_46 : decode cX6_taken 46 = .ok (.iload_n 1, 1) := by decide +kernel
theorem dX6_taken_47 : decode cX6_taken 47 = .ok (.aaload, 1) := by decide +kernel
theorem dX6_taken_48 : decode cX6_taken 48 = .ok (.astore 4, 2) := by decide +kernel
theorem dX6_taken_50 : decode cX6_taken 50 = .ok (.aload_n 0, 1) := by decide +kernel
theorem dX6_taken_51 : decode cX6_taken 51 = .ok (.aload 4, 2) := by decide +kernel
theorem dX6_taken_53 : decode cX6_taken 53 = .ok (.invokevirtual 281, 3) := by decide +kernel
theorem dX6_taken_56 : decode cX6_taken 56 = .ok (.istore 5, 2) := by decide +kernel
theorem dX6_taken_58 : decode cX6_taken 58 = .ok (.iload 5, 2) := by decide +kernel
theorem dX6_taken_60 : decode cX6_taken 60 = .ok (.iconst 2, 1) := by decide +kernel
theorem dX6_taken_61 : decode cX6_taken 61 = .ok (.if_icmp .ne 6, 3) := by decide +kernel
theorem dX6_taken_64 : decode cX6_taken 64 = .ok (.bipush (-11), 2) := by decide +kernel
theorem dX6_taken_66 : decode cX6_taken 66 = .ok (.ireturn, 1) := by decide +kernel
theorem dX6_taken_67 : decode cX6_taken 67 = .ok (.iload 5, 2) := by decide +kernel
theorem dX6_taken_69 : decode cX6_taken 69 = .ok (.iconst 1, 1) := by decide +kernel
theorem dX6_taken_70 : decode cX6_taken 70 = .ok (.if_icmp .ne 29, 3) := by decide +kernel
theorem dX6_taken_73 : decode cX6_taken 73 = .ok (.iload_n 3, 1) := by decide +kernel
theorem dX6_taken_74 : decode cX6_taken 74 = .ok (.ifCond .eq 19, 3) := by decide +kernel
theorem dX6_taken_77 : decode cX6_taken 77 = .ok (.aload 4, 2) := by decide +kernel
theorem dX6_taken_79 : decode cX6_taken 79 = .ok (.getfield 285, 3) := by decide +kernel
theorem dX6_taken_82 : decode cX6_taken 82 = .ok (.iload_n 2, 1) := by decide +kernel
theorem dX6_taken_83 : decode cX6_taken 83 = .ok (.bipush 10, 2) := by decide +kernel
theorem dX6_taken_85 : decode cX6_taken 85 = .ok (.isub, 1) := by decide +kernel
theorem dX6_taken_86 : decode cX6_taken 86 = .ok (.if_icmp .ne 7, 3) := by decide +kernel
theorem dX6_taken_89 : decode cX6_taken 89 = .ok (.iconst 1, 1) := by decide +kernel
theorem dX6_taken_90 : decode cX6_taken 90 = .ok (.goto 4, 3) := by decide +kernel
theorem dX6_taken_93 : decode cX6_taken 93 = .ok (.iconst 0, 1) := by decide +kernel
theorem dX6_taken_94 : decode cX6_taken 94 = .ok (.istore 6, 2) := by decide +kernel
theorem dX6_taken_96 : decode cX6_taken 96 = .ok (.goto 33, 3) := by decide +kernel
theorem dX6_taken_99 : decode cX6_taken 99 = .ok (.iload_n 3, 1) := by decide +kernel
theorem dX6_taken_100 : decode cX6_taken 100 = .ok (.ifCond .ne 26, 3) := by decide +kernel
theorem dX6_taken_103 : decode cX6_taken 103 = .ok (.aload_n 0, 1) := by decide +kernel
theorem dX6_taken_104 : decode cX6_taken 104 = .ok (.getfield 10, 3) := by decide +kernel
theorem dX6_taken_107 : decode cX6_taken 107 = .ok (.aload 4, 2) := by decide +kernel
theorem dX6_taken_109 : decode cX6_taken 109 = .ok (.getfield 286, 3) := by decide +kernel
theorem dX6_taken_112 : decode cX6_taken 112 = .ok (.invokevirtual 128, 3) := by decide +kernel
theorem dX6_taken_115 : decode cX6_taken 115 = .ok (.iload_n 2, 1) := by decide +kernel
theorem dX6_taken_116 : decode cX6_taken 116 = .ok (.invokestatic 289, 3) := by decide +kernel
theorem dX6_taken_119 : decode cX6_taken 119 = .ok (.ifCond .eq 7, 3) := by decide +kernel
theorem dX6_taken_122 : decode cX6_taken 122 = .ok (.iconst 1, 1) := by decide +kernel
theorem dX6_taken_123 : decode cX6_taken 123 = .ok (.goto 4, 3) := by decide +kernel
theorem dX6_taken_126 : decode cX6_taken 126 = .ok (.iconst 0, 1) := by decide +kernel
theorem dX6_taken_127 : decode cX6_taken 127 = .ok (.istore 6, 2) := by decide +kernel
theorem dX6_taken_129 : decode cX6_taken 129 = .ok (.iload 6, 2) := by decide +kernel
theorem dX6_taken_131 : decode cX6_taken 131 = .ok (.ifCond .eq 11, 3) := by decide +kernel
theorem dX6_taken_134 : decode cX6_taken 134 = .ok (.aload 4, 2) := by decide +kernel
theorem dX6_taken_136 : decode cX6_taken 136 = .ok (.getfield 286, 3) := by decide +kernel
theorem dX6_taken_139 : decode cX6_taken 139 = .ok (.goto 5, 3) := by decide +kernel
theorem dX6_taken_142 : decode cX6_taken 142 = .ok (.bipush (-13), 2) := by decide +kernel
theorem dX6_taken_144 : decode cX6_taken 144 = .ok (.ireturn, 1) := by decide +kernel
theorem dX6_act_0 : decode cX6_act 0 = .ok (.aload_n 0, 1) := by decide +kernel
theorem dX6_act_1 : decode cX6_act 1 = .ok (.getfield 42, 3) := by decide +kernel
theorem dX6_act_4 : decode cX6_act 4 = .ok (.invokevirtual 292, 3) := by decide +kernel
theorem dX6_act_7 : decode cX6_act 7 = .ok (.iload_n 1, 1) := by decide +kernel
theorem dX6_act_8 : decode cX6_act 8 = .ok (.invokestatic 275, 3) := by decide +kernel
theorem dX6_act_11 : decode cX6_act 11 = .ok (.ifCond .eq 25, 3) := by decide +kernel
theorem dX6_act_14 : decode cX6_act 14 = .ok (.iload_n 2, 1) := by decide +kernel
theorem dX6_act_15 : decode cX6_act 15 = .ok (.ifCond .lt 21, 3) := by decide +kernel
theorem dX6_act_18 : decode cX6_act 18 = .ok (.iload_n 2, 1) := by decide +kernel
theorem dX6_act_19 : decode cX6_act 19 = .ok (.iconst 3, 1) := by decide +kernel
theorem dX6_act_20 : decode cX6_act 20 = .ok (.if_icmp .gt 16, 3) := by decide +kernel
theorem dX6_act_23 : decode cX6_act 23 = .ok (.aload_n 0, 1) := by decide +kernel
theorem dX6_act_24 : decode cX6_act 24 = .ok (.aload_n 0, 1) := by decide +kernel
theorem dX6_act_25 : decode cX6_act 25 = .ok (.getfield 54, 3) := by decide +kernel
theorem dX6_act_28 : decode cX6_act 28 = .ok (.iload_n 1, 1) := by decide +kernel
theorem dX6_act_29 : decode cX6_act 29 = .ok (.aaload, 1) := by decide +kernel
theorem dX6_act_30 : decode cX6_act 30 = .ok (.invokevirtual 281, 3) := by decide +kernel
theorem dX6_act_33 : decode cX6_act 33 = .ok (.ifCond .eq 5, 3) := by decide +kernel
theorem dX6_act_36 : decode cX6_act 36 = .ok (.iconst 0, 1) := by decide +kernel
theorem dX6_act_37 : decode cX6_act 37 = .ok (.ireturn, 1) := by decide +kernel
theorem dX6_act_38 : decode cX6_act 38 = .ok (.aload_n 0, 1) := by decide +kernel
theorem dX6_act_39 : decode cX6_act 39 = .ok (.getfield 54, 3) := by decide +kernel
theorem dX6_act_42 : decode cX6_act 42 = .ok (.iload_n 1, 1) := by decide +kernel
theorem dX6_act_43 : decode cX6_act 43 = .ok (.aaload, 1) := by decide +kernel
theorem dX6_act_44 : decode cX6_act 44 = .ok (.getfield 286, 3) := by decide +kernel
theorem dX6_act_47 : decode cX6_act 47 = .ok (.istore 4, 2) := by decide +kernel
theorem dX6_act_49 : decode cX6_act 49 = .ok (.aload_n 0, 1) := by decide +kernel
theorem dX6_act_50 : decode cX6_act 50 = .ok (.getfield 42, 3) := by decide +kernel
theorem dX6_act_53 : decode cX6_act 53 = .ok (.aload_n 0, 1) := by decide +kernel
theorem dX6_act_54 : decode cX6_act 54 = .ok (.getfield 10, 3) := by decide +kernel
theorem dX6_act_57 : decode cX6_act 57 = .ok (.iload 4, 2) := by decide +kernel
theorem dX6_act_59 : decode cX6_act 59 = .ok (.invokevirtual 128, 3) := by decide +kernel
theorem dX6_act_62 : decode cX6_act 62 = .ok (.putfield 295, 3) := by decide +kernel
theorem dX6_act_65 : decode cX6_act 65 = .ok (.aload_n 0, 1) := by decide +kernel
theorem dX6_act_66 : decode cX6_act 66 = .ok (.getfield 42, 3) := by decide +kernel
theorem dX6_act_69 : decode cX6_act 69 = .ok (.iload 4, 2) := by decide +kernel
theorem dX6_act_71 : decode cX6_act 71 = .ok (.putfield 298, 3) := by decide +kernel
theorem dX6_act_74 : decode cX6_act 74 = .ok (.aload_n 0, 1) := by decide +kernel
theorem dX6_act_75 : decode cX6_act 75 = .ok (.getfield 42, 3) := by decide +kernel
theorem dX6_act_78 : decode cX6_act 78 = .ok (.aload_n 0, 1) := by decide +kernel
theorem dX6_act_79 : decode cX6_act 79 = .ok (.getfield 10, 3) := by decide +kernel
theorem dX6_act_82 : decode cX6_act 82 = .ok (.iload 4, 2) := by decide +kernel
theorem dX6_act_84 : decode cX6_act 84 = .ok (.invokevirtual 131, 3) := by decide +kernel
theorem dX6_act_87 : decode cX6_act 87 = .ok (.putfield 299, 3) := by decide +kernel
theorem dX6_act_90 : decode cX6_act 90 = .ok (.aload_n 0, 1) := by decide +kernel
theorem dX6_act_91 : decode cX6_act 91 = .ok (.getfield 42, 3) := by decide +kernel
theorem dX6_act_94 : decode cX6_act 94 = .ok (.iload_n 2, 1) := by decide +kernel
theorem dX6_act_95 : decode cX6_act 95 = .ok (.iload_n 3, 1) := by decide +kernel
theorem dX6_act_96 : decode cX6_act 96 = .ok (.invokevirtual 302, 3) := by decide +kernel
theorem dX6_act_99 : decode cX6_act 99 = .ok (.ireturn, 1) := by decide +kernel
theorem dX6_trace_0 : decode cX6_trace 0 = .ok (.iload_n 1, 1) := by decide +kernel
theorem dX6_trace_1 : decode cX6_trace 1 = .ok (.ifCond .lt 32, 3) := by decide +kernel
theorem dX6_trace_4 : decode cX6_trace 4 = .ok (.iload_n 1, 1) := by decide +kernel
theorem dX6_trace_5 : decode cX6_trace 5 = .ok (.aload_n 0, 1) := by decide +kernel
theorem dX6_trace_6 : decode cX6_trace 6 = .ok (.getfield 42, 3) := by decide +kernel
theorem dX6_trace_9 : decode cX6_trace 9 = .ok (.getfield 306, 3) := by decide +kernel
theorem dX6_trace_12 : decode cX6_trace 12 = .ok (.if_icmp .ge 21, 3) := by decide +kernel
theorem dX6_trace_15 : decode cX6_trace 15 = .ok (.iload_n 1, 1) := by decide +kernel
theorem dX6_trace_16 : decode cX6_trace 16 = .ok (.bipush 30, 2) := by decide +kernel
theorem dX6_trace_18 : decode cX6_trace 18 = .ok (.if_icmp .ge 15, 3) := by decide +kernel
theorem dX6_trace_21 : decode cX6_trace 21 = .ok (.aload_n 0, 1) := by decide +kernel
theorem dX6_trace_22 : decode cX6_trace 22 = .ok (.getfield 42, 3) := by decide +kernel
theorem dX6_trace_25 : decode cX6_trace 25 = .ok (.getfield 307, 3) := by decide +kernel
theorem dX6_trace_28 : decode cX6_trace 28 = .ok (.iload_n 1, 1) := by decide +kernel
theorem dX6_trace_29 : decode cX6_trace 29 = .ok (.iaload, 1) := by decide +kernel
theorem dX6_trace_30 : decode cX6_trace 30 = .ok (.goto 5, 3) := by decide +kernel
theorem dX6_trace_33 : decode cX6_trace 33 = .ok (.bipush (-3), 2) := by decide +kernel
theorem dX6_trace_35 : decode cX6_trace 35 = .ok (.ireturn, 1) := by decide +kernel
theorem dX6_many_0 : decode cX6_many 0 = .ok (.iload_n 1, 1) := by decide +kernel
theorem dX6_many_1 : decode cX6_many 1 = .ok (.tableswitch 99 0 6 #[43, 51, 59, 67, 75, 83, 91], 43) := by decide +kernel
theorem dX6_many_44 : decode cX6_many 44 = .ok (.aload_n 0, 1) := by decide +kernel
theorem dX6_many_45 : decode cX6_many 45 = .ok (.getfield 10, 3) := by decide +kernel
theorem dX6_many_48 : decode cX6_many 48 = .ok (.getfield 60, 3) := by decide +kernel
theorem dX6_many_51 : decode cX6_many 51 = .ok (.ireturn, 1) := by decide +kernel
theorem dX6_many_52 : decode cX6_many 52 = .ok (.aload_n 0, 1) := by decide +kernel
theorem dX6_many_53 : decode cX6_many 53 = .ok (.getfield 10, 3) := by decide +kernel
theorem dX6_many_56 : decode cX6_many 56 = .ok (.getfield 64, 3) := by decide +kernel
theorem dX6_many_59 : decode cX6_many 59 = .ok (.ireturn, 1) := by decide +kernel
theorem dX6_many_60 : decode cX6_many 60 = .ok (.aload_n 0, 1) := by decide +kernel
theorem dX6_many_61 : decode cX6_many 61 = .ok (.getfield 10, 3) := by decide +kernel
theorem dX6_many_64 : decode cX6_many 64 = .ok (.getfield 120, 3) := by decide +kernel
theorem dX6_many_67 : decode cX6_many 67 = .ok (.ireturn, 1) := by decide +kernel
theorem dX6_many_68 : decode cX6_many 68 = .ok (.aload_n 0, 1) := by decide +kernel
theorem dX6_many_69 : decode cX6_many 69 = .ok (.getfield 35, 3) := by decide +kernel
theorem dX6_many_72 : decode cX6_many 72 = .ok (.getfield 98, 3) := by decide +kernel
theorem dX6_many_75 : decode cX6_many 75 = .ok (.ireturn, 1) := by decide +kernel
theorem dX6_many_76 : decode cX6_many 76 = .ok (.aload_n 0, 1) := by decide +kernel
theorem dX6_many_77 : decode cX6_many 77 = .ok (.getfield 42, 3) := by decide +kernel
theorem dX6_many_80 : decode cX6_many 80 = .ok (.getfield 306, 3) := by decide +kernel
theorem dX6_many_83 : decode cX6_many 83 = .ok (.ireturn, 1) := by decide +kernel
theorem dX6_many_84 : decode cX6_many 84 = .ok (.aload_n 0, 1) := by decide +kernel
theorem dX6_many_85 : decode cX6_many 85 = .ok (.getfield 10, 3) := by decide +kernel
theorem dX6_many_88 : decode cX6_many 88 = .ok (.invokevirtual 311, 3) := by decide +kernel
theorem dX6_many_91 : decode cX6_many 91 = .ok (.ireturn, 1) := by decide +kernel
theorem dX6_many_92 : decode cX6_many 92 = .ok (.aload_n 0, 1) := by decide +kernel
theorem dX6_many_93 : decode cX6_many 93 = .ok (.getfield 10, 3) := by decide +kernel
theorem dX6_many_96 : decode cX6_many 96 = .ok (.invokevirtual 314, 3) := by decide +kernel
theorem dX6_many_99 : decode cX6_many 99 = .ok (.ireturn, 1) := by decide +kernel
theorem dX6_many_100 : decode cX6_many 100 = .ok (.iconst (-1), 1) := by decide +kernel
theorem dX6_many_101 : decode cX6_many 101 = .ok (.ireturn, 1) := by decide +kernel
theorem dX6_keep_0 : decode cX6_keep 0 = .ok (.aload_n 0, 1) := by decide +kernel
theorem dX6_keep_1 : decode cX6_keep 1 = .ok (.getfield 16, 3) := by decide +kernel
theorem dX6_keep_4 : decode cX6_keep 4 = .ok (.aload_n 0, 1) := by decide +kernel
theorem dX6_keep_5 : decode cX6_keep 5 = .ok (.getfield 10, 3) := by decide +kernel
theorem dX6_keep_8 : decode cX6_keep 8 = .ok (.invokevirtual 105, 3) := by decide +kernel
theorem dX6_keep_11 : decode cX6_keep 11 = .ok (.aload_n 0, 1) := by decide +kernel
theorem dX6_keep_12 : decode cX6_keep 12 = .ok (.iconst 1, 1) := by decide +kernel
theorem dX6_keep_13 : decode cX6_keep 13 = .ok (.putfield 317, 3) := by decide +kernel
theorem dX6_keep_16 : decode cX6_keep 16 = .ok (.iconst 1, 1) := by decide +kernel
theorem dX6_keep_17 : decode cX6_keep 17 = .ok (.ireturn, 1) := by decide +kernel
theorem dX6_again_0 : decode cX6_again 0 = .ok (.aload_n 0, 1) := by decide +kernel
theorem dX6_again_1 : decode cX6_again 1 = .ok (.getfield 317, 3) := by decide +kernel
theorem dX6_again_4 : decode cX6_again 4 = .ok (.ifCond .ne 6, 3) := by decide +kernel
theorem dX6_again_7 : decode cX6_again 7 = .ok (.bipush (-3), 2) := by decide +kernel
theorem dX6_again_9 : decode cX6_again 9 = .ok (.ireturn, 1) := by decide +kernel
theorem dX6_again_10 : decode cX6_again 10 = .ok (.aload_n 0, 1) := by decide +kernel
theorem dX6_again_11 : decode cX6_again 11 = .ok (.getfield 10, 3) := by decide +kernel
theorem dX6_again_14 : decode cX6_again 14 = .ok (.aload_n 0, 1) := by decide +kernel
theorem dX6_again_15 : decode cX6_again 15 = .ok (.getfield 16, 3) := by decide +kernel
theorem dX6_again_18 : decode cX6_again 18 = .ok (.invokevirtual 105, 3) := by decide +kernel
theorem dX6_again_21 : decode cX6_again 21 = .ok (.aload_n 0, 1) := by decide +kernel
theorem dX6_again_22 : decode cX6_again 22 = .ok (.getfield 10, 3) := by decide +kernel
theorem dX6_again_25 : decode cX6_again 25 = .ok (.getfield 120, 3) := by decide +kernel
theorem dX6_again_28 : decode cX6_again 28 = .ok (.ireturn, 1) := by decide +kernel
theorem dX6_far_0 : decode cX6_far 0 = .ok (.iload_n 0, 1) := by decide +kernel
theorem dX6_far_1 : decode cX6_far 1 = .ok (.i2l, 1) := by decide +kernel
theorem dX6_far_2 : decode cX6_far 2 = .ok (.ldc2_w 321, 3) := by decide +kernel
theorem dX6_far_5 : decode cX6_far 5 = .ok (.lsub, 1) := by decide +kernel
theorem dX6_far_6 : decode cX6_far 6 = .ok (.lreturn, 1) := by decide +kernel
theorem dX6_oneIf_0 : decode cX6_oneIf 0 = .ok (.iload_n 0, 1) := by decide +kernel
theorem dX6_oneIf_1 : decode cX6_oneIf 1 = .ok (.ifCond .eq 7, 3) := by decide +kernel
theorem dX6_oneIf_4 : decode cX6_oneIf 4 = .ok (.iconst 1, 1) := by decide +kernel
theorem dX6_oneIf_5 : decode cX6_oneIf 5 = .ok (.goto 4, 3) := by decide +kernel
theorem dX6_oneIf_8 : decode cX6_oneIf 8 = .ok (.iconst 0, 1) := by decide +kernel
theorem dX6_oneIf_9 : decode cX6_oneIf 9 = .ok (.ireturn, 1) := by decide +kernel
theorem dX6_isKind_0 : decode cX6_isKind 0 = .ok (.iload_n 0, 1) := by decide +kernel
theorem dX6_isKind_1 : decode cX6_isKind 1 = .ok (.ifCond .lt 13, 3) := by decide +kernel
theorem dX6_isKind_4 : decode cX6_isKind 4 = .ok (.iload_n 0, 1) := by decide +kernel
theorem dX6_isKind_5 : decode cX6_isKind 5 = .ok (.bipush 7, 2) := by decide +kernel
theorem dX6_isKind_7 : decode cX6_isKind 7 = .ok (.if_icmp .ge 7, 3) := by decide +kernel
theorem dX6_isKind_10 : decode cX6_isKind 10 = .ok (.iconst 1, 1) := by decide +kernel
theorem dX6_isKind_11 : decode cX6_isKind 11 = .ok (.goto 4, 3) := by decide +kernel
theorem dX6_isKind_14 : decode cX6_isKind 14 = .ok (.iconst 0, 1) := by decide +kernel
theorem dX6_isKind_15 : decode cX6_isKind 15 = .ok (.ireturn, 1) := by decide +kernel
theorem dX6_isShift_0 : decode cX6_isShift 0 = .ok (.iload_n 0, 1) := by decide +kernel
theorem dX6_isShift_1 : decode cX6_isShift 1 = .ok (.bipush (-2), 2) := by decide +kernel
theorem dX6_isShift_3 : decode cX6_isShift 3 = .ok (.if_icmp .lt 12, 3) := by decide +kernel
theorem dX6_isShift_6 : decode cX6_isShift 6 = .ok (.iload_n 0, 1) := by decide +kernel
theorem dX6_isShift_7 : decode cX6_isShift 7 = .ok (.iconst 2, 1) := by decide +kernel
theorem dX6_isShift_8 : decode cX6_isShift 8 = .ok (.if_icmp .gt 7, 3) := by decide +kernel
theorem dX6_isShift_11 : decode cX6_isShift 11 = .ok (.iconst 1, 1) := by decide +kernel
theorem dX6_isShift_12 : decode cX6_isShift 12 = .ok (.goto 4, 3) := by decide +kernel
theorem dX6_isShift_15 : decode cX6_isShift 15 = .ok (.iconst 0, 1) := by decide +kernel
theorem dX6_isShift_16 : decode cX6_isShift 16 = .ok (.ireturn, 1) := by decide +kernel
theorem dX6_isPart_0 : decode cX6_isPart 0 = .ok (.iload_n 0, 1) := by decide +kernel
theorem dX6_isPart_1 : decode cX6_isPart 1 = .ok (.ifCond .eq 8, 3) := by decide +kernel
theorem dX6_isPart_4 : decode cX6_isPart 4 = .ok (.iload_n 0, 1) := by decide +kernel
theorem dX6_isPart_5 : decode cX6_isPart 5 = .ok (.iconst 1, 1) := by decide +kernel
theorem dX6_isPart_6 : decode cX6_isPart 6 = .ok (.if_icmp .ne 7, 3) := by decide +kernel
theorem dX6_isPart_9 : decode cX6_isPart 9 = .ok (.iconst 1, 1) := by decide +kernel
theorem dX6_isPart_10 : decode cX6_isPart 10 = .ok (.goto 4, 3) := by decide +kernel
theorem dX6_isPart_13 : decode cX6_isPart 13 = .ok (.iconst 0, 1) := by decide +kernel
theorem dX6_isPart_14 : decode cX6_isPart 14 = .ok (.ireturn, 1) := by decide +kernel
theorem dX6_isSheet_0 : decode cX6_isSheet 0 = .ok (.iload_n 0, 1) := by decide +kernel
theorem dX6_isSheet_1 : decode cX6_isSheet 1 = .ok (.ifCond .lt 12, 3) := by decide +kernel
theorem dX6_isSheet_4 : decode cX6_isSheet 4 = .ok (.iload_n 0, 1) := by decide +kernel
theorem dX6_isSheet_5 : decode cX6_isSheet 5 = .ok (.iconst 4, 1) := by decide +kernel
theorem dX6_isSheet_6 : decode cX6_isSheet 6 = .ok (.if_icmp .ge 7, 3) := by decide +kernel
theorem dX6_isSheet_9 : decode cX6_isSheet 9 = .ok (.iconst 1, 1) := by decide +kernel
theorem dX6_isSheet_10 : decode cX6_isSheet 10 = .ok (.goto 4, 3) := by decide +kernel
theorem dX6_isSheet_13 : decode cX6_isSheet 13 = .ok (.iconst 0, 1) := by decide +kernel
theorem dX6_isSheet_14 : decode cX6_isSheet 14 = .ok (.ireturn, 1) := by decide +kernel
theorem dX6_isShelf_0 : decode cX6_isShelf 0 = .ok (.iload_n 0, 1) := by decide +kernel
theorem dX6_isShelf_1 : decode cX6_isShelf 1 = .ok (.ifCond .lt 12, 3) := by decide +kernel
theorem dX6_isShelf_4 : decode cX6_isShelf 4 = .ok (.iload_n 0, 1) := by decide +kernel
theorem dX6_isShelf_5 : decode cX6_isShelf 5 = .ok (.iconst 4, 1) := by decide +kernel
theorem dX6_isShelf_6 : decode cX6_isShelf 6 = .ok (.if_icmp .ge 7, 3) := by decide +kernel
theorem dX6_isShelf_9 : decode cX6_isShelf 9 = .ok (.iconst 1, 1) := by decide +kernel
theorem dX6_isShelf_10 : decode cX6_isShelf 10 = .ok (.goto 4, 3) := by decide +kernel
theorem dX6_isShelf_13 : decode cX6_isShelf 13 = .ok (.iconst 0, 1) := by decide +kernel
theorem dX6_isShelf_14 : decode cX6_isShelf 14 = .ok (.ireturn, 1) := by decide +kernel
theorem dX6_isSort_0 : decode cX6_isSort 0 = .ok (.iload_n 0, 1) := by decide +kernel
theorem dX6_isSort_1 : decode cX6_isSort 1 = .ok (.ifCond .lt 12, 3) := by decide +kernel
theorem dX6_isSort_4 : decode cX6_isSort 4 = .ok (.iload_n 0, 1) := by decide +kernel
theorem dX6_isSort_5 : decode cX6_isSort 5 = .ok (.iconst 3, 1) := by decide +kernel
theorem dX6_isSort_6 : decode cX6_isSort 6 = .ok (.if_icmp .gt 7, 3) := by decide +kernel
theorem dX6_isSort_9 : decode cX6_isSort 9 = .ok (.iconst 1, 1) := by decide +kernel
theorem dX6_isSort_10 : decode cX6_isSort 10 = .ok (.goto 4, 3) := by decide +kernel
theorem dX6_isSort_13 : decode cX6_isSort 13 = .ok (.iconst 0, 1) := by decide +kernel
theorem dX6_isSort_14 : decode cX6_isSort 14 = .ok (.ireturn, 1) := by decide +kernel
theorem dX6_reach_0 : decode cX6_reach 0 = .ok (.iload_n 0, 1) := by decide +kernel
theorem dX6_reach_1 : decode cX6_reach 1 = .ok (.iconst 2, 1) := by decide +kernel
theorem dX6_reach_2 : decode cX6_reach 2 = .ok (.if_icmp .ne 8, 3) := by decide +kernel
theorem dX6_reach_5 : decode cX6_reach 5 = .ok (.bipush 50, 2) := by decide +kernel
theorem dX6_reach_7 : decode cX6_reach 7 = .ok (.goto 4, 3) := by decide +kernel
theorem dX6_reach_10 : decode cX6_reach 10 = .ok (.iconst 5, 1) := by decide +kernel
theorem dX6_reach_11 : decode cX6_reach 11 = .ok (.ireturn, 1) := by decide +kernel
theorem dX6_isUnder_0 : decode cX6_isUnder 0 = .ok (.iload_n 0, 1) := by decide +kernel
theorem dX6_isUnder_1 : decode cX6_isUnder 1 = .ok (.istore_n 2, 1) := by decide +kernel
theorem dX6_isUnder_2 : decode cX6_isUnder 2 = .ok (.iconst 0, 1) := by decide +kernel
theorem dX6_isUnder_3 : decode cX6_isUnder 3 = .ok (.istore_n 3, 1) := by decide +kernel
theorem dX6_isUnder_4 : decode cX6_isUnder 4 = .ok (.iload_n 3, 1) := by decide +kernel
theorem dX6_isUnder_5 : decode cX6_isUnder 5 = .ok (.bipush 7, 2) := by decide +kernel
theorem dX6_isUnder_7 : decode cX6_isUnder 7 = .ok (.if_icmp .ge 23, 3) := by decide +kernel
theorem dX6_isUnder_10 : decode cX6_isUnder 10 = .ok (.iload_n 2, 1) := by decide +kernel
theorem dX6_isUnder_11 : decode cX6_isUnder 11 = .ok (.ifCond .lt 19, 3) := by decide +kernel
theorem dX6_isUnder_14 : decode cX6_isUnder 14 = .ok (.iload_n 2, 1) := by decide +kernel
theorem dX6_isUnder_15 : decode cX6_isUnder 15 = .ok (.iload_n 1, 1) := by decide +kernel
theorem dX6_isUnder_16 : decode cX6_isUnder 16 = .ok (.if_icmp .eq 14, 3) := by decide +kernel
theorem dX6_isUnder_19 : decode cX6_isUnder 19 = .ok (.iload_n 2, 1) := by decide +kernel
theorem dX6_isUnder_20 : decode cX6_isUnder 20 = .ok (.invokestatic 323, 3) := by decide +kernel
theorem dX6_isUnder_23 : decode cX6_isUnder 23 = .ok (.istore_n 2, 1) := by decide +kernel
theorem dX6_isUnder_24 : decode cX6_isUnder 24 = .ok (.iinc 3 1, 3) := by decide +kernel
theorem dX6_isUnder_27 : decode cX6_isUnder 27 = .ok (.goto (-23), 3) := by decide +kernel
theorem dX6_isUnder_30 : decode cX6_isUnder 30 = .ok (.iload_n 2, 1) := by decide +kernel
theorem dX6_isUnder_31 : decode cX6_isUnder 31 = .ok (.iload_n 1, 1) := by decide +kernel
theorem dX6_isUnder_32 : decode cX6_isUnder 32 = .ok (.if_icmp .ne 7, 3) := by decide +kernel
theorem dX6_isUnder_35 : decode cX6_isUnder 35 = .ok (.iconst 1, 1) := by decide +kernel
theorem dX6_isUnder_36 : decode cX6_isUnder 36 = .ok (.goto 4, 3) := by decide +kernel
theorem dX6_isUnder_39 : decode cX6_isUnder 39 = .ok (.iconst 0, 1) := by decide +kernel
theorem dX6_isUnder_40 : decode cX6_isUnder 40 = .ok (.ireturn, 1) := by decide +kernel
theorem dX6_kindAbove_0 : decode cX6_kindAbove 0 = .ok (.iload_n 0, 1) := by decide +kernel
theorem dX6_kindAbove_1 : decode cX6_kindAbove 1 = .ok (.tableswitch 51 0 6 #[43, 51, 51, 51, 45, 47, 49], 43) := by decide +kernel
theorem dX6_kindAbove_44 : decode cX6_kindAbove 44 = .ok (.iconst (-1), 1) := by decide +kernel
theorem dX6_kindAbove_45 : decode cX6_kindAbove 45 = .ok (.ireturn, 1) := by decide +kernel
theorem dX6_kindAbove_46 : decode cX6_kindAbove 46 = .ok (.iconst 2, 1) := by decide +kernel
theorem dX6_kindAbove_47 : decode cX6_kindAbove 47 = .ok (.ireturn, 1) := by decide +kernel
theorem dX6_kindAbove_48 : decode cX6_kindAbove 48 = .ok (.iconst 3, 1) := by decide +kernel
theorem dX6_kindAbove_49 : decode cX6_kindAbove 49 = .ok (.ireturn, 1) := by decide +kernel
theorem dX6_kindAbove_50 : decode cX6_kindAbove 50 = .ok (.iconst 5, 1) := by decide +kernel
theorem dX6_kindAbove_51 : decode cX6_kindAbove 51 = .ok (.ireturn, 1) := by decide +kernel
theorem dX6_kindAbove_52 : decode cX6_kindAbove 52 = .ok (.iconst 0, 1) := by decide +kernel
theorem dX6_kindAbove_53 : decode cX6_kindAbove 53 = .ok (.ireturn, 1) := by decide +kernel
theorem dX6_commonDivisor_0 : decode cX6_commonDivisor 0 = .ok (.lload_n 0, 1) := by decide +kernel
theorem dX6_commonDivisor_1 : decode cX6_commonDivisor 1 = .ok (.lconst 0, 1) := by decide +kernel
theorem dX6_commonDivisor_2 : decode cX6_commonDivisor 2 = .ok (.lcmp, 1) := by decide +kernel
theorem dX6_commonDivisor_3 : decode cX6_commonDivisor 3 = .ok (.ifCond .le 8, 3) := by decide +kernel
theorem dX6_commonDivisor_6 : decode cX6_commonDivisor 6 = .ok (.lload_n 0, 1) := by decide +kernel
theorem dX6_commonDivisor_7 : decode cX6_commonDivisor 7 = .ok (.lneg, 1) := by decide +kernel
theorem dX6_commonDivisor_8 : decode cX6_commonDivisor 8 = .ok (.goto 4, 3) := by decide +kernel
theorem dX6_commonDivisor_11 : decode cX6_commonDivisor 11 = .ok (.lload_n 0, 1) := by decide +kernel
theorem dX6_commonDivisor_12 : decode cX6_commonDivisor 12 = .ok (.lstore 4, 2) := by decide +kernel
theorem dX6_commonDivisor_14 : decode cX6_commonDivisor 14 = .ok (.lload_n 2, 1) := by decide +kernel
theorem dX6_commonDivisor_15 : decode cX6_commonDivisor 15 = .ok (.lconst 0, 1) := by decide +kernel
theorem dX6_commonDivisor_16 : decode cX6_commonDivisor 16 = .ok (.lcmp, 1) := by decide +kernel
theorem dX6_commonDivisor_17 : decode cX6_commonDivisor 17 = .ok (.ifCond .le 8, 3) := by decide +kernel
theorem dX6_commonDivisor_20 : decode cX6_commonDivisor 20 = .ok (.lload_n 2, 1) := by decide +kernel
theorem dX6_commonDivisor_21 : decode cX6_commonDivisor 21 = .ok (.lneg, 1) := by decide +kernel
theorem dX6_commonDivisor_22 : decode cX6_commonDivisor 22 = .ok (.goto 4, 3) := by decide +kernel
theorem dX6_commonDivisor_25 : decode cX6_commonDivisor 25 = .ok (.lload_n 2, 1) := by decide +kernel
theorem dX6_commonDivisor_26 : decode cX6_commonDivisor 26 = .ok (.lstore 6, 2) := by decide +kernel
theorem dX6_commonDivisor_28 : decode cX6_commonDivisor 28 = .ok (.iconst 0, 1) := by decide +kernel
theorem dX6_commonDivisor_29 : decode cX6_commonDivisor 29 = .ok (.istore 8, 2) := by decide +kernel
theorem dX6_commonDivisor_31 : decode cX6_commonDivisor 31 = .ok (.iload 8, 2) := by decide +kernel
theorem dX6_commonDivisor_33 : decode cX6_commonDivisor 33 = .ok (.sipush 200, 3) := by decide +kernel
theorem dX6_commonDivisor_36 : decode cX6_commonDivisor 36 = .ok (.if_icmp .ge 31, 3) := by decide +kernel
theorem dX6_commonDivisor_39 : decode cX6_commonDivisor 39 = .ok (.lload 6, 2) := by decide +kernel
theorem dX6_commonDivisor_41 : decode cX6_commonDivisor 41 = .ok (.lconst 0, 1) := by decide +kernel
theorem dX6_commonDivisor_42 : decode cX6_commonDivisor 42 = .ok (.lcmp, 1) := by decide +kernel
theorem dX6_commonDivisor_43 : decode cX6_commonDivisor 43 = .ok (.ifCond .eq 24, 3) := by decide +kernel
theorem dX6_commonDivisor_46 : decode cX6_commonDivisor 46 = .ok (.lload 4, 2) := by decide +kernel
theorem dX6_commonDivisor_48 : decode cX6_commonDivisor 48 = .ok (.lload 6, 2) := by decide +kernel
theorem dX6_commonDivisor_50 : decode cX6_commonDivisor 50 = .ok (.lrem, 1) := by decide +kernel
theorem dX6_commonDivisor_51 : decode cX6_commonDivisor 51 = .ok (.lstore 9, 2) := by decide +kernel
theorem dX6_commonDivisor_53 : decode cX6_commonDivisor 53 = .ok (.lload 6, 2) := by decide +kernel
theorem dX6_commonDivisor_55 : decode cX6_commonDivisor 55 = .ok (.lstore 4, 2) := by decide +kernel
theorem dX6_commonDivisor_57 : decode cX6_commonDivisor 57 = .ok (.lload 9, 2) := by decide +kernel
theorem dX6_commonDivisor_59 : decode cX6_commonDivisor 59 = .ok (.lstore 6, 2) := by decide +kernel
theorem dX6_commonDivisor_61 : decode cX6_commonDivisor 61 = .ok (.iinc 8 1, 3) := by decide +kernel
theorem dX6_commonDivisor_64 : decode cX6_commonDivisor 64 = .ok (.goto (-33), 3) := by decide +kernel
theorem dX6_commonDivisor_67 : decode cX6_commonDivisor 67 = .ok (.lload_n 2, 1) := by decide +kernel
theorem dX6_commonDivisor_68 : decode cX6_commonDivisor 68 = .ok (.lconst 0, 1) := by decide +kernel
theorem dX6_commonDivisor_69 : decode cX6_commonDivisor 69 = .ok (.lcmp, 1) := by decide +kernel
theorem dX6_commonDivisor_70 : decode cX6_commonDivisor 70 = .ok (.ifCond .le 9, 3) := by decide +kernel
theorem dX6_commonDivisor_73 : decode cX6_commonDivisor 73 = .ok (.lload 4, 2) := by decide +kernel
theorem dX6_commonDivisor_75 : decode cX6_commonDivisor 75 = .ok (.lneg, 1) := by decide +kernel
theorem dX6_commonDivisor_76 : decode cX6_commonDivisor 76 = .ok (.goto 5, 3) := by decide +kernel
theorem dX6_commonDivisor_79 : decode cX6_commonDivisor 79 = .ok (.lload 4, 2) := by decide +kernel
theorem dX6_commonDivisor_81 : decode cX6_commonDivisor 81 = .ok (.lreturn, 1) := by decide +kernel
theorem dX6_fractionPart_0 : decode cX6_fractionPart 0 = .ok (.lload_n 0, 1) := by decide +kernel
theorem dX6_fractionPart_1 : decode cX6_fractionPart 1 = .ok (.lload_n 2, 1) := by decide +kernel
theorem dX6_fractionPart_2 : decode cX6_fractionPart 2 = .ok (.invokestatic 326, 3) := by decide +kernel
theorem dX6_fractionPart_5 : decode cX6_fractionPart 5 = .ok (.lstore 5, 2) := by decide +kernel
theorem dX6_fractionPart_7 : decode cX6_fractionPart 7 = .ok (.lload_n 2, 1) := by decide +kernel
theorem dX6_fractionPart_8 : decode cX6_fractionPart 8 = .ok (.lconst 0, 1) := by decide +kernel
theorem dX6_fractionPart_9 : decode cX6_fractionPart 9 = .ok (.lcmp, 1) := by decide +kernel
theorem dX6_fractionPart_10 : decode cX6_fractionPart 10 = .ok (.ifCond .eq 10, 3) := by decide +kernel
theorem dX6_fractionPart_13 : decode cX6_fractionPart 13 = .ok (.lload 5, 2) := by decide +kernel
theorem dX6_fractionPart_15 : decode cX6_fractionPart 15 = .ok (.lconst 0, 1) := by decide +kernel
theorem dX6_fractionPart_16 : decode cX6_fractionPart 16 = .ok (.lcmp, 1) := by decide +kernel
theorem dX6_fractionPart_17 : decode cX6_fractionPart 17 = .ok (.ifCond .ne 9, 3) := by decide +kernel
theorem dX6_fractionPart_20 : decode cX6_fractionPart 20 = .ok (.bipush (-15), 2) := by decide +kernel
theorem dX6_fractionPart_22 : decode cX6_fractionPart 22 = .ok (.invokestatic 87, 3) := by decide +kernel
theorem dX6_fractionPart_25 : decode cX6_fractionPart 25 = .ok (.lreturn, 1) := by decide +kernel
theorem dX6_fractionPart_26 : decode cX6_fractionPart 26 = .ok (.lload 5, 2) := by decide +kernel
theorem dX6_fractionPart_28 : decode cX6_fractionPart 28 = .ok (.ldc2_w 330, 3) := by decide +kernel
theorem dX6_fractionPart_31 : decode cX6_fractionPart 31 = .ok (.lcmp, 1) := by decide +kernel
theorem dX6_fractionPart_32 : decode cX6_fractionPart 32 = .ok (.ifCond .ne 25, 3) := by decide +kernel
theorem dX6_fractionPart_35 : decode cX6_fractionPart 35 = .ok (.lload_n 0, 1) := by decide +kernel
theorem dX6_fractionPart_36 : decode cX6_fractionPart 36 = .ok (.ldc2_w 332, 3) := by decide +kernel
theorem dX6_fractionPart_39 : decode cX6_fractionPart 39 = .ok (.lcmp, 1) := by decide +kernel
theorem dX6_fractionPart_40 : decode cX6_fractionPart 40 = .ok (.ifCond .eq 11, 3) := by decide +kernel
theorem dX6_fractionPart_43 : decode cX6_fractionPart 43 = .ok (.lload_n 2, 1) := by decide +kernel
theorem dX6_fractionPart_44 : decode cX6_fractionPart 44 = .ok (.ldc2_w 332, 3) := by decide +kernel
theorem dX6_fractionPart_47 : decode cX6_fractionPart 47 = .ok (.lcmp, 1) := by decide +kernel
theorem dX6_fractionPart_48 : decode cX6_fractionPart 48 = .ok (.ifCond .ne 9, 3) := by decide +kernel
theorem dX6_fractionPart_51 : decode cX6_fractionPart 51 = .ok (.bipush (-16), 2) := by decide +kernel
theorem dX6_fractionPart_53 : decode cX6_fractionPart 53 = .ok (.invokestatic 87, 3) := by decide +kernel
theorem dX6_fractionPart_56 : decode cX6_fractionPart 56 = .ok (.lreturn, 1) := by decide +kernel
theorem dX6_fractionPart_57 : decode cX6_fractionPart 57 = .ok (.iload 4, 2) := by decide +kernel
theorem dX6_fractionPart_59 : decode cX6_fractionPart 59 = .ok (.ifCond .ne 7, 3) := by decide +kernel
theorem dX6_fractionPart_62 : decode cX6_fractionPart 62 = .ok (.lload_n 0, 1) := by decide +kernel
theorem dX6_fractionPart_63 : decode cX6_fractionPart 63 = .ok (.goto 4, 3) := by decide +kernel
theorem dX6_fractionPart_66 : decode cX6_fractionPart 66 = .ok (.lload_n 2, 1) := by decide +kernel
theorem dX6_fractionPart_67 : decode cX6_fractionPart 67 = .ok (.lload 5, 2) := by decide +kernel
theorem dX6_fractionPart_69 : decode cX6_fractionPart 69 = .ok (.ldiv, 1) := by decide +kernel
theorem dX6_fractionPart_70 : decode cX6_fractionPart 70 = .ok (.lreturn, 1) := by decide +kernel
theorem dX6_heldNow_0 : decode cX6_heldNow 0 = .ok (.aload_n 1, 1) := by decide +kernel
theorem dX6_heldNow_1 : decode cX6_heldNow 1 = .ok (.getfield 334, 3) := by decide +kernel
theorem dX6_heldNow_4 : decode cX6_heldNow 4 = .ok (.ifCond .ne 19, 3) := by decide +kernel
theorem dX6_heldNow_7 : decode cX6_heldNow 7 = .ok (.aload_n 0, 1) := by decide +kernel
theorem dX6_heldNow_8 : decode cX6_heldNow 8 = .ok (.getfield 10, 3) := by decide +kernel
theorem dX6_heldNow_11 : decode cX6_heldNow 11 = .ok (.aload_n 1, 1) := by decide +kernel
theorem dX6_heldNow_12 : decode cX6_heldNow 12 = .ok (.getfield 286, 3) := by decide +kernel
theorem dX6_heldNow_15 : decode cX6_heldNow 15 = .ok (.invokevirtual 125, 3) := by decide +kernel
theorem dX6_heldNow_18 : decode cX6_heldNow 18 = .ok (.ifCond .ne 5, 3) := by decide +kernel
theorem dX6_heldNow_21 : decode cX6_heldNow 21 = .ok (.iconst 2, 1) := by decide +kernel
theorem dX6_heldNow_22 : decode cX6_heldNow 22 = .ok (.ireturn, 1) := by decide +kernel
theorem dX6_heldNow_23 : decode cX6_heldNow 23 = .ok (.aload_n 1, 1) := by decide +kernel
theorem dX6_heldNow_24 : decode cX6_heldNow 24 = .ok (.getfield 334, 3) := by decide +kernel
theorem dX6_heldNow_27 : decode cX6_heldNow 27 = .ok (.ireturn, 1) := by decide +kernel
theorem dX6_isSmallWhole_0 : decode cX6_isSmallWhole 0 = .ok (.aload_n 0, 1) := by decide +kernel
theorem dX6_isSmallWhole_1 : decode cX6_isSmallWhole 1 = .ok (.getfield 10, 3) := by decide +kernel
theorem dX6_isSmallWhole_4 : decode cX6_isSmallWhole 4 = .ok (.aload_n 0, 1) := by decide +kernel
theorem dX6_isSmallWhole_5 : decode cX6_isSmallWhole 5 = .ok (.getfield 10, 3) := by decide +kernel
theorem dX6_isSmallWhole_8 : decode cX6_isSmallWhole 8 = .ok (.iload_n 1, 1) := by decide +kernel
theorem dX6_isSmallWhole_9 : decode cX6_isSmallWhole 9 = .ok (.invokevirtual 128, 3) := by decide +kernel
theorem dX6_isSmallWhole_12 : decode cX6_isSmallWhole 12 = .ok (.invokevirtual 137, 3) := by decide +kernel
theorem dX6_isSmallWhole_15 : decode cX6_isSmallWhole 15 = .ok (.ifCond .eq 27, 3) := by decide +kernel
theorem dX6_isSmallWhole_18 : decode cX6_isSmallWhole 18 = .ok (.aload_n 0, 1) := by decide +kernel
theorem dX6_isSmallWhole_19 : decode cX6_isSmallWhole 19 = .ok (.getfield 10, 3) := by decide +kernel
theorem dX6_isSmallWhole_22 : decode cX6_isSmallWhole 22 = .ok (.getfield 60, 3) := by decide +kernel
theorem dX6_isSmallWhole_25 : decode cX6_isSmallWhole 25 = .ok (.aload_n 0, 1) := by decide +kernel
theorem dX6_isSmallWhole_26 : decode cX6_isSmallWhole 26 = .ok (.getfield 10, 3) := by decide +kernel
theorem dX6_isSmallWhole_29 : decode cX6_isSmallWhole 29 = .ok (.getfield 64, 3) := by decide +kernel
theorem dX6_isSmallWhole_32 : decode cX6_isSmallWhole 32 = .ok (.imul, 1) := by decide +kernel
theorem dX6_isSmallWhole_33 : decode cX6_isSmallWhole 33 = .ok (.bipush 6, 2) := by decide +kernel
theorem dX6_isSmallWhole_35 : decode cX6_isSmallWhole 35 = .ok (.if_icmp .gt 7, 3) := by decide +kernel
theorem dX6_isSmallWhole_38 : decode cX6_isSmallWhole 38 = .ok (.iconst 1, 1) := by decide +kernel
theorem dX6_isSmallWhole_39 : decode cX6_isSmallWhole 39 = .ok (.goto 4, 3) := by decide +kernel
theorem dX6_isSmallWhole_42 : decode cX6_isSmallWhole 42 = .ok (.iconst 0, 1) := by decide +kernel
theorem dX6_isSmallWhole_43 : decode cX6_isSmallWhole 43 = .ok (.ireturn, 1) := by decide +kernel
theorem dX6_solve_0 : decode cX6_solve 0 = .ok (.aload_n 0, 1) := by decide +kernel
theorem dX6_solve_1 : decode cX6_solve 1 = .ok (.getfield 10, 3) := by decide +kernel
theorem dX6_solve_4 : decode cX6_solve 4 = .ok (.iload_n 1, 1) := by decide +kernel
theorem dX6_solve_5 : decode cX6_solve 5 = .ok (.invokevirtual 128, 3) := by decide +kernel
theorem dX6_solve_8 : decode cX6_solve 8 = .ok (.istore_n 2, 1) := by decide +kernel
theorem dX6_solve_9 : decode cX6_solve 9 = .ok (.aload_n 0, 1) := by decide +kernel
theorem dX6_solve_10 : decode cX6_solve 10 = .ok (.iload_n 2, 1) := by decide +kernel
theorem dX6_solve_11 : decode cX6_solve 11 = .ok (.iload_n 2, 1) := by decide +kernel
theorem dX6_solve_12 : decode cX6_solve 12 = .ok (.aload_n 0, 1) := by decide +kernel
theorem dX6_solve_13 : decode cX6_solve 13 = .ok (.getfield 10, 3) := by decide +kernel
theorem dX6_solve_16 : decode cX6_solve 16 = .ok (.iload_n 1, 1) := by decide +kernel
theorem dX6_solve_17 : decode cX6_solve 17 = .ok (.invokevirtual 131, 3) := by decide +kernel
theorem dX6_solve_20 : decode cX6_solve 20 = .ok (.iconst 0, 1) := by decide +kernel
theorem dX6_solve_21 : decode cX6_solve 21 = .ok (.invokevirtual 192, 3) := by decide +kernel
theorem dX6_solve_24 : decode cX6_solve 24 = .ok (.aload_n 0, 1) := by decide +kernel
theorem dX6_solve_25 : decode cX6_solve 25 = .ok (.getfield 25, 3) := by decide +kernel
theorem dX6_solve_28 : decode cX6_solve 28 = .ok (.invokevirtual 199, 3) := by decide +kernel
theorem dX6_solve_31 : decode cX6_solve 31 = .ok (.return_, 1) := by decide +kernel
theorem dX6_fillGrid_0 : decode cX6_fillGrid 0 = .ok (.aload_n 0, 1) := by decide +kernel
theorem dX6_fillGrid_1 : decode cX6_fillGrid 1 = .ok (.getfield 10, 3) := by decide +kernel
theorem dX6_fillGrid_4 : decode cX6_fillGrid 4 = .ok (.getfield 64, 3) := by decide +kernel
theorem dX6_fillGrid_7 : decode cX6_fillGrid 7 = .ok (.istore 5, 2) := by decide +kernel
theorem dX6_fillGrid_9 : decode cX6_fillGrid 9 = .ok (.aload_n 0, 1) := by decide +kernel
theorem dX6_fillGrid_10 : decode cX6_fillGrid 10 = .ok (.getfield 10, 3) := by decide +kernel
theorem dX6_fillGrid_13 : decode cX6_fillGrid 13 = .ok (.iload_n 2, 1) := by decide +kernel
theorem dX6_fillGrid_14 : decode cX6_fillGrid 14 = .ok (.invokevirtual 140, 3) := by decide +kernel
theorem dX6_fillGrid_17 : decode cX6_fillGrid 17 = .ok (.iload 4, 2) := by decide +kernel
theorem dX6_fillGrid_19 : decode cX6_fillGrid 19 = .ok (.iload 5, 2) := by decide +kernel
theorem dX6_fillGrid_21 : decode cX6_fillGrid 21 = .ok (.imul, 1) := by decide +kernel
theorem dX6_fillGrid_22 : decode cX6_fillGrid 22 = .ok (.isub, 1) := by decide +kernel
theorem dX6_fillGrid_23 : decode cX6_fillGrid 23 = .ok (.istore 6, 2) := by decide +kernel
theorem dX6_fillGrid_25 : decode cX6_fillGrid 25 = .ok (.aload_n 0, 1) := by decide +kernel
theorem dX6_fillGrid_26 : decode cX6_fillGrid 26 = .ok (.getfield 25, 3) := by decide +kernel
theorem dX6_fillGrid_29 : decode cX6_fillGrid 29 = .ok (.aload_n 0, 1) := by decide +kernel
theorem dX6_fillGrid_30 : decode cX6_fillGrid 30 = .ok (.getfield 10, 3) := by decide +kernel
theorem dX6_fillGrid_33 : decode cX6_fillGrid 33 = .ok (.getfield 60, 3) := by decide +kernel
theorem dX6_fillGrid_36 : decode cX6_fillGrid 36 = .ok (.iload 4, 2) := by decide +kernel
theorem dX6_fillGrid_38 : decode cX6_fillGrid 38 = .ok (.isub, 1) := by decide +kernel
theorem dX6_fillGrid_39 : decode cX6_fillGrid 39 = .ok (.iload 5, 2) := by decide +kernel
theorem dX6_fillGrid_41 : decode cX6_fillGrid 41 = .ok (.imul, 1) := by decide +kernel
theorem dX6_fillGrid_42 : decode cX6_fillGrid 42 = .ok (.iload 6, 2) := by decide +kernel
theorem dX6_fillGrid_44 : decode cX6_fillGrid 44 = .ok (.invokevirtual 337, 3) := by decide +kernel
theorem dX6_fillGrid_47 : decode cX6_fillGrid 47 = .ok (.iload 4, 2) := by decide +kernel
theorem dX6_fillGrid_49 : decode cX6_fillGrid 49 = .ok (.istore 7, 2) := by decide +kernel
theorem dX6_fillGrid_51 : decode cX6_fillGrid 51 = .ok (.iload 7, 2) := by decide +kernel
theorem dX6_fillGrid_53 : decode cX6_fillGrid 53 = .ok (.aload_n 0, 1) := by decide +kernel
theorem dX6_fillGrid_54 : decode cX6_fillGrid 54 = .ok (.getfield 10, 3) := by decide +kernel
theorem dX6_fillGrid_57 : decode cX6_fillGrid 57 = .ok (.getfield 60, 3) := by decide +kernel
theorem dX6_fillGrid_60 : decode cX6_fillGrid 60 = .ok (.if_icmp .ge 71, 3) := by decide +kernel
theorem dX6_fillGrid_63 : decode cX6_fillGrid 63 = .ok (.iconst 0, 1) := by decide +kernel
theorem dX6_fillGrid_64 : decode cX6_fillGrid 64 = .ok (.istore 8, 2) := by decide +kernel
theorem dX6_fillGrid_66 : decode cX6_fillGrid 66 = .ok (.iload 8, 2) := by decide +kernel
theorem dX6_fillGrid_68 : decode cX6_fillGrid 68 = .ok (.iload 5, 2) := by decide +kernel
theorem dX6_fillGrid_70 : decode cX6_fillGrid 70 = .ok (.if_icmp .ge 55, 3) := by decide +kernel
theorem dX6_fillGrid_73 : decode cX6_fillGrid 73 = .ok (.aload_n 0, 1) := by decide +kernel
theorem dX6_fillGrid_74 : decode cX6_fillGrid 74 = .ok (.getfield 25, 3) := by decide +kernel
theorem dX6_fillGrid_77 : decode cX6_fillGrid 77 = .ok (.iload 7, 2) := by decide +kernel
theorem dX6_fillGrid_79 : decode cX6_fillGrid 79 = .ok (.iload 4, 2) := by decide +kernel
theorem dX6_fillGrid_81 : decode cX6_fillGrid 81 = .ok (.isub, 1) := by decide +kernel
theorem dX6_fillGrid_82 : decode cX6_fillGrid 82 = .ok (.iload 5, 2) := by decide +kernel
theorem dX6_fillGrid_84 : decode cX6_fillGrid 84 = .ok (.imul, 1) := by decide +kernel
theorem dX6_fillGrid_85 : decode cX6_fillGrid 85 = .ok (.iload 8, 2) := by decide +kernel
theorem dX6_fillGrid_87 : decode cX6_fillGrid 87 = .ok (.iadd, 1) := by decide +kernel
theorem dX6_fillGrid_88 : decode cX6_fillGrid 88 = .ok (.iload 6, 2) := by decide +kernel
theorem dX6_fillGrid_90 : decode cX6_fillGrid 90 = .ok (.aload_n 0, 1) := by decide +kernel
theorem dX6_fillGrid_91 : decode cX6_fillGrid 91 = .ok (.getfield 10, 3) := by decide +kernel
theorem dX6_fillGrid_94 : decode cX6_fillGrid 94 = .ok (.iconst 2, 1) := by decide +kernel
theorem dX6_fillGrid_95 : decode cX6_fillGrid 95 = .ok (.iload 7, 2) := by decide +kernel
theorem dX6_fillGrid_97 : decode cX6_fillGrid 97 = .ok (.iload 8, 2) := by decide +kernel
theorem dX6_fillGrid_99 : decode cX6_fillGrid 99 = .ok (.invokevirtual 79, 3) := by decide +kernel
theorem dX6_fillGrid_102 : decode cX6_fillGrid 102 = .ok (.i2l, 1) := by decide +kernel
theorem dX6_fillGrid_103 : decode cX6_fillGrid 103 = .ok (.invokevirtual 340, 3) := by decide +kernel
theorem dX6_fillGrid_106 : decode cX6_fillGrid 106 = .ok (.aload_n 0, 1) := by decide +kernel
theorem dX6_fillGrid_107 : decode cX6_fillGrid 107 = .ok (.iload_n 1, 1) := by decide +kernel
theorem dX6_fillGrid_108 : decode cX6_fillGrid 108 = .ok (.iload_n 2, 1) := by decide +kernel
theorem dX6_fillGrid_109 : decode cX6_fillGrid 109 = .ok (.iload_n 3, 1) := by decide +kernel
theorem dX6_fillGrid_110 : decode cX6_fillGrid 110 = .ok (.iload 4, 2) := by decide +kernel
theorem dX6_fillGrid_112 : decode cX6_fillGrid 112 = .ok (.iload 7, 2) := by decide +kernel
theorem dX6_fillGrid_114 : decode cX6_fillGrid 114 = .ok (.iload 8, 2) := by decide +kernel
theorem dX6_fillGrid_116 : decode cX6_fillGrid 116 = .ok (.invokevirtual 344, 3) := by decide +kernel
theorem dX6_fillGrid_119 : decode cX6_fillGrid 119 = .ok (.iinc 8 1, 3) := by decide +kernel
theorem dX6_fillGrid_122 : decode cX6_fillGrid 122 = .ok (.goto (-56), 3) := by decide +kernel
theorem dX6_fillGrid_125 : decode cX6_fillGrid 125 = .ok (.iinc 7 1, 3) := by decide +kernel
theorem dX6_fillGrid_128 : decode cX6_fillGrid 128 = .ok (.goto (-77), 3) := by decide +kernel
theorem dX6_fillGrid_131 : decode cX6_fillGrid 131 = .ok (.return_, 1) := by decide +kernel
theorem dX6_fillRow_0 : decode cX6_fillRow 0 = .ok (.iload 5, 2) := by decide +kernel
theorem dX6_fillRow_2 : decode cX6_fillRow 2 = .ok (.iload 4, 2) := by decide +kernel
theorem dX6_fillRow_4 : decode cX6_fillRow 4 = .ok (.isub, 1) := by decide +kernel
theorem dX6_fillRow_5 : decode cX6_fillRow 5 = .ok (.aload_n 0, 1) := by decide +kernel
theorem dX6_fillRow_6 : decode cX6_fillRow 6 = .ok (.getfield 10, 3) := by decide +kernel
theorem dX6_fillRow_9 : decode cX6_fillRow 9 = .ok (.getfield 64, 3) := by decide +kernel
theorem dX6_fillRow_12 : decode cX6_fillRow 12 = .ok (.imul, 1) := by decide +kernel
theorem dX6_fillRow_13 : decode cX6_fillRow 13 = .ok (.iload 6, 2) := by decide +kernel
theorem dX6_fillRow_15 : decode cX6_fillRow 15 = .ok (.iadd, 1) := by decide +kernel
theorem dX6_fillRow_16 : decode cX6_fillRow 16 = .ok (.istore 7, 2) := by decide +kernel
theorem dX6_fillRow_18 : decode cX6_fillRow 18 = .ok (.iload 4, 2) := by decide +kernel
theorem dX6_fillRow_20 : decode cX6_fillRow 20 = .ok (.istore 8, 2) := by decide +kernel
theorem dX6_fillRow_22 : decode cX6_fillRow 22 = .ok (.iload 8, 2) := by decide +kernel
theorem dX6_fillRow_24 : decode cX6_fillRow 24 = .ok (.aload_n 0, 1) := by decide +kernel
theorem dX6_fillRow_25 : decode cX6_fillRow 25 = .ok (.getfield 10, 3) := by decide +kernel
theorem dX6_fillRow_28 : decode cX6_fillRow 28 = .ok (.getfield 60, 3) := by decide +kernel
theorem dX6_fillRow_31 : decode cX6_fillRow 31 = .ok (.if_icmp .ge 158, 3) := by decide +kernel
theorem dX6_fillRow_34 : decode cX6_fillRow 34 = .ok (.iconst 0, 1) := by decide +kernel
theorem dX6_fillRow_35 : decode cX6_fillRow 35 = .ok (.istore 9, 2) := by decide +kernel
theorem dX6_fillRow_37 : decode cX6_fillRow 37 = .ok (.iload 9, 2) := by decide +kernel
theorem dX6_fillRow_39 : decode cX6_fillRow 39 = .ok (.aload_n 0, 1) := by decide +kernel
theorem dX6_fillRow_40 : decode cX6_fillRow 40 = .ok (.getfield 10, 3) := by decide +kernel
theorem dX6_fillRow_43 : decode cX6_fillRow 43 = .ok (.getfield 64, 3) := by decide +kernel
theorem dX6_fillRow_46 : decode cX6_fillRow 46 = .ok (.if_icmp .ge 137, 3) := by decide +kernel
theorem dX6_fillRow_49 : decode cX6_fillRow 49 = .ok (.aload_n 0, 1) := by decide +kernel
theorem dX6_fillRow_50 : decode cX6_fillRow 50 = .ok (.getfield 10, 3) := by decide +kernel
theorem dX6_fillRow_53 : decode cX6_fillRow 53 = .ok (.iload_n 2, 1) := by decide +kernel
theorem dX6_fillRow_54 : decode cX6_fillRow 54 = .ok (.iload 8, 2) := by decide +kernel
theorem dX6_fillRow_56 : decode cX6_fillRow 56 = .ok (.iload 9, 2) := by decide +kernel
theorem dX6_fillRow_58 : decode cX6_fillRow 58 = .ok (.invokevirtual 183, 3) := by decide +kernel
theorem dX6_fillRow_61 : decode cX6_fillRow 61 = .ok (.istore 10, 2) := by decide +kernel
theorem dX6_fillRow_63 : decode cX6_fillRow 63 = .ok (.iload 10, 2) := by decide +kernel
theorem dX6_fillRow_65 : decode cX6_fillRow 65 = .ok (.ifCond .eq 112, 3) := by decide +kernel
theorem dX6_fillRow_68 : decode cX6_fillRow 68 = .ok (.iload 9, 2) := by decide +kernel
theorem dX6_fillRow_70 : decode cX6_fillRow 70 = .ok (.iload 6, 2) := by decide +kernel
theorem dX6_fillRow_72 : decode cX6_fillRow 72 = .ok (.if_icmp .eq 10, 3) := by decide +kernel
theorem dX6_fillRow_75 : decode cX6_fillRow 75 = .ok (.iload 8, 2) := by decide +kernel
theorem dX6_fillRow_77 : decode cX6_fillRow 77 = .ok (.iload 5, 2) := by decide +kernel
theorem dX6_fillRow_79 : decode cX6_fillRow 79 = .ok (.if_icmp .ne 98, 3) := by decide +kernel
theorem dX6_fillRow_82 : decode cX6_fillRow 82 = .ok (.aload_n 0, 1) := by decide +kernel
theorem dX6_fillRow_83 : decode cX6_fillRow 83 = .ok (.getfield 10, 3) := by decide +kernel
theorem dX6_fillRow_86 : decode cX6_fillRow 86 = .ok (.iload_n 2, 1) := by decide +kernel
theorem dX6_fillRow_87 : decode cX6_fillRow 87 = .ok (.iload 8, 2) := by decide +kernel
theorem dX6_fillRow_89 : decode cX6_fillRow 89 = .ok (.iload 9, 2) := by decide +kernel
theorem dX6_fillRow_91 : decode cX6_fillRow 91 = .ok (.invokevirtual 186, 3) := by decide +kernel
theorem dX6_fillRow_94 : decode cX6_fillRow 94 = .ok (.iload 4, 2) := by decide +kernel
theorem dX6_fillRow_96 : decode cX6_fillRow 96 = .ok (.aload_n 0, 1) := by decide +kernel
theorem dX6_fillRow_97 : decode cX6_fillRow 97 = .ok (.getfield 10, 3) := by decide +kernel
theorem dX6_fillRow_100 : decode cX6_fillRow 100 = .ok (.getfield 64, 3) := by decide +kernel
theorem dX6_fillRow_103 : decode cX6_fillRow 103 = .ok (.imul, 1) := by decide +kernel
theorem dX6_fillRow_104 : decode cX6_fillRow 104 = .ok (.isub, 1) := by decide +kernel
theorem dX6_fillRow_105 : decode cX6_fillRow 105 = .ok (.istore 11, 2) := by decide +kernel
theorem dX6_fillRow_107 : decode cX6_fillRow 107 = .ok (.iload 9, 2) := by decide +kernel
theorem dX6_fillRow_109 : decode cX6_fillRow 109 = .ok (.iload 6, 2) := by decide +kernel
theorem dX6_fillRow_111 : decode cX6_fillRow 111 = .ok (.if_icmp .ne 18, 3) := by decide +kernel
theorem dX6_fillRow_114 : decode cX6_fillRow 114 = .ok (.aload_n 0, 1) := by decide +kernel
theorem dX6_fillRow_115 : decode cX6_fillRow 115 = .ok (.getfield 10, 3) := by decide +kernel
theorem dX6_fillRow_118 : decode cX6_fillRow 118 = .ok (.iload_n 3, 1) := by decide +kernel
theorem dX6_fillRow_119 : decode cX6_fillRow 119 = .ok (.iload 5, 2) := by decide +kernel
theorem dX6_fillRow_121 : decode cX6_fillRow 121 = .ok (.iload 8, 2) := by decide +kernel
theorem dX6_fillRow_123 : decode cX6_fillRow 123 = .ok (.invokevirtual 348, 3) := by decide +kernel
theorem dX6_fillRow_126 : decode cX6_fillRow 126 = .ok (.goto 4, 3) := by decide +kernel
theorem dX6_fillRow_129 : decode cX6_fillRow 129 = .ok (.iconst 0, 1) := by decide +kernel
theorem dX6_fillRow_130 : decode cX6_fillRow 130 = .ok (.istore 12, 2) := by decide +kernel
theorem dX6_fillRow_132 : decode cX6_fillRow 132 = .ok (.iload 12, 2) := by decide +kernel
theorem dX6_fillRow_134 : decode cX6_fillRow 134 = .ok (.iload 8, 2) := by decide +kernel
theorem dX6_fillRow_136 : decode cX6_fillRow 136 = .ok (.iload 5, 2) := by decide +kernel
theorem dX6_fillRow_138 : decode cX6_fillRow 138 = .ok (.if_icmp .ne 18, 3) := by decide +kernel
theorem dX6_fillRow_141 : decode cX6_fillRow 141 = .ok (.aload_n 0, 1) := by decide +kernel
theorem dX6_fillRow_142 : decode cX6_fillRow 142 = .ok (.getfield 10, 3) := by decide +kernel
theorem dX6_fillRow_145 : decode cX6_fillRow 145 = .ok (.iload_n 1, 1) := by decide +kernel
theorem dX6_fillRow_146 : decode cX6_fillRow 146 = .ok (.iload 9, 2) := by decide +kernel
theorem dX6_fillRow_148 : decode cX6_fillRow 148 = .ok (.iload 6, 2) := by decide +kernel
theorem dX6_fillRow_150 : decode cX6_fillRow 150 = .ok (.invokevirtual 162, 3) := by decide +kernel
theorem dX6_fillRow_153 : decode cX6_fillRow 153 = .ok (.goto 4, 3) := by decide +kernel
theorem dX6_fillRow_156 : decode cX6_fillRow 156 = .ok (.iconst 0, 1) := by decide +kernel
theorem dX6_fillRow_157 : decode cX6_fillRow 157 = .ok (.iadd, 1) := by decide +kernel
theorem dX6_fillRow_158 : decode cX6_fillRow 158 = .ok (.istore 12, 2) := by decide +kernel
theorem dX6_fillRow_160 : decode cX6_fillRow 160 = .ok (.aload_n 0, 1) := by decide +kernel
theorem dX6_fillRow_161 : decode cX6_fillRow 161 = .ok (.getfield 25, 3) := by decide +kernel
theorem dX6_fillRow_164 : decode cX6_fillRow 164 = .ok (.iload 7, 2) := by decide +kernel
theorem dX6_fillRow_166 : decode cX6_fillRow 166 = .ok (.iload 11, 2) := by decide +kernel
theorem dX6_fillRow_168 : decode cX6_fillRow 168 = .ok (.iload 10, 2) := by decide +kernel
theorem dX6_fillRow_170 : decode cX6_fillRow 170 = .ok (.iload 12, 2) := by decide +kernel
theorem dX6_fillRow_172 : decode cX6_fillRow 172 = .ok (.imul, 1) := by decide +kernel
theorem dX6_fillRow_173 : decode cX6_fillRow 173 = .ok (.i2l, 1) := by decide +kernel
theorem dX6_fillRow_174 : decode cX6_fillRow 174 = .ok (.invokevirtual 340, 3) := by decide +kernel
theorem dX6_fillRow_177 : decode cX6_fillRow 177 = .ok (.iinc 9 1, 3) := by decide +kernel
theorem dX6_fillRow_180 : decode cX6_fillRow 180 = .ok (.goto (-143), 3) := by decide +kernel
theorem dX6_fillRow_183 : decode cX6_fillRow 183 = .ok (.iinc 8 1, 3) := by decide +kernel
theorem dX6_fillRow_186 : decode cX6_fillRow 186 = .ok (.goto (-164), 3) := by decide +kernel
theorem dX6_fillRow_189 : decode cX6_fillRow 189 = .ok (.return_, 1) := by decide +kernel
theorem dX6_solutionAbove_0 : decode cX6_solutionAbove 0 = .ok (.aload_n 0, 1) := by decide +kernel
theorem dX6_solutionAbove_1 : decode cX6_solutionAbove 1 = .ok (.getfield 10, 3) := by decide +kernel
theorem dX6_solutionAbove_4 : decode cX6_solutionAbove 4 = .ok (.iload_n 1, 1) := by decide +kernel
theorem dX6_solutionAbove_5 : decode cX6_solutionAbove 5 = .ok (.iload_n 2, 1) := by decide +kernel
theorem dX6_solutionAbove_6 : decode cX6_solutionAbove 6 = .ok (.iload_n 3, 1) := by decide +kernel
theorem dX6_solutionAbove_7 : decode cX6_solutionAbove 7 = .ok (.invokevirtual 183, 3) := by decide +kernel
theorem dX6_solutionAbove_10 : decode cX6_solutionAbove 10 = .ok (.i2l, 1) := by decide +kernel
theorem dX6_solutionAbove_11 : decode cX6_solutionAbove 11 = .ok (.aload_n 0, 1) := by decide +kernel
theorem dX6_solutionAbove_12 : decode cX6_solutionAbove 12 = .ok (.getfield 25, 3) := by decide +kernel
theorem dX6_solutionAbove_15 : decode cX6_solutionAbove 15 = .ok (.aload_n 0, 1) := by decide +kernel
theorem dX6_solutionAbove_16 : decode cX6_solutionAbove 16 = .ok (.getfield 10, 3) := by decide +kernel
theorem dX6_solutionAbove_19 : decode cX6_solutionAbove 19 = .ok (.iload_n 1, 1) := by decide +kernel
theorem dX6_solutionAbove_20 : decode cX6_solutionAbove 20 = .ok (.iload_n 2, 1) := by decide +kernel
theorem dX6_solutionAbove_21 : decode cX6_solutionAbove 21 = .ok (.iload_n 3, 1) := by decide +kernel
theorem dX6_solutionAbove_22 : decode cX6_solutionAbove 22 = .ok (.invokevirtual 186, 3) := by decide +kernel
theorem dX6_solutionAbove_25 : decode cX6_solutionAbove 25 = .ok (.invokevirtual 202, 3) := by decide +kernel
theorem dX6_solutionAbove_28 : decode cX6_solutionAbove 28 = .ok (.lmul, 1) := by decide +kernel
theorem dX6_solutionAbove_29 : decode cX6_solutionAbove 29 = .ok (.lreturn, 1) := by decide +kernel
theorem dX6_solutionDivisor_0 : decode cX6_solutionDivisor 0 = .ok (.aload_n 0, 1) := by decide +kernel
theorem dX6_solutionDivisor_1 : decode cX6_solutionDivisor 1 = .ok (.getfield 25, 3) := by decide +kernel
theorem dX6_solutionDivisor_4 : decode cX6_solutionDivisor 4 = .ok (.getfield 172, 3) := by decide +kernel
theorem dX6_solutionDivisor_7 : decode cX6_solutionDivisor 7 = .ok (.lstore_n 2, 1) := by decide +kernel
theorem dX6_solutionDivisor_8 : decode cX6_solutionDivisor 8 = .ok (.iconst 0, 1) := by decide +kernel
theorem dX6_solutionDivisor_9 : decode cX6_solutionDivisor 9 = .ok (.istore 4, 2) := by decide +kernel
theorem dX6_solutionDivisor_11 : decode cX6_solutionDivisor 11 = .ok (.iload 4, 2) := by decide +kernel
theorem dX6_solutionDivisor_13 : decode cX6_solutionDivisor 13 = .ok (.aload_n 0, 1) := by decide +kernel
theorem dX6_solutionDivisor_14 : decode cX6_solutionDivisor 14 = .ok (.getfield 10, 3) := by decide +kernel
theorem dX6_solutionDivisor_17 : decode cX6_solutionDivisor 17 = .ok (.getfield 60, 3) := by decide +kernel
theorem dX6_solutionDivisor_20 : decode cX6_solutionDivisor 20 = .ok (.if_icmp .ge 44, 3) := by decide +kernel
theorem dX6_solutionDivisor_23 : decode cX6_solutionDivisor 23 = .ok (.iconst 0, 1) := by decide +kernel
theorem dX6_solutionDivisor_24 : decode cX6_solutionDivisor 24 = .ok (.istore 5, 2) := by decide +kernel
theorem dX6_solutionDivisor_26 : decode cX6_solutionDivisor 26 = .ok (.iload 5, 2) := by decide +kernel
theorem dX6_solutionDivisor_28 : decode cX6_solutionDivisor 28 = .ok (.aload_n 0, 1) := by decide +kernel
theorem dX6_solutionDivisor_29 : decode cX6_solutionDivisor 29 = .ok (.getfield 10, 3) := by decide +kernel
theorem dX6_solutionDivisor_32 : decode cX6_solutionDivisor 32 = .ok (.getfield 64, 3) := by decide +kernel
theorem dX6_solutionDivisor_35 : decode cX6_solutionDivisor 35 = .ok (.if_icmp .ge 23, 3) := by decide +kernel
theorem dX6_solutionDivisor_38 : decode cX6_solutionDivisor 38 = .ok (.aload_n 0, 1) := by decide +kernel
theorem dX6_solutionDivisor_39 : decode cX6_solutionDivisor 39 = .ok (.iload_n 1, 1) := by decide +kernel
theorem dX6_solutionDivisor_40 : decode cX6_solutionDivisor 40 = .ok (.iload 4, 2) := by decide +kernel
theorem dX6_solutionDivisor_42 : decode cX6_solutionDivisor 42 = .ok (.iload 5, 2) := by decide +kernel
theorem dX6_solutionDivisor_44 : decode cX6_solutionDivisor 44 = .ok (.invokevirtual 168, 3) := by decide +kernel
theorem dX6_solutionDivisor_47 : decode cX6_solutionDivisor 47 = .ok (.lload_n 2, 1) := by decide +kernel
theorem dX6_solutionDivisor_48 : decode cX6_solutionDivisor 48 = .ok (.invokestatic 326, 3) := by decide +kernel
theorem dX6_solutionDivisor_51 : decode cX6_solutionDivisor 51 = .ok (.lstore_n 2, 1) := by decide +kernel
theorem dX6_solutionDivisor_52 : decode cX6_solutionDivisor 52 = .ok (.iinc 5 1, 3) := by decide +kernel
theorem dX6_solutionDivisor_55 : decode cX6_solutionDivisor 55 = .ok (.goto (-29), 3) := by decide +kernel
theorem dX6_solutionDivisor_58 : decode cX6_solutionDivisor 58 = .ok (.iinc 4 1, 3) := by decide +kernel
theorem dX6_solutionDivisor_61 : decode cX6_solutionDivisor 61 = .ok (.goto (-50), 3) := by decide +kernel
theorem dX6_solutionDivisor_64 : decode cX6_solutionDivisor 64 = .ok (.lload_n 2, 1) := by decide +kernel
theorem dX6_solutionDivisor_65 : decode cX6_solutionDivisor 65 = .ok (.lreturn, 1) := by decide +kernel
theorem dX6_isLaidInInts_0 : decode cX6_isLaidInInts 0 = .ok (.lload_n 2, 1) := by decide +kernel
theorem dX6_isLaidInInts_1 : decode cX6_isLaidInInts 1 = .ok (.lconst 0, 1) := by decide +kernel
theorem dX6_isLaidInInts_2 : decode cX6_isLaidInInts 2 = .ok (.lcmp, 1) := by decide +kernel
theorem dX6_isLaidInInts_3 : decode cX6_isLaidInInts 3 = .ok (.ifCond .eq 18, 3) := by decide +kernel
theorem dX6_isLaidInInts_6 : decode cX6_isLaidInInts 6 = .ok (.aload_n 0, 1) := by decide +kernel
theorem dX6_isLaidInInts_7 : decode cX6_isLaidInInts 7 = .ok (.getfield 25, 3) := by decide +kernel
theorem dX6_isLaidInInts_10 : decode cX6_isLaidInInts 10 = .ok (.getfield 172, 3) := by decide +kernel
theorem dX6_isLaidInInts_13 : decode cX6_isLaidInInts 13 = .ok (.lload_n 2, 1) := by decide +kernel
theorem dX6_isLaidInInts_14 : decode cX6_isLaidInInts 14 = .ok (.ldiv, 1) := by decide +kernel
theorem dX6_isLaidInInts_15 : decode cX6_isLaidInInts 15 = .ok (.invokestatic 351, 3) := by decide +kernel
theorem dX6_isLaidInInts_18 : decode cX6_isLaidInInts 18 = .ok (.ifCond .ne 5, 3) := by decide +kernel
theorem dX6_isLaidInInts_21 : decode cX6_isLaidInInts 21 = .ok (.iconst 0, 1) := by decide +kernel
theorem dX6_isLaidInInts_22 : decode cX6_isLaidInInts 22 = .ok (.ireturn, 1) := by decide +kernel
theorem dX6_isLaidInInts_23 : decode cX6_isLaidInInts 23 = .ok (.iconst 0, 1) := by decide +kernel
theorem dX6_isLaidInInts_24 : decode cX6_isLaidInInts 24 = .ok (.istore 4, 2) := by decide +kernel
theorem dX6_isLaidInInts_26 : decode cX6_isLaidInInts 26 = .ok (.iload 4, 2) := by decide +kernel
theorem dX6_isLaidInInts_28 : decode cX6_isLaidInInts 28 = .ok (.aload_n 0, 1) := by decide +kernel
theorem dX6_isLaidInInts_29 : decode cX6_isLaidInInts 29 = .ok (.getfield 10, 3) := by decide +kernel
theorem dX6_isLaidInInts_32 : decode cX6_isLaidInInts 32 = .ok (.getfield 60, 3) := by decide +kernel
theorem dX6_isLaidInInts_35 : decode cX6_isLaidInInts 35 = .ok (.if_icmp .ge 49, 3) := by decide +kernel
theorem dX6_isLaidInInts_38 : decode cX6_isLaidInInts 38 = .ok (.iconst 0, 1) := by decide +kernel
theorem dX6_isLaidInInts_39 : decode cX6_isLaidInInts 39 = .ok (.istore 5, 2) := by decide +kernel
theorem dX6_isLaidInInts_41 : decode cX6_isLaidInInts 41 = .ok (.iload 5, 2) := by decide +kernel
theorem dX6_isLaidInInts_43 : decode cX6_isLaidInInts 43 = .ok (.aload_n 0, 1) := by decide +kernel
theorem dX6_isLaidInInts_44 : decode cX6_isLaidInInts 44 = .ok (.getfield 10, 3) := by decide +kernel
theorem dX6_isLaidInInts_47 : decode cX6_isLaidInInts 47 = .ok (.getfield 64, 3) := by decide +kernel
theorem dX6_isLaidInInts_50 : decode cX6_isLaidInInts 50 = .ok (.if_icmp .ge 28, 3) := by decide +kernel
theorem dX6_isLaidInInts_53 : decode cX6_isLaidInInts 53 = .ok (.aload_n 0, 1) := by decide +kernel
theorem dX6_isLaidInInts_54 : decode cX6_isLaidInInts 54 = .ok (.iload_n 1, 1) := by decide +kernel
theorem dX6_isLaidInInts_55 : decode cX6_isLaidInInts 55 = .ok (.iload 4, 2) := by decide +kernel
theorem dX6_isLaidInInts_57 : decode cX6_isLaidInInts 57 = .ok (.iload 5, 2) := by decide +kernel
theorem dX6_isLaidInInts_59 : decode cX6_isLaidInInts 59 = .ok (.invokevirtual 168, 3) := by decide +kernel
theorem dX6_isLaidInInts_62 : decode cX6_isLaidInInts 62 = .ok (.lload_n 2, 1) := by decide +kernel
theorem dX6_isLaidInInts_63 : decode cX6_isLaidInInts 63 = .ok (.ldiv, 1) := by decide +kernel
theorem dX6_isLaidInInts_64 : decode cX6_isLaidInInts 64 = .ok (.invokestatic 351, 3) := by decide +kernel
theorem dX6_isLaidInInts_67 : decode cX6_isLaidInInts 67 = .ok (.ifCond .ne 5, 3) := by decide +kernel
theorem dX6_isLaidInInts_70 : decode cX6_isLaidInInts 70 = .ok (.iconst 0, 1) := by decide +kernel
theorem dX6_isLaidInInts_71 : decode cX6_isLaidInInts 71 = .ok (.ireturn, 1) := by decide +kernel
theorem dX6_isLaidInInts_72 : decode cX6_isLaidInInts 72 = .ok (.iinc 5 1, 3) := by decide +kernel
theorem dX6_isLaidInInts_75 : decode cX6_isLaidInInts 75 = .ok (.goto (-34), 3) := by decide +kernel
theorem dX6_isLaidInInts_78 : decode cX6_isLaidInInts 78 = .ok (.iinc 4 1, 3) := by decide +kernel
theorem dX6_isLaidInInts_81 : decode cX6_isLaidInInts 81 = .ok (.goto (-55), 3) := by decide +kernel
theorem dX6_isLaidInInts_84 : decode cX6_isLaidInInts 84 = .ok (.iconst 1, 1) := by decide +kernel
theorem dX6_isLaidInInts_85 : decode cX6_isLaidInInts 85 = .ok (.ireturn, 1) := by decide +kernel
theorem dX6_isInt_0 : decode cX6_isInt 0 = .ok (.lload_n 0, 1) := by decide +kernel
theorem dX6_isInt_1 : decode cX6_isInt 1 = .ok (.lload_n 0, 1) := by decide +kernel
theorem dX6_isInt_2 : decode cX6_isInt 2 = .ok (.l2i, 1) := by decide +kernel
theorem dX6_isInt_3 : decode cX6_isInt 3 = .ok (.i2l, 1) := by decide +kernel
theorem dX6_isInt_4 : decode cX6_isInt 4 = .ok (.lcmp, 1) := by decide +kernel
theorem dX6_isInt_5 : decode cX6_isInt 5 = .ok (.ifCond .ne 7, 3) := by decide +kernel
theorem dX6_isInt_8 : decode cX6_isInt 8 = .ok (.iconst 1, 1) := by decide +kernel
theorem dX6_isInt_9 : decode cX6_isInt 9 = .ok (.goto 4, 3) := by decide +kernel
theorem dX6_isInt_12 : decode cX6_isInt 12 = .ok (.iconst 0, 1) := by decide +kernel
theorem dX6_isInt_13 : decode cX6_isInt 13 = .ok (.ireturn, 1) := by decide +kernel
theorem dX6_unreadable_0 : decode cX6_unreadable 0 = .ok (.aload_n 1, 1) := by decide +kernel
theorem dX6_unreadable_1 : decode cX6_unreadable 1 = .ok (.getfield 252, 3) := by decide +kernel
theorem dX6_unreadable_4 : decode cX6_unreadable 4 = .ok (.iconst (-1), 1) := by decide +kernel
theorem dX6_unreadable_5 : decode cX6_unreadable 5 = .ok (.if_icmp .ne 6, 3) := by decide +kernel
theorem dX6_unreadable_8 : decode cX6_unreadable 8 = .ok (.bipush (-11), 2) := by decide +kernel
theorem dX6_unreadable_10 : decode cX6_unreadable 10 = .ok (.ireturn, 1) := by decide +kernel
theorem dX6_unreadable_11 : decode cX6_unreadable 11 = .ok (.aload_n 1, 1) := by decide +kernel
theorem dX6_unreadable_12 : decode cX6_unreadable 12 = .ok (.getfield 252, 3) := by decide +kernel
theorem dX6_unreadable_15 : decode cX6_unreadable 15 = .ok (.iconst 2, 1) := by decide +kernel
theorem dX6_unreadable_16 : decode cX6_unreadable 16 = .ok (.if_icmp .eq 6, 3) := by decide +kernel
theorem dX6_unreadable_19 : decode cX6_unreadable 19 = .ok (.bipush (-13), 2) := by decide +kernel
theorem dX6_unreadable_21 : decode cX6_unreadable 21 = .ok (.ireturn, 1) := by decide +kernel
theorem dX6_unreadable_22 : decode cX6_unreadable 22 = .ok (.aload_n 1, 1) := by decide +kernel
theorem dX6_unreadable_23 : decode cX6_unreadable 23 = .ok (.getfield 255, 3) := by decide +kernel
theorem dX6_unreadable_26 : decode cX6_unreadable 26 = .ok (.aload_n 0, 1) := by decide +kernel
theorem dX6_unreadable_27 : decode cX6_unreadable 27 = .ok (.getfield 10, 3) := by decide +kernel
theorem dX6_unreadable_30 : decode cX6_unreadable 30 = .ok (.getfield 60, 3) := by decide +kernel
theorem dX6_unreadable_33 : decode cX6_unreadable 33 = .ok (.aload_n 0, 1) := by decide +kernel
theorem dX6_unreadable_34 : decode cX6_unreadable 34 = .ok (.getfield 10, 3) := by decide +kernel
theorem dX6_unreadable_37 : decode cX6_unreadable 37 = .ok (.getfield 64, 3) := by decide +kernel
theorem dX6_unreadable_40 : decode cX6_unreadable 40 = .ok (.imul, 1) := by decide +kernel
theorem dX6_unreadable_41 : decode cX6_unreadable 41 = .ok (.if_icmp .ne 7, 3) := by decide +kernel
theorem dX6_unreadable_44 : decode cX6_unreadable 44 = .ok (.iconst 0, 1) := by decide +kernel
theorem dX6_unreadable_45 : decode cX6_unreadable 45 = .ok (.goto 5, 3) := by decide +kernel
theorem dX6_unreadable_48 : decode cX6_unreadable 48 = .ok (.bipush (-12), 2) := by decide +kernel
theorem dX6_unreadable_50 : decode cX6_unreadable 50 = .ok (.ireturn, 1) := by decide +kernel
theorem dX6_firstWrong_0 : decode cX6_firstWrong 0 = .ok (.iconst 0, 1) := by decide +kernel
theorem dX6_firstWrong_1 : decode cX6_firstWrong 1 = .ok (.istore 5, 2) := by decide +kernel
theorem dX6_firstWrong_3 : decode cX6_firstWrong 3 = .ok (.iload 5, 2) := by decide +kernel
theorem dX6_firstWrong_5 : decode cX6_firstWrong 5 = .ok (.aload_n 0, 1) := by decide +kernel
theorem dX6_firstWrong_6 : decode cX6_firstWrong 6 = .ok (.getfield 10, 3) := by decide +kernel
theorem dX6_firstWrong_9 : decode cX6_firstWrong 9 = .ok (.getfield 60, 3) := by decide +kernel
theorem dX6_firstWrong_12 : decode cX6_firstWrong 12 = .ok (.if_icmp .ge 76, 3) := by decide +kernel
theorem dX6_firstWrong_15 : decode cX6_firstWrong 15 = .ok (.iconst 0, 1) := by decide +kernel
theorem dX6_firstWrong_16 : decode cX6_firstWrong 16 = .ok (.istore 6, 2) := by decide +kernel
theorem dX6_firstWrong_18 : decode cX6_firstWrong 18 = .ok (.iload 6, 2) := by decide +kernel
theorem dX6_firstWrong_20 : decode cX6_firstWrong 20 = .ok (.aload_n 0, 1) := by decide +kernel
theorem dX6_firstWrong_21 : decode cX6_firstWrong 21 = .ok (.getfield 10, 3) := by decide +kernel
theorem dX6_firstWrong_24 : decode cX6_firstWrong 24 = .ok (.getfield 64, 3) := by decide +kernel
theorem dX6_firstWrong_27 : decode cX6_firstWrong 27 = .ok (.if_icmp .ge 55, 3) := by decide +kernel
theorem dX6_firstWrong_30 : decode cX6_firstWrong 30 = .ok (.aload_n 0, 1) := by decide +kernel
theorem dX6_firstWrong_31 : decode cX6_firstWrong 31 = .ok (.iload_n 1, 1) := by decide +kernel
theorem dX6_firstWrong_32 : decode cX6_firstWrong 32 = .ok (.iload_n 2, 1) := by decide +kernel
theorem dX6_firstWrong_33 : decode cX6_firstWrong 33 = .ok (.aload_n 3, 1) := by decide +kernel
theorem dX6_firstWrong_34 : decode cX6_firstWrong 34 = .ok (.iload 5, 2) := by decide +kernel
theorem dX6_firstWrong_36 : decode cX6_firstWrong 36 = .ok (.iload 6, 2) := by decide +kernel
theorem dX6_firstWrong_38 : decode cX6_firstWrong 38 = .ok (.invokevirtual 355, 3) := by decide +kernel
theorem dX6_firstWrong_41 : decode cX6_firstWrong 41 = .ok (.iload 4, 2) := by decide +kernel
theorem dX6_firstWrong_43 : decode cX6_firstWrong 43 = .ok (.i2l, 1) := by decide +kernel
theorem dX6_firstWrong_44 : decode cX6_firstWrong 44 = .ok (.aload_n 0, 1) := by decide +kernel
theorem dX6_firstWrong_45 : decode cX6_firstWrong 45 = .ok (.getfield 10, 3) := by decide +kernel
theorem dX6_firstWrong_48 : decode cX6_firstWrong 48 = .ok (.iconst 2, 1) := by decide +kernel
theorem dX6_firstWrong_49 : decode cX6_firstWrong 49 = .ok (.iload 5, 2) := by decide +kernel
theorem dX6_firstWrong_51 : decode cX6_firstWrong 51 = .ok (.iload 6, 2) := by decide +kernel
theorem dX6_firstWrong_53 : decode cX6_firstWrong 53 = .ok (.invokevirtual 79, 3) := by decide +kernel
theorem dX6_firstWrong_56 : decode cX6_firstWrong 56 = .ok (.i2l, 1) := by decide +kernel
theorem dX6_firstWrong_57 : decode cX6_firstWrong 57 = .ok (.lmul, 1) := by decide +kernel
theorem dX6_firstWrong_58 : decode cX6_firstWrong 58 = .ok (.lcmp, 1) := by decide +kernel
theorem dX6_firstWrong_59 : decode cX6_firstWrong 59 = .ok (.ifCond .eq 17, 3) := by decide +kernel
theorem dX6_firstWrong_62 : decode cX6_firstWrong 62 = .ok (.iload 5, 2) := by decide +kernel
theorem dX6_firstWrong_64 : decode cX6_firstWrong 64 = .ok (.aload_n 0, 1) := by decide +kernel
theorem dX6_firstWrong_65 : decode cX6_firstWrong 65 = .ok (.getfield 10, 3) := by decide +kernel
theorem dX6_firstWrong_68 : decode cX6_firstWrong 68 = .ok (.getfield 64, 3) := by decide +kernel
theorem dX6_firstWrong_71 : decode cX6_firstWrong 71 = .ok (.imul, 1) := by decide +kernel
theorem dX6_firstWrong_72 : decode cX6_firstWrong 72 = .ok (.iload 6, 2) := by decide +kernel
theorem dX6_firstWrong_74 : decode cX6_firstWrong 74 = .ok (.iadd, 1) := by decide +kernel
theorem dX6_firstWrong_75 : decode cX6_firstWrong 75 = .ok (.ireturn, 1) := by decide +kernel
theorem dX6_firstWrong_76 : decode cX6_firstWrong 76 = .ok (.iinc 6 1, 3) := by decide +kernel
theorem dX6_firstWrong_79 : decode cX6_firstWrong 79 = .ok (.goto (-61), 3) := by decide +kernel
theorem dX6_firstWrong_82 : decode cX6_firstWrong 82 = .ok (.iinc 5 1, 3) := by decide +kernel
theorem dX6_firstWrong_85 : decode cX6_firstWrong 85 = .ok (.goto (-82), 3) := by decide +kernel
theorem dX6_firstWrong_88 : decode cX6_firstWrong 88 = .ok (.aload_n 0, 1) := by decide +kernel
theorem dX6_firstWrong_89 : decode cX6_firstWrong 89 = .ok (.getfield 10, 3) := by decide +kernel
theorem dX6_firstWrong_92 : decode cX6_firstWrong 92 = .ok (.getfield 60, 3) := by decide +kernel
theorem dX6_firstWrong_95 : decode cX6_firstWrong 95 = .ok (.aload_n 0, 1) := by decide +kernel
theorem dX6_firstWrong_96 : decode cX6_firstWrong 96 = .ok (.getfield 10, 3) := by decide +kernel
theorem dX6_firstWrong_99 : decode cX6_firstWrong 99 = .ok (.getfield 64, 3) := by decide +kernel
theorem dX6_firstWrong_102 : decode cX6_firstWrong 102 = .ok (.imul, 1) := by decide +kernel
theorem dX6_firstWrong_103 : decode cX6_firstWrong 103 = .ok (.ireturn, 1) := by decide +kernel
theorem dX6_sumAt_0 : decode cX6_sumAt 0 = .ok (.lconst 0, 1) := by decide +kernel
theorem dX6_sumAt_1 : decode cX6_sumAt 1 = .ok (.lstore 6, 2) := by decide +kernel
theorem dX6_sumAt_3 : decode cX6_sumAt 3 = .ok (.iconst 0, 1) := by decide +kernel
theorem dX6_sumAt_4 : decode cX6_sumAt 4 = .ok (.istore 8, 2) := by decide +kernel
theorem dX6_sumAt_6 : decode cX6_sumAt 6 = .ok (.iload 8, 2) := by decide +kernel
theorem dX6_sumAt_8 : decode cX6_sumAt 8 = .ok (.aload_n 0, 1) := by decide +kernel
theorem dX6_sumAt_9 : decode cX6_sumAt 9 = .ok (.getfield 10, 3) := by decide +kernel
theorem dX6_sumAt_12 : decode cX6_sumAt 12 = .ok (.getfield 60, 3) := by decide +kernel
theorem dX6_sumAt_15 : decode cX6_sumAt 15 = .ok (.if_icmp .ge 45, 3) := by decide +kernel
theorem dX6_sumAt_18 : decode cX6_sumAt 18 = .ok (.lload 6, 2) := by decide +kernel
theorem dX6_sumAt_20 : decode cX6_sumAt 20 = .ok (.aload_n 0, 1) := by decide +kernel
theorem dX6_sumAt_21 : decode cX6_sumAt 21 = .ok (.getfield 10, 3) := by decide +kernel
theorem dX6_sumAt_24 : decode cX6_sumAt 24 = .ok (.iload_n 2, 1) := by decide +kernel
theorem dX6_sumAt_25 : decode cX6_sumAt 25 = .ok (.iload 4, 2) := by decide +kernel
theorem dX6_sumAt_27 : decode cX6_sumAt 27 = .ok (.iload 8, 2) := by decide +kernel
theorem dX6_sumAt_29 : decode cX6_sumAt 29 = .ok (.invokevirtual 348, 3) := by decide +kernel
theorem dX6_sumAt_32 : decode cX6_sumAt 32 = .ok (.i2l, 1) := by decide +kernel
theorem dX6_sumAt_33 : decode cX6_sumAt 33 = .ok (.aload_n 3, 1) := by decide +kernel
theorem dX6_sumAt_34 : decode cX6_sumAt 34 = .ok (.iload 8, 2) := by decide +kernel
theorem dX6_sumAt_36 : decode cX6_sumAt 36 = .ok (.aload_n 0, 1) := by decide +kernel
theorem dX6_sumAt_37 : decode cX6_sumAt 37 = .ok (.getfield 10, 3) := by decide +kernel
theorem dX6_sumAt_40 : decode cX6_sumAt 40 = .ok (.getfield 64, 3) := by decide +kernel
theorem dX6_sumAt_43 : decode cX6_sumAt 43 = .ok (.imul, 1) := by decide +kernel
theorem dX6_sumAt_44 : decode cX6_sumAt 44 = .ok (.iload 5, 2) := by decide +kernel
theorem dX6_sumAt_46 : decode cX6_sumAt 46 = .ok (.iadd, 1) := by decide +kernel
theorem dX6_sumAt_47 : decode cX6_sumAt 47 = .ok (.invokevirtual 258, 3) := by decide +kernel
theorem dX6_sumAt_50 : decode cX6_sumAt 50 = .ok (.lmul, 1) := by decide +kernel
theorem dX6_sumAt_51 : decode cX6_sumAt 51 = .ok (.ladd, 1) := by decide +kernel
theorem dX6_sumAt_52 : decode cX6_sumAt 52 = .ok (.lstore 6, 2) := by decide +kernel
theorem dX6_sumAt_54 : decode cX6_sumAt 54 = .ok (.iinc 8 1, 3) := by decide +kernel
theorem dX6_sumAt_57 : decode cX6_sumAt 57 = .ok (.goto (-51), 3) := by decide +kernel
theorem dX6_sumAt_60 : decode cX6_sumAt 60 = .ok (.iconst 0, 1) := by decide +kernel
theorem dX6_sumAt_61 : decode cX6_sumAt 61 = .ok (.istore 8, 2) := by decide +kernel
theorem dX6_sumAt_63 : decode cX6_sumAt 63 = .ok (.iload 8, 2) := by decide +kernel
theorem dX6_sumAt_65 : decode cX6_sumAt 65 = .ok (.aload_n 0, 1) := by decide +kernel
theorem dX6_sumAt_66 : decode cX6_sumAt 66 = .ok (.getfield 10, 3) := by decide +kernel
theorem dX6_sumAt_69 : decode cX6_sumAt 69 = .ok (.getfield 64, 3) := by decide +kernel
theorem dX6_sumAt_72 : decode cX6_sumAt 72 = .ok (.if_icmp .ge 45, 3) := by decide +kernel
theorem dX6_sumAt_75 : decode cX6_sumAt 75 = .ok (.lload 6, 2) := by decide +kernel
theorem dX6_sumAt_77 : decode cX6_sumAt 77 = .ok (.aload_n 3, 1) := by decide +kernel
theorem dX6_sumAt_78 : decode cX6_sumAt 78 = .ok (.iload 4, 2) := by decide +kernel
theorem dX6_sumAt_80 : decode cX6_sumAt 80 = .ok (.aload_n 0, 1) := by decide +kernel
theorem dX6_sumAt_81 : decode cX6_sumAt 81 = .ok (.getfield 10, 3) := by decide +kernel
theorem dX6_sumAt_84 : decode cX6_sumAt 84 = .ok (.getfield 64, 3) := by decide +kernel
theorem dX6_sumAt_87 : decode cX6_sumAt 87 = .ok (.imul, 1) := by decide +kernel
theorem dX6_sumAt_88 : decode cX6_sumAt 88 = .ok (.iload 8, 2) := by decide +kernel
theorem dX6_sumAt_90 : decode cX6_sumAt 90 = .ok (.iadd, 1) := by decide +kernel
theorem dX6_sumAt_91 : decode cX6_sumAt 91 = .ok (.invokevirtual 258, 3) := by decide +kernel
theorem dX6_sumAt_94 : decode cX6_sumAt 94 = .ok (.aload_n 0, 1) := by decide +kernel
theorem dX6_sumAt_95 : decode cX6_sumAt 95 = .ok (.getfield 10, 3) := by decide +kernel
theorem dX6_sumAt_98 : decode cX6_sumAt 98 = .ok (.iload_n 1, 1) := by decide +kernel
theorem dX6_sumAt_99 : decode cX6_sumAt 99 = .ok (.iload 8, 2) := by decide +kernel
theorem dX6_sumAt_101 : decode cX6_sumAt 101 = .ok (.iload 5, 2) := by decide +kernel
theorem dX6_sumAt_103 : decode cX6_sumAt 103 = .ok (.invokevirtual 162, 3) := by decide +kernel
theorem dX6_sumAt_106 : decode cX6_sumAt 106 = .ok (.i2l, 1) := by decide +kernel
theorem dX6_sumAt_107 : decode cX6_sumAt 107 = .ok (.lmul, 1) := by decide +kernel
theorem dX6_sumAt_108 : decode cX6_sumAt 108 = .ok (.ladd, 1) := by decide +kernel
theorem dX6_sumAt_109 : decode cX6_sumAt 109 = .ok (.lstore 6, 2) := by decide +kernel
theorem dX6_sumAt_111 : decode cX6_sumAt 111 = .ok (.iinc 8 1, 3) := by decide +kernel
theorem dX6_sumAt_114 : decode cX6_sumAt 114 = .ok (.goto (-51), 3) := by decide +kernel
theorem dX6_sumAt_117 : decode cX6_sumAt 117 = .ok (.lload 6, 2) := by decide +kernel
theorem dX6_sumAt_119 : decode cX6_sumAt 119 = .ok (.lreturn, 1) := by decide +kernel
theorem dX6_isOfShape_0 : decode cX6_isOfShape 0 = .ok (.iload_n 1, 1) := by decide +kernel
theorem dX6_isOfShape_1 : decode cX6_isOfShape 1 = .ok (.iconst 4, 1) := by decide +kernel
theorem dX6_isOfShape_2 : decode cX6_isOfShape 2 = .ok (.if_icmp .eq 16, 3) := by decide +kernel
theorem dX6_isOfShape_5 : decode cX6_isOfShape 5 = .ok (.iload_n 1, 1) := by decide +kernel
theorem dX6_isOfShape_6 : decode cX6_isOfShape 6 = .ok (.iconst 5, 1) := by decide +kernel
theorem dX6_isOfShape_7 : decode cX6_isOfShape 7 = .ok (.if_icmp .eq 11, 3) := by decide +kernel
theorem dX6_isOfShape_10 : decode cX6_isOfShape 10 = .ok (.iload_n 1, 1) := by decide +kernel
theorem dX6_isOfShape_11 : decode cX6_isOfShape 11 = .ok (.bipush 6, 2) := by decide +kernel
theorem dX6_isOfShape_13 : decode cX6_isOfShape 13 = .ok (.if_icmp .eq 5, 3) := by decide +kernel
theorem dX6_isOfShape_16 : decode cX6_isOfShape 16 = .ok (.iconst 1, 1) := by decide +kernel
theorem dX6_isOfShape_17 : decode cX6_isOfShape 17 = .ok (.ireturn, 1) := by decide +kernel
theorem dX6_isOfShape_18 : decode cX6_isOfShape 18 = .ok (.iconst 0, 1) := by decide +kernel
theorem dX6_isOfShape_19 : decode cX6_isOfShape 19 = .ok (.istore_n 3, 1) := by decide +kernel
theorem dX6_isOfShape_20 : decode cX6_isOfShape 20 = .ok (.iload_n 3, 1) := by decide +kernel
theorem dX6_isOfShape_21 : decode cX6_isOfShape 21 = .ok (.aload_n 0, 1) := by decide +kernel
theorem dX6_isOfShape_22 : decode cX6_isOfShape 22 = .ok (.getfield 10, 3) := by decide +kernel
theorem dX6_isOfShape_25 : decode cX6_isOfShape 25 = .ok (.getfield 60, 3) := by decide +kernel
theorem dX6_isOfShape_28 : decode cX6_isOfShape 28 = .ok (.if_icmp .ge 136, 3) := by decide +kernel
theorem dX6_isOfShape_31 : decode cX6_isOfShape 31 = .ok (.iconst 0, 1) := by decide +kernel
theorem dX6_isOfShape_32 : decode cX6_isOfShape 32 = .ok (.istore 4, 2) := by decide +kernel
theorem dX6_isOfShape_34 : decode cX6_isOfShape 34 = .ok (.iload 4, 2) := by decide +kernel
theorem dX6_isOfShape_36 : decode cX6_isOfShape 36 = .ok (.aload_n 0, 1) := by decide +kernel
theorem dX6_isOfShape_37 : decode cX6_isOfShape 37 = .ok (.getfield 10, 3) := by decide +kernel
theorem dX6_isOfShape_40 : decode cX6_isOfShape 40 = .ok (.getfield 64, 3) := by decide +kernel
theorem dX6_isOfShape_43 : decode cX6_isOfShape 43 = .ok (.if_icmp .ge 115, 3) := by decide +kernel
theorem dX6_isOfShape_46 : decode cX6_isOfShape 46 = .ok (.aload_n 2, 1) := by decide +kernel
theorem dX6_isOfShape_47 : decode cX6_isOfShape 47 = .ok (.iload_n 3, 1) := by decide +kernel
theorem dX6_isOfShape_48 : decode cX6_isOfShape 48 = .ok (.aload_n 0, 1) := by decide +kernel
theorem dX6_isOfShape_49 : decode cX6_isOfShape 49 = .ok (.getfield 10, 3) := by decide +kernel
theorem dX6_isOfShape_52 : decode cX6_isOfShape 52 = .ok (.getfield 64, 3) := by decide +kernel
theorem dX6_isOfShape_55 : decode cX6_isOfShape 55 = .ok (.imul, 1) := by decide +kernel
theorem dX6_isOfShape_56 : decode cX6_isOfShape 56 = .ok (.iload 4, 2) := by decide +kernel
theorem dX6_isOfShape_58 : decode cX6_isOfShape 58 = .ok (.iadd, 1) := by decide +kernel
theorem dX6_isOfShape_59 : decode cX6_isOfShape 59 = .ok (.invokevirtual 258, 3) := by decide +kernel
theorem dX6_isOfShape_62 : decode cX6_isOfShape 62 = .ok (.lstore 5, 2) := by decide +kernel
theorem dX6_isOfShape_64 : decode cX6_isOfShape 64 = .ok (.aload_n 2, 1) := by decide +kernel
theorem dX6_isOfShape_65 : decode cX6_isOfShape 65 = .ok (.iload 4, 2) := by decide +kernel
theorem dX6_isOfShape_67 : decode cX6_isOfShape 67 = .ok (.aload_n 0, 1) := by decide +kernel
theorem dX6_isOfShape_68 : decode cX6_isOfShape 68 = .ok (.getfield 10, 3) := by decide +kernel
theorem dX6_isOfShape_71 : decode cX6_isOfShape 71 = .ok (.getfield 64, 3) := by decide +kernel
theorem dX6_isOfShape_74 : decode cX6_isOfShape 74 = .ok (.imul, 1) := by decide +kernel
theorem dX6_isOfShape_75 : decode cX6_isOfShape 75 = .ok (.iload_n 3, 1) := by decide +kernel
theorem dX6_isOfShape_76 : decode cX6_isOfShape 76 = .ok (.iadd, 1) := by decide +kernel
theorem dX6_isOfShape_77 : decode cX6_isOfShape 77 = .ok (.invokevirtual 258, 3) := by decide +kernel
theorem dX6_isOfShape_80 : decode cX6_isOfShape 80 = .ok (.lstore 7, 2) := by decide +kernel
theorem dX6_isOfShape_82 : decode cX6_isOfShape 82 = .ok (.iload_n 1, 1) := by decide +kernel
theorem dX6_isOfShape_83 : decode cX6_isOfShape 83 = .ok (.iconst 4, 1) := by decide +kernel
theorem dX6_isOfShape_84 : decode cX6_isOfShape 84 = .ok (.if_icmp .ne 24, 3) := by decide +kernel
theorem dX6_isOfShape_87 : decode cX6_isOfShape 87 = .ok (.iload_n 3, 1) := by decide +kernel
theorem dX6_isOfShape_88 : decode cX6_isOfShape 88 = .ok (.iload 4, 2) := by decide +kernel
theorem dX6_isOfShape_90 : decode cX6_isOfShape 90 = .ok (.if_icmp .eq 10, 3) := by decide +kernel
theorem dX6_isOfShape_93 : decode cX6_isOfShape 93 = .ok (.lload 5, 2) := by decide +kernel
theorem dX6_isOfShape_95 : decode cX6_isOfShape 95 = .ok (.lconst 0, 1) := by decide +kernel
theorem dX6_isOfShape_96 : decode cX6_isOfShape 96 = .ok (.lcmp, 1) := by decide +kernel
theorem dX6_isOfShape_97 : decode cX6_isOfShape 97 = .ok (.ifCond .ne 7, 3) := by decide +kernel
theorem dX6_isOfShape_100 : decode cX6_isOfShape 100 = .ok (.iconst 1, 1) := by decide +kernel
theorem dX6_isOfShape_101 : decode cX6_isOfShape 101 = .ok (.goto 42, 3) := by decide +kernel
theorem dX6_isOfShape_104 : decode cX6_isOfShape 104 = .ok (.iconst 0, 1) := by decide +kernel
theorem dX6_isOfShape_105 : decode cX6_isOfShape 105 = .ok (.goto 38, 3) := by decide +kernel
theorem dX6_isOfShape_108 : decode cX6_isOfShape 108 = .ok (.iload_n 1, 1) := by decide +kernel
theorem dX6_isOfShape_109 : decode cX6_isOfShape 109 = .ok (.iconst 5, 1) := by decide +kernel
theorem dX6_isOfShape_110 : decode cX6_isOfShape 110 = .ok (.if_icmp .ne 19, 3) := by decide +kernel
theorem dX6_isOfShape_113 : decode cX6_isOfShape 113 = .ok (.lload 5, 2) := by decide +kernel
theorem dX6_isOfShape_115 : decode cX6_isOfShape 115 = .ok (.lload 7, 2) := by decide +kernel
theorem dX6_isOfShape_117 : decode cX6_isOfShape 117 = .ok (.lcmp, 1) := by decide +kernel
theorem dX6_isOfShape_118 : decode cX6_isOfShape 118 = .ok (.ifCond .ne 7, 3) := by decide +kernel
theorem dX6_isOfShape_121 : decode cX6_isOfShape 121 = .ok (.iconst 1, 1) := by decide +kernel
theorem dX6_isOfShape_122 : decode cX6_isOfShape 122 = .ok (.goto 21, 3) := by decide +kernel
theorem dX6_isOfShape_125 : decode cX6_isOfShape 125 = .ok (.iconst 0, 1) := by decide +kernel
theorem dX6_isOfShape_126 : decode cX6_isOfShape 126 = .ok (.goto 17, 3) := by decide +kernel
theorem dX6_isOfShape_129 : decode cX6_isOfShape 129 = .ok (.lload 5, 2) := by decide +kernel
theorem dX6_isOfShape_131 : decode cX6_isOfShape 131 = .ok (.lload 7, 2) := by decide +kernel
theorem dX6_isOfShape_133 : decode cX6_isOfShape 133 = .ok (.lneg, 1) := by decide +kernel
theorem dX6_isOfShape_134 : decode cX6_isOfShape 134 = .ok (.lcmp, 1) := by decide +kernel
theorem dX6_isOfShape_135 : decode cX6_isOfShape 135 = .ok (.ifCond .ne 7, 3) := by decide +kernel
theorem dX6_isOfShape_138 : decode cX6_isOfShape 138 = .ok (.iconst 1, 1) := by decide +kernel
theorem dX6_isOfShape_139 : decode cX6_isOfShape 139 = .ok (.goto 4, 3) := by decide +kernel
theorem dX6_isOfShape_142 : decode cX6_isOfShape 142 = .ok (.iconst 0, 1) := by decide +kernel
theorem dX6_isOfShape_143 : decode cX6_isOfShape 143 = .ok (.istore 9, 2) := by decide +kernel
theorem dX6_isOfShape_145 : decode cX6_isOfShape 145 = .ok (.iload 9, 2) := by decide +kernel
theorem dX6_isOfShape_147 : decode cX6_isOfShape 147 = .ok (.ifCond .ne 5, 3) := by decide +kernel
theorem dX6_isOfShape_150 : decode cX6_isOfShape 150 = .ok (.iconst 0, 1) := by decide +kernel
theorem dX6_isOfShape_151 : decode cX6_isOfShape 151 = .ok (.ireturn, 1) := by decide +kernel
theorem dX6_isOfShape_152 : decode cX6_isOfShape 152 = .ok (.iinc 4 1, 3) := by decide +kernel
theorem dX6_isOfShape_155 : decode cX6_isOfShape 155 = .ok (.goto (-121), 3) := by decide +kernel
theorem dX6_isOfShape_158 : decode cX6_isOfShape 158 = .ok (.iinc 3 1, 3) := by decide +kernel
theorem dX6_isOfShape_161 : decode cX6_isOfShape 161 = .ok (.goto (-141), 3) := by decide +kernel
theorem dX6_isOfShape_164 : decode cX6_isOfShape 164 = .ok (.iconst 1, 1) := by decide +kernel
theorem dX6_isOfShape_165 : decode cX6_isOfShape 165 = .ok (.ireturn, 1) := by decide +kernel
