theorem dX0_init_0 : decode cX0_init 0 = .ok (.aload_n 0, 1) := by decide +kernel
theorem dX0_init_1 : decode cX0_init 1 = .ok (.invokespecial 3, 3) := by decide +kernel
theorem dX0_init_4 : decode cX0_init 4 = .ok (.aload_n 0, 1) := by decide +kernel
theorem dX0_init_5 : decode cX0_init 5 = .ok (.bipush 30, 2) := by decide +kernel
theorem dX0_init_7 : decode cX0_init 7 = .ok (.newarray .int, 2) := by decide +kernel
theorem dX0_init_9 : decode cX0_init 9 = .ok (.putfield 9, 3) := by decide +kernel
theorem dX0_init_12 : decode cX0_init 12 = .ok (.return_, 1) := by decide +kernel
theorem dX0_forget_0 : decode cX0_forget 0 = .ok (.aload_n 0, 1) := by decide +kernel
theorem dX0_forget_1 : decode cX0_forget 1 = .ok (.iconst 0, 1) := by decide +kernel
theorem dX0_forget_2 : decode cX0_forget 2 = .ok (.putfield 15, 3) := by decide +kernel
theorem dX0_forget_5 : decode cX0_forget 5 = .ok (.aload_n 0, 1) := by decide +kernel
theorem dX0_forget_6 : decode cX0_forget 6 = .ok (.iconst 0, 1) := by decide +kernel
theorem dX0_forget_7 : decode cX0_forget 7 = .ok (.putfield 19, 3) := by decide +kernel
theorem dX0_forget_10 : decode cX0_forget 10 = .ok (.return_, 1) := by decide +kernel
theorem dX0_run_0 : decode cX0_run 0 = .ok (.iload_n 1, 1) := by decide +kernel
theorem dX0_run_1 : decode cX0_run 1 = .ok (.tableswitch 66 0 2 #[27, 40, 53], 27) := by decide +kernel
theorem dX0_run_28 : decode cX0_run 28 = .ok (.aload_n 0, 1) := by decide +kernel
theorem dX0_run_29 : decode cX0_run 29 = .ok (.aload_n 0, 1) := by decide +kernel
theorem dX0_run_30 : decode cX0_run 30 = .ok (.getfield 23, 3) := by decide +kernel
theorem dX0_run_33 : decode cX0_run 33 = .ok (.iload_n 2, 1) := by decide +kernel
theorem dX0_run_34 : decode cX0_run 34 = .ok (.invokevirtual 26, 3) := by decide +kernel
theorem dX0_run_37 : decode cX0_run 37 = .ok (.istore_n 3, 1) := by decide +kernel
theorem dX0_run_38 : decode cX0_run 38 = .ok (.goto 39, 3) := by decide +kernel
theorem dX0_run_41 : decode cX0_run 41 = .ok (.aload_n 0, 1) := by decide +kernel
theorem dX0_run_42 : decode cX0_run 42 = .ok (.aload_n 0, 1) := by decide +kernel
theorem dX0_run_43 : decode cX0_run 43 = .ok (.getfield 23, 3) := by decide +kernel
theorem dX0_run_46 : decode cX0_run 46 = .ok (.iload_n 2, 1) := by decide +kernel
theorem dX0_run_47 : decode cX0_run 47 = .ok (.invokevirtual 30, 3) := by decide +kernel
theorem dX0_run_50 : decode cX0_run 50 = .ok (.istore_n 3, 1) := by decide +kernel
theorem dX0_run_51 : decode cX0_run 51 = .ok (.goto 26, 3) := by decide +kernel
theorem dX0_run_54 : decode cX0_run 54 = .ok (.aload_n 0, 1) := by decide +kernel
theorem dX0_run_55 : decode cX0_run 55 = .ok (.aload_n 0, 1) := by decide +kernel
theorem dX0_run_56 : decode cX0_run 56 = .ok (.getfield 23, 3) := by decide +kernel
theorem dX0_run_59 : decode cX0_run 59 = .ok (.iload_n 2, 1) := by decide +kernel
theorem dX0_run_60 : decode cX0_run 60 = .ok (.invokevirtual 33, 3) := by decide +kernel
theorem dX0_run_63 : decode cX0_run 63 = .ok (.istore_n 3, 1) := by decide +kernel
theorem dX0_run_64 : decode cX0_run 64 = .ok (.goto 13, 3) := by decide +kernel
theorem dX0_run_67 : decode cX0_run 67 = .ok (.aload_n 0, 1) := by decide +kernel
theorem dX0_run_68 : decode cX0_run 68 = .ok (.aload_n 0, 1) := by decide +kernel
theorem dX0_run_69 : decode cX0_run 69 = .ok (.getfield 23, 3) := by decide +kernel
theorem dX0_run_72 : decode cX0_run 72 = .ok (.iload_n 2, 1) := by decide +kernel
theorem dX0_run_73 : decode cX0_run 73 = .ok (.invokevirtual 36, 3) := by decide +kernel
theorem dX0_run_76 : decode cX0_run 76 = .ok (.istore_n 3, 1) := by decide +kernel
theorem dX0_run_77 : decode cX0_run 77 = .ok (.aload_n 0, 1) := by decide +kernel
theorem dX0_run_78 : decode cX0_run 78 = .ok (.getfield 19, 3) := by decide +kernel
theorem dX0_run_81 : decode cX0_run 81 = .ok (.ifCond .eq 8, 3) := by decide +kernel
theorem dX0_run_84 : decode cX0_run 84 = .ok (.bipush (-15), 2) := by decide +kernel
theorem dX0_run_86 : decode cX0_run 86 = .ok (.goto 4, 3) := by decide +kernel
theorem dX0_run_89 : decode cX0_run 89 = .ok (.iload_n 3, 1) := by decide +kernel
theorem dX0_run_90 : decode cX0_run 90 = .ok (.ireturn, 1) := by decide +kernel
theorem dX0_begin_0 : decode cX0_begin 0 = .ok (.aload_n 0, 1) := by decide +kernel
theorem dX0_begin_1 : decode cX0_begin 1 = .ok (.getfield 19, 3) := by decide +kernel
theorem dX0_begin_4 : decode cX0_begin 4 = .ok (.ifCond .ne 39, 3) := by decide +kernel
theorem dX0_begin_7 : decode cX0_begin 7 = .ok (.aload_n 0, 1) := by decide +kernel
theorem dX0_begin_8 : decode cX0_begin 8 = .ok (.getfield 15, 3) := by decide +kernel
theorem dX0_begin_11 : decode cX0_begin 11 = .ok (.ifCond .lt 32, 3) := by decide +kernel
theorem dX0_begin_14 : decode cX0_begin 14 = .ok (.aload_n 0, 1) := by decide +kernel
theorem dX0_begin_15 : decode cX0_begin 15 = .ok (.getfield 15, 3) := by decide +kernel
theorem dX0_begin_18 : decode cX0_begin 18 = .ok (.bipush 30, 2) := by decide +kernel
theorem dX0_begin_20 : decode cX0_begin 20 = .ok (.if_icmp .ge 23, 3) := by decide +kernel
theorem dX0_begin_23 : decode cX0_begin 23 = .ok (.aload_n 0, 1) := by decide +kernel
theorem dX0_begin_24 : decode cX0_begin 24 = .ok (.getfield 9, 3) := by decide +kernel
theorem dX0_begin_27 : decode cX0_begin 27 = .ok (.aload_n 0, 1) := by decide +kernel
theorem dX0_begin_28 : decode cX0_begin 28 = .ok (.getfield 15, 3) := by decide +kernel
theorem dX0_begin_31 : decode cX0_begin 31 = .ok (.iload_n 1, 1) := by decide +kernel
theorem dX0_begin_32 : decode cX0_begin 32 = .ok (.iastore, 1) := by decide +kernel
theorem dX0_begin_33 : decode cX0_begin 33 = .ok (.aload_n 0, 1) := by decide +kernel
theorem dX0_begin_34 : decode cX0_begin 34 = .ok (.dup, 1) := by decide +kernel
theorem dX0_begin_35 : decode cX0_begin 35 = .ok (.getfield 15, 3) := by decide +kernel
theorem dX0_begin_38 : decode cX0_begin 38 = .ok (.iconst 1, 1) := by decide +kernel
theorem dX0_begin_39 : decode cX0_begin 39 = .ok (.iadd, 1) := by decide +kernel
theorem dX0_begin_40 : decode cX0_begin 40 = .ok (.putfield 15, 3) := by decide +kernel
theorem dX0_begin_43 : decode cX0_begin 43 = .ok (.return_, 1) := by decide +kernel
theorem dX0_weighs_0 : decode cX0_weighs 0 = .ok (.iload_n 1, 1) := by decide +kernel
theorem dX0_weighs_1 : decode cX0_weighs 1 = .ok (.tableswitch 89 1 6 #[39, 89, 54, 89, 54, 71], 39) := by decide +kernel
theorem dX0_weighs_40 : decode cX0_weighs 40 = .ok (.aload_n 0, 1) := by decide +kernel
theorem dX0_weighs_41 : decode cX0_weighs 41 = .ok (.bipush 20, 2) := by decide +kernel
theorem dX0_weighs_43 : decode cX0_weighs 43 = .ok (.invokevirtual 39, 3) := by decide +kernel
theorem dX0_weighs_46 : decode cX0_weighs 46 = .ok (.aload_n 0, 1) := by decide +kernel
theorem dX0_weighs_47 : decode cX0_weighs 47 = .ok (.iconst 0, 1) := by decide +kernel
theorem dX0_weighs_48 : decode cX0_weighs 48 = .ok (.iload_n 2, 1) := by decide +kernel
theorem dX0_weighs_49 : decode cX0_weighs 49 = .ok (.invokevirtual 26, 3) := by decide +kernel
theorem dX0_weighs_52 : decode cX0_weighs 52 = .ok (.iconst 4, 1) := by decide +kernel
theorem dX0_weighs_53 : decode cX0_weighs 53 = .ok (.iadd, 1) := by decide +kernel
theorem dX0_weighs_54 : decode cX0_weighs 54 = .ok (.ireturn, 1) := by decide +kernel
theorem dX0_weighs_55 : decode cX0_weighs 55 = .ok (.aload_n 0, 1) := by decide +kernel
theorem dX0_weighs_56 : decode cX0_weighs 56 = .ok (.bipush 40, 2) := by decide +kernel
theorem dX0_weighs_58 : decode cX0_weighs 58 = .ok (.invokevirtual 39, 3) := by decide +kernel
theorem dX0_weighs_61 : decode cX0_weighs 61 = .ok (.aload_n 0, 1) := by decide +kernel
theorem dX0_weighs_62 : decode cX0_weighs 62 = .ok (.iconst 0, 1) := by decide +kernel
theorem dX0_weighs_63 : decode cX0_weighs 63 = .ok (.iload_n 2, 1) := by decide +kernel
theorem dX0_weighs_64 : decode cX0_weighs 64 = .ok (.iconst 1, 1) := by decide +kernel
theorem dX0_weighs_65 : decode cX0_weighs 65 = .ok (.isub, 1) := by decide +kernel
theorem dX0_weighs_66 : decode cX0_weighs 66 = .ok (.invokevirtual 26, 3) := by decide +kernel
theorem dX0_weighs_69 : decode cX0_weighs 69 = .ok (.iconst 2, 1) := by decide +kernel
theorem dX0_weighs_70 : decode cX0_weighs 70 = .ok (.imul, 1) := by decide +kernel
theorem dX0_weighs_71 : decode cX0_weighs 71 = .ok (.ireturn, 1) := by decide +kernel
theorem dX0_weighs_72 : decode cX0_weighs 72 = .ok (.aload_n 0, 1) := by decide +kernel
theorem dX0_weighs_73 : decode cX0_weighs 73 = .ok (.bipush 70, 2) := by decide +kernel
theorem dX0_weighs_75 : decode cX0_weighs 75 = .ok (.invokevirtual 39, 3) := by decide +kernel
theorem dX0_weighs_78 : decode cX0_weighs 78 = .ok (.aload_n 0, 1) := by decide +kernel
theorem dX0_weighs_79 : decode cX0_weighs 79 = .ok (.iconst 5, 1) := by decide +kernel
theorem dX0_weighs_80 : decode cX0_weighs 80 = .ok (.iload_n 2, 1) := by decide +kernel
theorem dX0_weighs_81 : decode cX0_weighs 81 = .ok (.invokevirtual 26, 3) := by decide +kernel
theorem dX0_weighs_84 : decode cX0_weighs 84 = .ok (.aload_n 0, 1) := by decide +kernel
theorem dX0_weighs_85 : decode cX0_weighs 85 = .ok (.getfield 43, 3) := by decide +kernel
theorem dX0_weighs_88 : decode cX0_weighs 88 = .ok (.ixor, 1) := by decide +kernel
theorem dX0_weighs_89 : decode cX0_weighs 89 = .ok (.ireturn, 1) := by decide +kernel
theorem dX0_weighs_90 : decode cX0_weighs 90 = .ok (.aload_n 0, 1) := by decide +kernel
theorem dX0_weighs_91 : decode cX0_weighs 91 = .ok (.bipush 10, 2) := by decide +kernel
theorem dX0_weighs_93 : decode cX0_weighs 93 = .ok (.invokevirtual 39, 3) := by decide +kernel
theorem dX0_weighs_96 : decode cX0_weighs 96 = .ok (.iload_n 2, 1) := by decide +kernel
theorem dX0_weighs_97 : decode cX0_weighs 97 = .ok (.bipush 7, 2) := by decide +kernel
theorem dX0_weighs_99 : decode cX0_weighs 99 = .ok (.imul, 1) := by decide +kernel
theorem dX0_weighs_100 : decode cX0_weighs 100 = .ok (.aload_n 0, 1) := by decide +kernel
theorem dX0_weighs_101 : decode cX0_weighs 101 = .ok (.getfield 46, 3) := by decide +kernel
theorem dX0_weighs_104 : decode cX0_weighs 104 = .ok (.iadd, 1) := by decide +kernel
theorem dX0_weighs_105 : decode cX0_weighs 105 = .ok (.ireturn, 1) := by decide +kernel
theorem dX0_turns_0 : decode cX0_turns 0 = .ok (.iload_n 1, 1) := by decide +kernel
theorem dX0_turns_1 : decode cX0_turns 1 = .ok (.lookupswitch 62 #[(2, 27), (4, 42)], 27) := by decide +kernel
theorem dX0_turns_28 : decode cX0_turns 28 = .ok (.aload_n 0, 1) := by decide +kernel
theorem dX0_turns_29 : decode cX0_turns 29 = .ok (.bipush 30, 2) := by decide +kernel
theorem dX0_turns_31 : decode cX0_turns 31 = .ok (.invokevirtual 39, 3) := by decide +kernel
theorem dX0_turns_34 : decode cX0_turns 34 = .ok (.iconst 0, 1) := by decide +kernel
theorem dX0_turns_35 : decode cX0_turns 35 = .ok (.aload_n 0, 1) := by decide +kernel
theorem dX0_turns_36 : decode cX0_turns 36 = .ok (.iconst 0, 1) := by decide +kernel
theorem dX0_turns_37 : decode cX0_turns 37 = .ok (.iload_n 2, 1) := by decide +kernel
theorem dX0_turns_38 : decode cX0_turns 38 = .ok (.invokevirtual 30, 3) := by decide +kernel
theorem dX0_turns_41 : decode cX0_turns 41 = .ok (.isub, 1) := by decide +kernel
theorem dX0_turns_42 : decode cX0_turns 42 = .ok (.ireturn, 1) := by decide +kernel
theorem dX0_turns_43 : decode cX0_turns 43 = .ok (.aload_n 0, 1) := by decide +kernel
theorem dX0_turns_44 : decode cX0_turns 44 = .ok (.bipush 50, 2) := by decide +kernel
theorem dX0_turns_46 : decode cX0_turns 46 = .ok (.invokevirtual 39, 3) := by decide +kernel
theorem dX0_turns_49 : decode cX0_turns 49 = .ok (.aload_n 0, 1) := by decide +kernel
theorem dX0_turns_50 : decode cX0_turns 50 = .ok (.iconst 2, 1) := by decide +kernel
theorem dX0_turns_51 : decode cX0_turns 51 = .ok (.iload_n 2, 1) := by decide +kernel
theorem dX0_turns_52 : decode cX0_turns 52 = .ok (.aload_n 0, 1) := by decide +kernel
theorem dX0_turns_53 : decode cX0_turns 53 = .ok (.getfield 43, 3) := by decide +kernel
theorem dX0_turns_56 : decode cX0_turns 56 = .ok (.iadd, 1) := by decide +kernel
theorem dX0_turns_57 : decode cX0_turns 57 = .ok (.invokevirtual 30, 3) := by decide +kernel
theorem dX0_turns_60 : decode cX0_turns 60 = .ok (.iconst 3, 1) := by decide +kernel
theorem dX0_turns_61 : decode cX0_turns 61 = .ok (.ixor, 1) := by decide +kernel
theorem dX0_turns_62 : decode cX0_turns 62 = .ok (.ireturn, 1) := by decide +kernel
theorem dX0_turns_63 : decode cX0_turns 63 = .ok (.aload_n 0, 1) := by decide +kernel
theorem dX0_turns_64 : decode cX0_turns 64 = .ok (.bipush 11, 2) := by decide +kernel
theorem dX0_turns_66 : decode cX0_turns 66 = .ok (.invokevirtual 39, 3) := by decide +kernel
theorem dX0_turns_69 : decode cX0_turns 69 = .ok (.aload_n 0, 1) := by decide +kernel
theorem dX0_turns_70 : decode cX0_turns 70 = .ok (.aload_n 0, 1) := by decide +kernel
theorem dX0_turns_71 : decode cX0_turns 71 = .ok (.getfield 23, 3) := by decide +kernel
theorem dX0_turns_74 : decode cX0_turns 74 = .ok (.iload_n 2, 1) := by decide +kernel
theorem dX0_turns_75 : decode cX0_turns 75 = .ok (.invokevirtual 26, 3) := by decide +kernel
theorem dX0_turns_78 : decode cX0_turns 78 = .ok (.aload_n 0, 1) := by decide +kernel
theorem dX0_turns_79 : decode cX0_turns 79 = .ok (.getfield 43, 3) := by decide +kernel
theorem dX0_turns_82 : decode cX0_turns 82 = .ok (.isub, 1) := by decide +kernel
theorem dX0_turns_83 : decode cX0_turns 83 = .ok (.ireturn, 1) := by decide +kernel
theorem dX0_parts_0 : decode cX0_parts 0 = .ok (.iload_n 1, 1) := by decide +kernel
theorem dX0_parts_1 : decode cX0_parts 1 = .ok (.tableswitch 57 3 6 #[31, 57, 31, 31], 31) := by decide +kernel
theorem dX0_parts_32 : decode cX0_parts 32 = .ok (.aload_n 0, 1) := by decide +kernel
theorem dX0_parts_33 : decode cX0_parts 33 = .ok (.bipush 41, 2) := by decide +kernel
theorem dX0_parts_35 : decode cX0_parts 35 = .ok (.invokevirtual 39, 3) := by decide +kernel
theorem dX0_parts_38 : decode cX0_parts 38 = .ok (.aload_n 0, 1) := by decide +kernel
theorem dX0_parts_39 : decode cX0_parts 39 = .ok (.iconst 0, 1) := by decide +kernel
theorem dX0_parts_40 : decode cX0_parts 40 = .ok (.iload_n 2, 1) := by decide +kernel
theorem dX0_parts_41 : decode cX0_parts 41 = .ok (.invokevirtual 33, 3) := by decide +kernel
theorem dX0_parts_44 : decode cX0_parts 44 = .ok (.aload_n 0, 1) := by decide +kernel
theorem dX0_parts_45 : decode cX0_parts 45 = .ok (.aload_n 0, 1) := by decide +kernel
theorem dX0_parts_46 : decode cX0_parts 46 = .ok (.getfield 23, 3) := by decide +kernel
theorem dX0_parts_49 : decode cX0_parts 49 = .ok (.aload_n 0, 1) := by decide +kernel
theorem dX0_parts_50 : decode cX0_parts 50 = .ok (.getfield 46, 3) := by decide +kernel
theorem dX0_parts_53 : decode cX0_parts 53 = .ok (.invokevirtual 26, 3) := by decide +kernel
theorem dX0_parts_56 : decode cX0_parts 56 = .ok (.isub, 1) := by decide +kernel
theorem dX0_parts_57 : decode cX0_parts 57 = .ok (.ireturn, 1) := by decide +kernel
theorem dX0_parts_58 : decode cX0_parts 58 = .ok (.aload_n 0, 1) := by decide +kernel
theorem dX0_parts_59 : decode cX0_parts 59 = .ok (.bipush 12, 2) := by decide +kernel
theorem dX0_parts_61 : decode cX0_parts 61 = .ok (.invokevirtual 39, 3) := by decide +kernel
theorem dX0_parts_64 : decode cX0_parts 64 = .ok (.aload_n 0, 1) := by decide +kernel
theorem dX0_parts_65 : decode cX0_parts 65 = .ok (.getfield 46, 3) := by decide +kernel
theorem dX0_parts_68 : decode cX0_parts 68 = .ok (.aload_n 0, 1) := by decide +kernel
theorem dX0_parts_69 : decode cX0_parts 69 = .ok (.getfield 43, 3) := by decide +kernel
theorem dX0_parts_72 : decode cX0_parts 72 = .ok (.isub, 1) := by decide +kernel
theorem dX0_parts_73 : decode cX0_parts 73 = .ok (.istore_n 3, 1) := by decide +kernel
theorem dX0_parts_74 : decode cX0_parts 74 = .ok (.iload_n 3, 1) := by decide +kernel
theorem dX0_parts_75 : decode cX0_parts 75 = .ok (.ifCond .ne 10, 3) := by decide +kernel
theorem dX0_parts_78 : decode cX0_parts 78 = .ok (.aload_n 0, 1) := by decide +kernel
theorem dX0_parts_79 : decode cX0_parts 79 = .ok (.iconst 1, 1) := by decide +kernel
theorem dX0_parts_80 : decode cX0_parts 80 = .ok (.putfield 19, 3) := by decide +kernel
theorem dX0_parts_83 : decode cX0_parts 83 = .ok (.iconst 0, 1) := by decide +kernel
theorem dX0_parts_84 : decode cX0_parts 84 = .ok (.ireturn, 1) := by decide +kernel
theorem dX0_parts_85 : decode cX0_parts 85 = .ok (.iload_n 2, 1) := by decide +kernel
theorem dX0_parts_86 : decode cX0_parts 86 = .ok (.iload_n 3, 1) := by decide +kernel
theorem dX0_parts_87 : decode cX0_parts 87 = .ok (.idiv, 1) := by decide +kernel
theorem dX0_parts_88 : decode cX0_parts 88 = .ok (.ireturn, 1) := by decide +kernel
theorem dX0_closes_0 : decode cX0_closes 0 = .ok (.iload_n 1, 1) := by decide +kernel
theorem dX0_closes_1 : decode cX0_closes 1 = .ok (.lookupswitch 67 #[(5, 27), (6, 50)], 27) := by decide +kernel
theorem dX0_closes_28 : decode cX0_closes 28 = .ok (.aload_n 0, 1) := by decide +kernel
theorem dX0_closes_29 : decode cX0_closes 29 = .ok (.bipush 60, 2) := by decide +kernel
theorem dX0_closes_31 : decode cX0_closes 31 = .ok (.invokevirtual 39, 3) := by decide +kernel
theorem dX0_closes_34 : decode cX0_closes 34 = .ok (.aload_n 0, 1) := by decide +kernel
theorem dX0_closes_35 : decode cX0_closes 35 = .ok (.iconst 0, 1) := by decide +kernel
theorem dX0_closes_36 : decode cX0_closes 36 = .ok (.iload_n 2, 1) := by decide +kernel
theorem dX0_closes_37 : decode cX0_closes 37 = .ok (.invokevirtual 36, 3) := by decide +kernel
theorem dX0_closes_40 : decode cX0_closes 40 = .ok (.aload_n 0, 1) := by decide +kernel
theorem dX0_closes_41 : decode cX0_closes 41 = .ok (.aload_n 0, 1) := by decide +kernel
theorem dX0_closes_42 : decode cX0_closes 42 = .ok (.getfield 23, 3) := by decide +kernel
theorem dX0_closes_45 : decode cX0_closes 45 = .ok (.iconst 1, 1) := by decide +kernel
theorem dX0_closes_46 : decode cX0_closes 46 = .ok (.invokevirtual 30, 3) := by decide +kernel
theorem dX0_closes_49 : decode cX0_closes 49 = .ok (.iadd, 1) := by decide +kernel
theorem dX0_closes_50 : decode cX0_closes 50 = .ok (.ireturn, 1) := by decide +kernel
theorem dX0_closes_51 : decode cX0_closes 51 = .ok (.aload_n 0, 1) := by decide +kernel
theorem dX0_closes_52 : decode cX0_closes 52 = .ok (.bipush 71, 2) := by decide +kernel
theorem dX0_closes_54 : decode cX0_closes 54 = .ok (.invokevirtual 39, 3) := by decide +kernel
theorem dX0_closes_57 : decode cX0_closes 57 = .ok (.aload_n 0, 1) := by decide +kernel
theorem dX0_closes_58 : decode cX0_closes 58 = .ok (.iconst 5, 1) := by decide +kernel
theorem dX0_closes_59 : decode cX0_closes 59 = .ok (.iload_n 2, 1) := by decide +kernel
theorem dX0_closes_60 : decode cX0_closes 60 = .ok (.iconst 2, 1) := by decide +kernel
theorem dX0_closes_61 : decode cX0_closes 61 = .ok (.imul, 1) := by decide +kernel
theorem dX0_closes_62 : decode cX0_closes 62 = .ok (.invokevirtual 36, 3) := by decide +kernel
theorem dX0_closes_65 : decode cX0_closes 65 = .ok (.iconst 5, 1) := by decide +kernel
theorem dX0_closes_66 : decode cX0_closes 66 = .ok (.isub, 1) := by decide +kernel
theorem dX0_closes_67 : decode cX0_closes 67 = .ok (.ireturn, 1) := by decide +kernel
theorem dX0_closes_68 : decode cX0_closes 68 = .ok (.aload_n 0, 1) := by decide +kernel
theorem dX0_closes_69 : decode cX0_closes 69 = .ok (.bipush 13, 2) := by decide +kernel
theorem dX0_closes_71 : decode cX0_closes 71 = .ok (.invokevirtual 39, 3) := by decide +kernel
theorem dX0_closes_74 : decode cX0_closes 74 = .ok (.aload_n 0, 1) := by decide +kernel
theorem dX0_closes_75 : decode cX0_closes 75 = .ok (.aload_n 0, 1) := by decide +kernel
theorem dX0_closes_76 : decode cX0_closes 76 = .ok (.getfield 23, 3) := by decide +kernel
theorem dX0_closes_79 : decode cX0_closes 79 = .ok (.iload_n 2, 1) := by decide +kernel
theorem dX0_closes_80 : decode cX0_closes 80 = .ok (.invokevirtual 30, 3) := by decide +kernel
theorem dX0_closes_83 : decode cX0_closes 83 = .ok (.aload_n 0, 1) := by decide +kernel
theorem dX0_closes_84 : decode cX0_closes 84 = .ok (.aload_n 0, 1) := by decide +kernel
theorem dX0_closes_85 : decode cX0_closes 85 = .ok (.getfield 23, 3) := by decide +kernel
theorem dX0_closes_88 : decode cX0_closes 88 = .ok (.iload_n 2, 1) := by decide +kernel
theorem dX0_closes_89 : decode cX0_closes 89 = .ok (.iconst 2, 1) := by decide +kernel
theorem dX0_closes_90 : decode cX0_closes 90 = .ok (.iadd, 1) := by decide +kernel
theorem dX0_closes_91 : decode cX0_closes 91 = .ok (.invokevirtual 33, 3) := by decide +kernel
theorem dX0_closes_94 : decode cX0_closes 94 = .ok (.ixor, 1) := by decide +kernel
theorem dX0_closes_95 : decode cX0_closes 95 = .ok (.ireturn, 1) := by decide +kernel
theorem dX1_init_0 : decode cX1_init 0 = .ok (.aload_n 0, 1) := by decide +kernel
theorem dX1_init_1 : decode cX1_init 1 = .ok (.invokespecial 3, 3) := by decide +kernel
theorem dX1_init_4 : decode cX1_init 4 = .ok (.aload_n 0, 1) := by decide +kernel
theorem dX1_init_5 : decode cX1_init 5 = .ok (.lconst 1, 1) := by decide +kernel
theorem dX1_init_6 : decode cX1_init 6 = .ok (.putfield 9, 3) := by decide +kernel
theorem dX1_init_9 : decode cX1_init 9 = .ok (.aload_n 0, 1) := by decide +kernel
theorem dX1_init_10 : decode cX1_init 10 = .ok (.bipush 90, 2) := by decide +kernel
theorem dX1_init_12 : decode cX1_init 12 = .ok (.newarray .long, 2) := by decide +kernel
theorem dX1_init_14 : decode cX1_init 14 = .ok (.putfield 15, 3) := by decide +kernel
theorem dX1_init_17 : decode cX1_init 17 = .ok (.aload_n 0, 1) := by decide +kernel
theorem dX1_init_18 : decode cX1_init 18 = .ok (.bipush 10, 2) := by decide +kernel
theorem dX1_init_20 : decode cX1_init 20 = .ok (.newarray .int, 2) := by decide +kernel
theorem dX1_init_22 : decode cX1_init 22 = .ok (.putfield 19, 3) := by decide +kernel
theorem dX1_init_25 : decode cX1_init 25 = .ok (.return_, 1) := by decide +kernel
theorem dX1_clear_0 : decode cX1_clear 0 = .ok (.aload_n 0, 1) := by decide +kernel
theorem dX1_clear_1 : decode cX1_clear 1 = .ok (.iconst 0, 1) := by decide +kernel
theorem dX1_clear_2 : decode cX1_clear 2 = .ok (.iload_n 1, 1) := by decide +kernel
theorem dX1_clear_3 : decode cX1_clear 3 = .ok (.bipush 9, 2) := by decide +kernel
theorem dX1_clear_5 : decode cX1_clear 5 = .ok (.invokestatic 23, 3) := by decide +kernel
theorem dX1_clear_8 : decode cX1_clear 8 = .ok (.invokestatic 29, 3) := by decide +kernel
theorem dX1_clear_11 : decode cX1_clear 11 = .ok (.putfield 32, 3) := by decide +kernel
theorem dX1_clear_14 : decode cX1_clear 14 = .ok (.aload_n 0, 1) := by decide +kernel
theorem dX1_clear_15 : decode cX1_clear 15 = .ok (.iconst 0, 1) := by decide +kernel
theorem dX1_clear_16 : decode cX1_clear 16 = .ok (.iload_n 2, 1) := by decide +kernel
theorem dX1_clear_17 : decode cX1_clear 17 = .ok (.bipush 9, 2) := by decide +kernel
theorem dX1_clear_19 : decode cX1_clear 19 = .ok (.invokestatic 23, 3) := by decide +kernel
theorem dX1_clear_22 : decode cX1_clear 22 = .ok (.invokestatic 29, 3) := by decide +kernel
theorem dX1_clear_25 : decode cX1_clear 25 = .ok (.putfield 36, 3) := by decide +kernel
theorem dX1_clear_28 : decode cX1_clear 28 = .ok (.aload_n 0, 1) := by decide +kernel
theorem dX1_clear_29 : decode cX1_clear 29 = .ok (.getfield 15, 3) := by decide +kernel
theorem dX1_clear_32 : decode cX1_clear 32 = .ok (.lconst 0, 1) := by decide +kernel
theorem dX1_clear_33 : decode cX1_clear 33 = .ok (.invokestatic 39, 3) := by decide +kernel
theorem dX1_clear_36 : decode cX1_clear 36 = .ok (.return_, 1) := by decide +kernel
theorem dX1_hasCell_0 : decode cX1_hasCell 0 = .ok (.iload_n 1, 1) := by decide +kernel
theorem dX1_hasCell_1 : decode cX1_hasCell 1 = .ok (.ifCond .lt 23, 3) := by decide +kernel
theorem dX1_hasCell_4 : decode cX1_hasCell 4 = .ok (.iload_n 1, 1) := by decide +kernel
theorem dX1_hasCell_5 : decode cX1_hasCell 5 = .ok (.bipush 9, 2) := by decide +kernel
theorem dX1_hasCell_7 : decode cX1_hasCell 7 = .ok (.if_icmp .ge 17, 3) := by decide +kernel
theorem dX1_hasCell_10 : decode cX1_hasCell 10 = .ok (.iload_n 2, 1) := by decide +kernel
theorem dX1_hasCell_11 : decode cX1_hasCell 11 = .ok (.ifCond .lt 13, 3) := by decide +kernel
theorem dX1_hasCell_14 : decode cX1_hasCell 14 = .ok (.iload_n 2, 1) := by decide +kernel
theorem dX1_hasCell_15 : decode cX1_hasCell 15 = .ok (.bipush 10, 2) := by decide +kernel
theorem dX1_hasCell_17 : decode cX1_hasCell 17 = .ok (.if_icmp .ge 7, 3) := by decide +kernel
theorem dX1_hasCell_20 : decode cX1_hasCell 20 = .ok (.iconst 1, 1) := by decide +kernel
theorem dX1_hasCell_21 : decode cX1_hasCell 21 = .ok (.goto 4, 3) := by decide +kernel
theorem dX1_hasCell_24 : decode cX1_hasCell 24 = .ok (.iconst 0, 1) := by decide +kernel
theorem dX1_hasCell_25 : decode cX1_hasCell 25 = .ok (.ireturn, 1) := by decide +kernel
theorem dX1_cell_0 : decode cX1_cell 0 = .ok (.aload_n 0, 1) := by decide +kernel
theorem dX1_cell_1 : decode cX1_cell 1 = .ok (.iload_n 1, 1) := by decide +kernel
theorem dX1_cell_2 : decode cX1_cell 2 = .ok (.iload_n 2, 1) := by decide +kernel
theorem dX1_cell_3 : decode cX1_cell 3 = .ok (.invokevirtual 45, 3) := by decide +kernel
theorem dX1_cell_6 : decode cX1_cell 6 = .ok (.ifCond .eq 17, 3) := by decide +kernel
theorem dX1_cell_9 : decode cX1_cell 9 = .ok (.aload_n 0, 1) := by decide +kernel
theorem dX1_cell_10 : decode cX1_cell 10 = .ok (.getfield 15, 3) := by decide +kernel
theorem dX1_cell_13 : decode cX1_cell 13 = .ok (.iload_n 1, 1) := by decide +kernel
theorem dX1_cell_14 : decode cX1_cell 14 = .ok (.bipush 10, 2) := by decide +kernel
theorem dX1_cell_16 : decode cX1_cell 16 = .ok (.imul, 1) := by decide +kernel
theorem dX1_cell_17 : decode cX1_cell 17 = .ok (.iload_n 2, 1) := by decide +kernel
theorem dX1_cell_18 : decode cX1_cell 18 = .ok (.iadd, 1) := by decide +kernel
theorem dX1_cell_19 : decode cX1_cell 19 = .ok (.laload, 1) := by decide +kernel
theorem dX1_cell_20 : decode cX1_cell 20 = .ok (.goto 4, 3) := by decide +kernel
theorem dX1_cell_23 : decode cX1_cell 23 = .ok (.lconst 0, 1) := by decide +kernel
theorem dX1_cell_24 : decode cX1_cell 24 = .ok (.lreturn, 1) := by decide +kernel
theorem dX1_write_0 : decode cX1_write 0 = .ok (.aload_n 0, 1) := by decide +kernel
theorem dX1_write_1 : decode cX1_write 1 = .ok (.iload_n 1, 1) := by decide +kernel
theorem dX1_write_2 : decode cX1_write 2 = .ok (.iload_n 2, 1) := by decide +kernel
theorem dX1_write_3 : decode cX1_write 3 = .ok (.invokevirtual 45, 3) := by decide +kernel
theorem dX1_write_6 : decode cX1_write 6 = .ok (.ifCond .eq 15, 3) := by decide +kernel
theorem dX1_write_9 : decode cX1_write 9 = .ok (.aload_n 0, 1) := by decide +kernel
theorem dX1_write_10 : decode cX1_write 10 = .ok (.getfield 15, 3) := by decide +kernel
theorem dX1_write_13 : decode cX1_write 13 = .ok (.iload_n 1, 1) := by decide +kernel
theorem dX1_write_14 : decode cX1_write 14 = .ok (.bipush 10, 2) := by decide +kernel
theorem dX1_write_16 : decode cX1_write 16 = .ok (.imul, 1) := by decide +kernel
theorem dX1_write_17 : decode cX1_write 17 = .ok (.iload_n 2, 1) := by decide +kernel
theorem dX1_write_18 : decode cX1_write 18 = .ok (.iadd, 1) := by decide +kernel
theorem dX1_write_19 : decode cX1_write 19 = .ok (.lload_n 3, 1) := by decide +kernel
theorem dX1_write_20 : decode cX1_write 20 = .ok (.lastore, 1) := by decide +kernel
theorem dX1_write_21 : decode cX1_write 21 = .ok (.return_, 1) := by decide +kernel
theorem dX1_add_0 : decode cX1_add 0 = .ok (.aload_n 0, 1) := by decide +kernel
theorem dX1_add_1 : decode cX1_add 1 = .ok (.iload_n 1, 1) := by decide +kernel
theorem dX1_add_2 : decode cX1_add 2 = .ok (.iload_n 2, 1) := by decide +kernel
theorem dX1_add_3 : decode cX1_add 3 = .ok (.aload_n 0, 1) := by decide +kernel
theorem dX1_add_4 : decode cX1_add 4 = .ok (.iload_n 1, 1) := by decide +kernel
theorem dX1_add_5 : decode cX1_add 5 = .ok (.iload_n 2, 1) := by decide +kernel
theorem dX1_add_6 : decode cX1_add 6 = .ok (.invokevirtual 49, 3) := by decide +kernel
theorem dX1_add_9 : decode cX1_add 9 = .ok (.lload_n 3, 1) := by decide +kernel
theorem dX1_add_10 : decode cX1_add 10 = .ok (.ladd, 1) := by decide +kernel
theorem dX1_add_11 : decode cX1_add 11 = .ok (.invokevirtual 53, 3) := by decide +kernel
theorem dX1_add_14 : decode cX1_add 14 = .ok (.return_, 1) := by decide +kernel
theorem dX1_fillTurned_0 : decode cX1_fillTurned 0 = .ok (.aload_n 0, 1) := by decide +kernel
theorem dX1_fillTurned_1 : decode cX1_fillTurned 1 = .ok (.aload_n 1, 1) := by decide +kernel
theorem dX1_fillTurned_2 : decode cX1_fillTurned 2 = .ok (.getfield 36, 3) := by decide +kernel
theorem dX1_fillTurned_5 : decode cX1_fillTurned 5 = .ok (.iconst 1, 1) := by decide +kernel
theorem dX1_fillTurned_6 : decode cX1_fillTurned 6 = .ok (.iadd, 1) := by decide +kernel
theorem dX1_fillTurned_7 : decode cX1_fillTurned 7 = .ok (.aload_n 1, 1) := by decide +kernel
theorem dX1_fillTurned_8 : decode cX1_fillTurned 8 = .ok (.getfield 32, 3) := by decide +kernel
theorem dX1_fillTurned_11 : decode cX1_fillTurned 11 = .ok (.invokevirtual 57, 3) := by decide +kernel
theorem dX1_fillTurned_14 : decode cX1_fillTurned 14 = .ok (.iconst 0, 1) := by decide +kernel
theorem dX1_fillTurned_15 : decode cX1_fillTurned 15 = .ok (.istore_n 2, 1) := by decide +kernel
theorem dX1_fillTurned_16 : decode cX1_fillTurned 16 = .ok (.iload_n 2, 1) := by decide +kernel
theorem dX1_fillTurned_17 : decode cX1_fillTurned 17 = .ok (.aload_n 0, 1) := by decide +kernel
theorem dX1_fillTurned_18 : decode cX1_fillTurned 18 = .ok (.getfield 32, 3) := by decide +kernel
theorem dX1_fillTurned_21 : decode cX1_fillTurned 21 = .ok (.if_icmp .ge 37, 3) := by decide +kernel
theorem dX1_fillTurned_24 : decode cX1_fillTurned 24 = .ok (.iconst 0, 1) := by decide +kernel
theorem dX1_fillTurned_25 : decode cX1_fillTurned 25 = .ok (.istore_n 3, 1) := by decide +kernel
theorem dX1_fillTurned_26 : decode cX1_fillTurned 26 = .ok (.iload_n 3, 1) := by decide +kernel
theorem dX1_fillTurned_27 : decode cX1_fillTurned 27 = .ok (.aload_n 0, 1) := by decide +kernel
theorem dX1_fillTurned_28 : decode cX1_fillTurned 28 = .ok (.getfield 36, 3) := by decide +kernel
theorem dX1_fillTurned_31 : decode cX1_fillTurned 31 = .ok (.if_icmp .ge 21, 3) := by decide +kernel
theorem dX1_fillTurned_34 : decode cX1_fillTurned 34 = .ok (.aload_n 0, 1) := by decide +kernel
theorem dX1_fillTurned_35 : decode cX1_fillTurned 35 = .ok (.iload_n 2, 1) := by decide +kernel
theorem dX1_fillTurned_36 : decode cX1_fillTurned 36 = .ok (.iload_n 3, 1) := by decide +kernel
theorem dX1_fillTurned_37 : decode cX1_fillTurned 37 = .ok (.aload_n 1, 1) := by decide +kernel
theorem dX1_fillTurned_38 : decode cX1_fillTurned 38 = .ok (.iload_n 3, 1) := by decide +kernel
theorem dX1_fillTurned_39 : decode cX1_fillTurned 39 = .ok (.iload_n 2, 1) := by decide +kernel
theorem dX1_fillTurned_40 : decode cX1_fillTurned 40 = .ok (.invokevirtual 49, 3) := by decide +kernel
theorem dX1_fillTurned_43 : decode cX1_fillTurned 43 = .ok (.invokevirtual 53, 3) := by decide +kernel
theorem dX1_fillTurned_46 : decode cX1_fillTurned 46 = .ok (.iinc 3 1, 3) := by decide +kernel
theorem dX1_fillTurned_49 : decode cX1_fillTurned 49 = .ok (.goto (-23), 3) := by decide +kernel
theorem dX1_fillTurned_52 : decode cX1_fillTurned 52 = .ok (.iinc 2 1, 3) := by decide +kernel
theorem dX1_fillTurned_55 : decode cX1_fillTurned 55 = .ok (.goto (-39), 3) := by decide +kernel
theorem dX1_fillTurned_58 : decode cX1_fillTurned 58 = .ok (.aload_n 0, 1) := by decide +kernel
theorem dX1_fillTurned_59 : decode cX1_fillTurned 59 = .ok (.aload_n 1, 1) := by decide +kernel
theorem dX1_fillTurned_60 : decode cX1_fillTurned 60 = .ok (.getfield 36, 3) := by decide +kernel
theorem dX1_fillTurned_63 : decode cX1_fillTurned 63 = .ok (.aload_n 0, 1) := by decide +kernel
theorem dX1_fillTurned_64 : decode cX1_fillTurned 64 = .ok (.getfield 36, 3) := by decide +kernel
theorem dX1_fillTurned_67 : decode cX1_fillTurned 67 = .ok (.lconst 1, 1) := by decide +kernel
theorem dX1_fillTurned_68 : decode cX1_fillTurned 68 = .ok (.invokevirtual 53, 3) := by decide +kernel
theorem dX1_fillTurned_71 : decode cX1_fillTurned 71 = .ok (.return_, 1) := by decide +kernel
theorem dX1_eliminate_0 : decode cX1_eliminate 0 = .ok (.aload_n 0, 1) := by decide +kernel
theorem dX1_eliminate_1 : decode cX1_eliminate 1 = .ok (.iconst 0, 1) := by decide +kernel
theorem dX1_eliminate_2 : decode cX1_eliminate 2 = .ok (.putfield 61, 3) := by decide +kernel
theorem dX1_eliminate_5 : decode cX1_eliminate 5 = .ok (.aload_n 0, 1) := by decide +kernel
theorem dX1_eliminate_6 : decode cX1_eliminate 6 = .ok (.lconst 1, 1) := by decide +kernel
theorem dX1_eliminate_7 : decode cX1_eliminate 7 = .ok (.putfield 9, 3) := by decide +kernel
theorem dX1_eliminate_10 : decode cX1_eliminate 10 = .ok (.aload_n 0, 1) := by decide +kernel
theorem dX1_eliminate_11 : decode cX1_eliminate 11 = .ok (.iconst 0, 1) := by decide +kernel
theorem dX1_eliminate_12 : decode cX1_eliminate 12 = .ok (.putfield 64, 3) := by decide +kernel
theorem dX1_eliminate_15 : decode cX1_eliminate 15 = .ok (.iconst 0, 1) := by decide +kernel
theorem dX1_eliminate_16 : decode cX1_eliminate 16 = .ok (.istore_n 1, 1) := by decide +kernel
theorem dX1_eliminate_17 : decode cX1_eliminate 17 = .ok (.iload_n 1, 1) := by decide +kernel
theorem dX1_eliminate_18 : decode cX1_eliminate 18 = .ok (.aload_n 0, 1) := by decide +kernel
theorem dX1_eliminate_19 : decode cX1_eliminate 19 = .ok (.getfield 36, 3) := by decide +kernel
theorem dX1_eliminate_22 : decode cX1_eliminate 22 = .ok (.if_icmp .ge 84, 3) := by decide +kernel
theorem dX1_eliminate_25 : decode cX1_eliminate 25 = .ok (.iload_n 1, 1) := by decide +kernel
theorem dX1_eliminate_26 : decode cX1_eliminate 26 = .ok (.bipush 10, 2) := by decide +kernel
theorem dX1_eliminate_28 : decode cX1_eliminate 28 = .ok (.if_icmp .ge 78, 3) := by decide +kernel
theorem dX1_eliminate_31 : decode cX1_eliminate 31 = .ok (.aload_n 0, 1) := by decide +kernel
theorem dX1_eliminate_32 : decode cX1_eliminate 32 = .ok (.iload_n 1, 1) := by decide +kernel
theorem dX1_eliminate_33 : decode cX1_eliminate 33 = .ok (.invokevirtual 68, 3) := by decide +kernel
theorem dX1_eliminate_36 : decode cX1_eliminate 36 = .ok (.istore_n 2, 1) := by decide +kernel
theorem dX1_eliminate_37 : decode cX1_eliminate 37 = .ok (.aload_n 0, 1) := by decide +kernel
theorem dX1_eliminate_38 : decode cX1_eliminate 38 = .ok (.getfield 19, 3) := by decide +kernel
theorem dX1_eliminate_41 : decode cX1_eliminate 41 = .ok (.iload_n 1, 1) := by decide +kernel
theorem dX1_eliminate_42 : decode cX1_eliminate 42 = .ok (.iload_n 2, 1) := by decide +kernel
theorem dX1_eliminate_43 : decode cX1_eliminate 43 = .ok (.ifCond .ge 7, 3) := by decide +kernel
theorem dX1_eliminate_46 : decode cX1_eliminate 46 = .ok (.iconst (-1), 1) := by decide +kernel
theorem dX1_eliminate_47 : decode cX1_eliminate 47 = .ok (.goto 7, 3) := by decide +kernel
theorem dX1_eliminate_50 : decode cX1_eliminate 50 = .ok (.aload_n 0, 1) := by decide +kernel
theorem dX1_eliminate_51 : decode cX1_eliminate 51 = .ok (.getfield 61, 3) := by decide +kernel
theorem dX1_eliminate_54 : decode cX1_eliminate 54 = .ok (.iastore, 1) := by decide +kernel
theorem dX1_eliminate_55 : decode cX1_eliminate 55 = .ok (.iload_n 2, 1) := by decide +kernel
theorem dX1_eliminate_56 : decode cX1_eliminate 56 = .ok (.ifCond .lt 44, 3) := by decide +kernel
theorem dX1_eliminate_59 : decode cX1_eliminate 59 = .ok (.aload_n 0, 1) := by decide +kernel
theorem dX1_eliminate_60 : decode cX1_eliminate 60 = .ok (.iload_n 2, 1) := by decide +kernel
theorem dX1_eliminate_61 : decode cX1_eliminate 61 = .ok (.aload_n 0, 1) := by decide +kernel
theorem dX1_eliminate_62 : decode cX1_eliminate 62 = .ok (.getfield 61, 3) := by decide +kernel
theorem dX1_eliminate_65 : decode cX1_eliminate 65 = .ok (.invokevirtual 72, 3) := by decide +kernel
theorem dX1_eliminate_68 : decode cX1_eliminate 68 = .ok (.aload_n 0, 1) := by decide +kernel
theorem dX1_eliminate_69 : decode cX1_eliminate 69 = .ok (.aload_n 0, 1) := by decide +kernel
theorem dX1_eliminate_70 : decode cX1_eliminate 70 = .ok (.getfield 61, 3) := by decide +kernel
theorem dX1_eliminate_73 : decode cX1_eliminate 73 = .ok (.iload_n 1, 1) := by decide +kernel
theorem dX1_eliminate_74 : decode cX1_eliminate 74 = .ok (.invokevirtual 75, 3) := by decide +kernel
theorem dX1_eliminate_77 : decode cX1_eliminate 77 = .ok (.aload_n 0, 1) := by decide +kernel
theorem dX1_eliminate_78 : decode cX1_eliminate 78 = .ok (.aload_n 0, 1) := by decide +kernel
theorem dX1_eliminate_79 : decode cX1_eliminate 79 = .ok (.aload_n 0, 1) := by decide +kernel
theorem dX1_eliminate_80 : decode cX1_eliminate 80 = .ok (.getfield 61, 3) := by decide +kernel
theorem dX1_eliminate_83 : decode cX1_eliminate 83 = .ok (.iload_n 1, 1) := by decide +kernel
theorem dX1_eliminate_84 : decode cX1_eliminate 84 = .ok (.invokevirtual 49, 3) := by decide +kernel
theorem dX1_eliminate_87 : decode cX1_eliminate 87 = .ok (.putfield 9, 3) := by decide +kernel
theorem dX1_eliminate_90 : decode cX1_eliminate 90 = .ok (.aload_n 0, 1) := by decide +kernel
theorem dX1_eliminate_91 : decode cX1_eliminate 91 = .ok (.dup, 1) := by decide +kernel
theorem dX1_eliminate_92 : decode cX1_eliminate 92 = .ok (.getfield 61, 3) := by decide +kernel
theorem dX1_eliminate_95 : decode cX1_eliminate 95 = .ok (.iconst 1, 1) := by decide +kernel
theorem dX1_eliminate_96 : decode cX1_eliminate 96 = .ok (.iadd, 1) := by decide +kernel
theorem dX1_eliminate_97 : decode cX1_eliminate 97 = .ok (.putfield 61, 3) := by decide +kernel
theorem dX1_eliminate_100 : decode cX1_eliminate 100 = .ok (.iinc 1 1, 3) := by decide +kernel
theorem dX1_eliminate_103 : decode cX1_eliminate 103 = .ok (.goto (-86), 3) := by decide +kernel
theorem dX1_eliminate_106 : decode cX1_eliminate 106 = .ok (.return_, 1) := by decide +kernel
theorem dX1_firstFilled_0 : decode cX1_firstFilled 0 = .ok (.aload_n 0, 1) := by decide +kernel
theorem dX1_firstFilled_1 : decode cX1_firstFilled 1 = .ok (.getfield 61, 3) := by decide +kernel
theorem dX1_firstFilled_4 : decode cX1_firstFilled 4 = .ok (.istore_n 2, 1) := by decide +kernel
theorem dX1_firstFilled_5 : decode cX1_firstFilled 5 = .ok (.iload_n 2, 1) := by decide +kernel
theorem dX1_firstFilled_6 : decode cX1_firstFilled 6 = .ok (.aload_n 0, 1) := by decide +kernel
theorem dX1_firstFilled_7 : decode cX1_firstFilled 7 = .ok (.getfield 32, 3) := by decide +kernel
theorem dX1_firstFilled_10 : decode cX1_firstFilled 10 = .ok (.if_icmp .ge 22, 3) := by decide +kernel
theorem dX1_firstFilled_13 : decode cX1_firstFilled 13 = .ok (.aload_n 0, 1) := by decide +kernel
theorem dX1_firstFilled_14 : decode cX1_firstFilled 14 = .ok (.iload_n 2, 1) := by decide +kernel
theorem dX1_firstFilled_15 : decode cX1_firstFilled 15 = .ok (.iload_n 1, 1) := by decide +kernel
theorem dX1_firstFilled_16 : decode cX1_firstFilled 16 = .ok (.invokevirtual 49, 3) := by decide +kernel
theorem dX1_firstFilled_19 : decode cX1_firstFilled 19 = .ok (.lconst 0, 1) := by decide +kernel
theorem dX1_firstFilled_20 : decode cX1_firstFilled 20 = .ok (.lcmp, 1) := by decide +kernel
theorem dX1_firstFilled_21 : decode cX1_firstFilled 21 = .ok (.ifCond .eq 5, 3) := by decide +kernel
theorem dX1_firstFilled_24 : decode cX1_firstFilled 24 = .ok (.iload_n 2, 1) := by decide +kernel
theorem dX1_firstFilled_25 : decode cX1_firstFilled 25 = .ok (.ireturn, 1) := by decide +kernel
theorem dX1_firstFilled_26 : decode cX1_firstFilled 26 = .ok (.iinc 2 1, 3) := by decide +kernel
theorem dX1_firstFilled_29 : decode cX1_firstFilled 29 = .ok (.goto (-24), 3) := by decide +kernel
theorem dX1_firstFilled_32 : decode cX1_firstFilled 32 = .ok (.iconst (-1), 1) := by decide +kernel
theorem dX1_firstFilled_33 : decode cX1_firstFilled 33 = .ok (.ireturn, 1) := by decide +kernel
theorem dX1_swapRows_0 : decode cX1_swapRows 0 = .ok (.iload_n 1, 1) := by decide +kernel
theorem dX1_swapRows_1 : decode cX1_swapRows 1 = .ok (.iload_n 2, 1) := by decide +kernel
theorem dX1_swapRows_2 : decode cX1_swapRows 2 = .ok (.if_icmp .ne 4, 3) := by decide +kernel
theorem dX1_swapRows_5 : decode cX1_swapRows 5 = .ok (.return_, 1) := by decide +kernel
theorem dX1_swapRows_6 : decode cX1_swapRows 6 = .ok (.aload_n 0, 1) := by decide +kernel
theorem dX1_swapRows_7 : decode cX1_swapRows 7 = .ok (.aload_n 0, 1) := by decide +kernel
theorem dX1_swapRows_8 : decode cX1_swapRows 8 = .ok (.getfield 64, 3) := by decide +kernel
theorem dX1_swapRows_11 : decode cX1_swapRows 11 = .ok (.ifCond .ne 7, 3) := by decide +kernel
theorem dX1_swapRows_14 : decode cX1_swapRows 14 = .ok (.iconst 1, 1) := by decide +kernel
theorem dX1_swapRows_15 : decode cX1_swapRows 15 = .ok (.goto 4, 3) := by decide +kernel
theorem dX1_swapRows_18 : decode cX1_swapRows 18 = .ok (.iconst 0, 1) := by decide +kernel
theorem dX1_swapRows_19 : decode cX1_swapRows 19 = .ok (.putfield 64, 3) := by decide +kernel
theorem dX1_swapRows_22 : decode cX1_swapRows 22 = .ok (.iconst 0, 1) := by decide +kernel
theorem dX1_swapRows_23 : decode cX1_swapRows 23 = .ok (.istore_n 3, 1) := by decide +kernel
theorem dX1_swapRows_24 : decode cX1_swapRows 24 = .ok (.iload_n 3, 1) := by decide +kernel
theorem dX1_swapRows_25 : decode cX1_swapRows 25 = .ok (.aload_n 0, 1) := by decide +kernel
theorem dX1_swapRows_26 : decode cX1_swapRows 26 = .ok (.getfield 36, 3) := by decide +kernel
theorem dX1_swapRows_29 : decode cX1_swapRows 29 = .ok (.if_icmp .gt 37, 3) := by decide +kernel
theorem dX1_swapRows_32 : decode cX1_swapRows 32 = .ok (.aload_n 0, 1) := by decide +kernel
theorem dX1_swapRows_33 : decode cX1_swapRows 33 = .ok (.iload_n 1, 1) := by decide +kernel
theorem dX1_swapRows_34 : decode cX1_swapRows 34 = .ok (.iload_n 3, 1) := by decide +kernel
theorem dX1_swapRows_35 : decode cX1_swapRows 35 = .ok (.invokevirtual 49, 3) := by decide +kernel
theorem dX1_swapRows_38 : decode cX1_swapRows 38 = .ok (.lstore 4, 2) := by decide +kernel
theorem dX1_swapRows_40 : decode cX1_swapRows 40 = .ok (.aload_n 0, 1) := by decide +kernel
theorem dX1_swapRows_41 : decode cX1_swapRows 41 = .ok (.iload_n 1, 1) := by decide +kernel
theorem dX1_swapRows_42 : decode cX1_swapRows 42 = .ok (.iload_n 3, 1) := by decide +kernel
theorem dX1_swapRows_43 : decode cX1_swapRows 43 = .ok (.aload_n 0, 1) := by decide +kernel
theorem dX1_swapRows_44 : decode cX1_swapRows 44 = .ok (.iload_n 2, 1) := by decide +kernel
theorem dX1_swapRows_45 : decode cX1_swapRows 45 = .ok (.iload_n 3, 1) := by decide +kernel
theorem dX1_swapRows_46 : decode cX1_swapRows 46 = .ok (.invokevirtual 49, 3) := by decide +kernel
theorem dX1_swapRows_49 : decode cX1_swapRows 49 = .ok (.invokevirtual 53, 3) := by decide +kernel
theorem dX1_swapRows_52 : decode cX1_swapRows 52 = .ok (.aload_n 0, 1) := by decide +kernel
theorem dX1_swapRows_53 : decode cX1_swapRows 53 = .ok (.iload_n 2, 1) := by decide +kernel
theorem dX1_swapRows_54 : decode cX1_swapRows 54 = .ok (.iload_n 3, 1) := by decide +kernel
theorem dX1_swapRows_55 : decode cX1_swapRows 55 = .ok (.lload 4, 2) := by decide +kernel
theorem dX1_swapRows_57 : decode cX1_swapRows 57 = .ok (.invokevirtual 53, 3) := by decide +kernel
theorem dX1_swapRows_60 : decode cX1_swapRows 60 = .ok (.iinc 3 1, 3) := by decide +kernel
theorem dX1_swapRows_63 : decode cX1_swapRows 63 = .ok (.goto (-39), 3) := by decide +kernel
theorem dX1_swapRows_66 : decode cX1_swapRows 66 = .ok (.return_, 1) := by decide +kernel
theorem dX1_sweep_0 : decode cX1_sweep 0 = .ok (.aload_n 0, 1) := by decide +kernel
theorem dX1_sweep_1 : decode cX1_sweep 1 = .ok (.getfield 9, 3) := by decide +kernel
theorem dX1_sweep_4 : decode cX1_sweep 4 = .ok (.lconst 0, 1) := by decide +kernel
theorem dX1_sweep_5 : decode cX1_sweep 5 = .ok (.lcmp, 1) := by decide +kernel
theorem dX1_sweep_6 : decode cX1_sweep 6 = .ok (.ifCond .ne 4, 3) := by decide +kernel
theorem dX1_sweep_9 : decode cX1_sweep 9 = .ok (.return_, 1) := by decide +kernel
theorem dX1_sweep_10 : decode cX1_sweep 10 = .ok (.aload_n 0, 1) := by decide +kernel
theorem dX1_sweep_11 : decode cX1_sweep 11 = .ok (.iload_n 1, 1) := by decide +kernel
theorem dX1_sweep_12 : decode cX1_sweep 12 = .ok (.iload_n 2, 1) := by decide +kernel
theorem dX1_sweep_13 : decode cX1_sweep 13 = .ok (.invokevirtual 49, 3) := by decide +kernel
theorem dX1_sweep_16 : decode cX1_sweep 16 = .ok (.lstore_n 3, 1) := by decide +kernel
theorem dX1_sweep_17 : decode cX1_sweep 17 = .ok (.iconst 0, 1) := by decide +kernel
theorem dX1_sweep_18 : decode cX1_sweep 18 = .ok (.istore 5, 2) := by decide +kernel
theorem dX1_sweep_20 : decode cX1_sweep 20 = .ok (.iload 5, 2) := by decide +kernel
theorem dX1_sweep_22 : decode cX1_sweep 22 = .ok (.aload_n 0, 1) := by decide +kernel
theorem dX1_sweep_23 : decode cX1_sweep 23 = .ok (.getfield 32, 3) := by decide +kernel
theorem dX1_sweep_26 : decode cX1_sweep 26 = .ok (.if_icmp .ge 80, 3) := by decide +kernel
theorem dX1_sweep_29 : decode cX1_sweep 29 = .ok (.iload 5, 2) := by decide +kernel
theorem dX1_sweep_31 : decode cX1_sweep 31 = .ok (.iload_n 1, 1) := by decide +kernel
theorem dX1_sweep_32 : decode cX1_sweep 32 = .ok (.if_icmp .eq 68, 3) := by decide +kernel
theorem dX1_sweep_35 : decode cX1_sweep 35 = .ok (.aload_n 0, 1) := by decide +kernel
theorem dX1_sweep_36 : decode cX1_sweep 36 = .ok (.iload 5, 2) := by decide +kernel
theorem dX1_sweep_38 : decode cX1_sweep 38 = .ok (.iload_n 2, 1) := by decide +kernel
theorem dX1_sweep_39 : decode cX1_sweep 39 = .ok (.invokevirtual 49, 3) := by decide +kernel
theorem dX1_sweep_42 : decode cX1_sweep 42 = .ok (.lstore 6, 2) := by decide +kernel
theorem dX1_sweep_44 : decode cX1_sweep 44 = .ok (.iconst 0, 1) := by decide +kernel
theorem dX1_sweep_45 : decode cX1_sweep 45 = .ok (.istore 8, 2) := by decide +kernel
theorem dX1_sweep_47 : decode cX1_sweep 47 = .ok (.iload 8, 2) := by decide +kernel
theorem dX1_sweep_49 : decode cX1_sweep 49 = .ok (.aload_n 0, 1) := by decide +kernel
theorem dX1_sweep_50 : decode cX1_sweep 50 = .ok (.getfield 36, 3) := by decide +kernel
theorem dX1_sweep_53 : decode cX1_sweep 53 = .ok (.if_icmp .gt 47, 3) := by decide +kernel
theorem dX1_sweep_56 : decode cX1_sweep 56 = .ok (.aload_n 0, 1) := by decide +kernel
theorem dX1_sweep_57 : decode cX1_sweep 57 = .ok (.iload 5, 2) := by decide +kernel
theorem dX1_sweep_59 : decode cX1_sweep 59 = .ok (.iload 8, 2) := by decide +kernel
theorem dX1_sweep_61 : decode cX1_sweep 61 = .ok (.invokevirtual 49, 3) := by decide +kernel
theorem dX1_sweep_64 : decode cX1_sweep 64 = .ok (.lload_n 3, 1) := by decide +kernel
theorem dX1_sweep_65 : decode cX1_sweep 65 = .ok (.lmul, 1) := by decide +kernel
theorem dX1_sweep_66 : decode cX1_sweep 66 = .ok (.lload 6, 2) := by decide +kernel
theorem dX1_sweep_68 : decode cX1_sweep 68 = .ok (.aload_n 0, 1) := by decide +kernel
theorem dX1_sweep_69 : decode cX1_sweep 69 = .ok (.iload_n 1, 1) := by decide +kernel
theorem dX1_sweep_70 : decode cX1_sweep 70 = .ok (.iload 8, 2) := by decide +kernel
theorem dX1_sweep_72 : decode cX1_sweep 72 = .ok (.invokevirtual 49, 3) := by decide +kernel
theorem dX1_sweep_75 : decode cX1_sweep 75 = .ok (.lmul, 1) := by decide +kernel
theorem dX1_sweep_76 : decode cX1_sweep 76 = .ok (.lsub, 1) := by decide +kernel
theorem dX1_sweep_77 : decode cX1_sweep 77 = .ok (.lstore 9, 2) := by decide +kernel
theorem dX1_sweep_79 : decode cX1_sweep 79 = .ok (.aload_n 0, 1) := by decide +kernel
theorem dX1_sweep_80 : decode cX1_sweep 80 = .ok (.iload 5, 2) := by decide +kernel
theorem dX1_sweep_82 : decode cX1_sweep 82 = .ok (.iload 8, 2) := by decide +kernel
theorem dX1_sweep_84 : decode cX1_sweep 84 = .ok (.lload 9, 2) := by decide +kernel
theorem dX1_sweep_86 : decode cX1_sweep 86 = .ok (.aload_n 0, 1) := by decide +kernel
theorem dX1_sweep_87 : decode cX1_sweep 87 = .ok (.getfield 9, 3) := by decide +kernel
theorem dX1_sweep_90 : decode cX1_sweep 90 = .ok (.ldiv, 1) := by decide +kernel
theorem dX1_sweep_91 : decode cX1_sweep 91 = .ok (.invokevirtual 53, 3) := by decide +kernel
theorem dX1_sweep_94 : decode cX1_sweep 94 = .ok (.iinc 8 1, 3) := by decide +kernel
theorem dX1_sweep_97 : decode cX1_sweep 97 = .ok (.goto (-50), 3) := by decide +kernel
theorem dX1_sweep_100 : decode cX1_sweep 100 = .ok (.iinc 5 1, 3) := by decide +kernel
theorem dX1_sweep_103 : decode cX1_sweep 103 = .ok (.goto (-83), 3) := by decide +kernel
theorem dX1_sweep_106 : decode cX1_sweep 106 = .ok (.return_, 1) := by decide +kernel
theorem dX1_isSolvable_0 : decode cX1_isSolvable 0 = .ok (.aload_n 0, 1) := by decide +kernel
theorem dX1_isSolvable_1 : decode cX1_isSolvable 1 = .ok (.getfield 61, 3) := by decide +kernel
theorem dX1_isSolvable_4 : decode cX1_isSolvable 4 = .ok (.istore_n 1, 1) := by decide +kernel
theorem dX1_isSolvable_5 : decode cX1_isSolvable 5 = .ok (.iload_n 1, 1) := by decide +kernel
theorem dX1_isSolvable_6 : decode cX1_isSolvable 6 = .ok (.aload_n 0, 1) := by decide +kernel
theorem dX1_isSolvable_7 : decode cX1_isSolvable 7 = .ok (.getfield 32, 3) := by decide +kernel
theorem dX1_isSolvable_10 : decode cX1_isSolvable 10 = .ok (.if_icmp .ge 25, 3) := by decide +kernel
theorem dX1_isSolvable_13 : decode cX1_isSolvable 13 = .ok (.aload_n 0, 1) := by decide +kernel
theorem dX1_isSolvable_14 : decode cX1_isSolvable 14 = .ok (.iload_n 1, 1) := by decide +kernel
theorem dX1_isSolvable_15 : decode cX1_isSolvable 15 = .ok (.aload_n 0, 1) := by decide +kernel
theorem dX1_isSolvable_16 : decode cX1_isSolvable 16 = .ok (.getfield 36, 3) := by decide +kernel
theorem dX1_isSolvable_19 : decode cX1_isSolvable 19 = .ok (.invokevirtual 49, 3) := by decide +kernel
theorem dX1_isSolvable_22 : decode cX1_isSolvable 22 = .ok (.lconst 0, 1) := by decide +kernel
theorem dX1_isSolvable_23 : decode cX1_isSolvable 23 = .ok (.lcmp, 1) := by decide +kernel
theorem dX1_isSolvable_24 : decode cX1_isSolvable 24 = .ok (.ifCond .eq 5, 3) := by decide +kernel
theorem dX1_isSolvable_27 : decode cX1_isSolvable 27 = .ok (.iconst 0, 1) := by decide +kernel
theorem dX1_isSolvable_28 : decode cX1_isSolvable 28 = .ok (.ireturn, 1) := by decide +kernel
theorem dX1_isSolvable_29 : decode cX1_isSolvable 29 = .ok (.iinc 1 1, 3) := by decide +kernel
theorem dX1_isSolvable_32 : decode cX1_isSolvable 32 = .ok (.goto (-27), 3) := by decide +kernel
theorem dX1_isSolvable_35 : decode cX1_isSolvable 35 = .ok (.iconst 1, 1) := by decide +kernel
theorem dX1_isSolvable_36 : decode cX1_isSolvable 36 = .ok (.ireturn, 1) := by decide +kernel
theorem dX1_isFree_0 : decode cX1_isFree 0 = .ok (.iload_n 1, 1) := by decide +kernel
theorem dX1_isFree_1 : decode cX1_isFree 1 = .ok (.ifCond .lt 30, 3) := by decide +kernel
theorem dX1_isFree_4 : decode cX1_isFree 4 = .ok (.iload_n 1, 1) := by decide +kernel
theorem dX1_isFree_5 : decode cX1_isFree 5 = .ok (.aload_n 0, 1) := by decide +kernel
theorem dX1_isFree_6 : decode cX1_isFree 6 = .ok (.getfield 36, 3) := by decide +kernel
theorem dX1_isFree_9 : decode cX1_isFree 9 = .ok (.if_icmp .ge 22, 3) := by decide +kernel
theorem dX1_isFree_12 : decode cX1_isFree 12 = .ok (.iload_n 1, 1) := by decide +kernel
theorem dX1_isFree_13 : decode cX1_isFree 13 = .ok (.bipush 10, 2) := by decide +kernel
theorem dX1_isFree_15 : decode cX1_isFree 15 = .ok (.if_icmp .ge 16, 3) := by decide +kernel
theorem dX1_isFree_18 : decode cX1_isFree 18 = .ok (.aload_n 0, 1) := by decide +kernel
theorem dX1_isFree_19 : decode cX1_isFree 19 = .ok (.getfield 19, 3) := by decide +kernel
theorem dX1_isFree_22 : decode cX1_isFree 22 = .ok (.iload_n 1, 1) := by decide +kernel
theorem dX1_isFree_23 : decode cX1_isFree 23 = .ok (.iaload, 1) := by decide +kernel
theorem dX1_isFree_24 : decode cX1_isFree 24 = .ok (.ifCond .ge 7, 3) := by decide +kernel
theorem dX1_isFree_27 : decode cX1_isFree 27 = .ok (.iconst 1, 1) := by decide +kernel
theorem dX1_isFree_28 : decode cX1_isFree 28 = .ok (.goto 4, 3) := by decide +kernel
theorem dX1_isFree_31 : decode cX1_isFree 31 = .ok (.iconst 0, 1) := by decide +kernel
theorem dX1_isFree_32 : decode cX1_isFree 32 = .ok (.ireturn, 1) := by decide +kernel
theorem dX1_freeSet_0 : decode cX1_freeSet 0 = .ok (.iconst 0, 1) := by decide +kernel
theorem dX1_freeSet_1 : decode cX1_freeSet 1 = .ok (.istore_n 1, 1) := by decide +kernel
theorem dX1_freeSet_2 : decode cX1_freeSet 2 = .ok (.iconst 0, 1) := by decide +kernel
theorem dX1_freeSet_3 : decode cX1_freeSet 3 = .ok (.istore_n 2, 1) := by decide +kernel
theorem dX1_freeSet_4 : decode cX1_freeSet 4 = .ok (.iload_n 2, 1) := by decide +kernel
theorem dX1_freeSet_5 : decode cX1_freeSet 5 = .ok (.aload_n 0, 1) := by decide +kernel
theorem dX1_freeSet_6 : decode cX1_freeSet 6 = .ok (.getfield 36, 3) := by decide +kernel
theorem dX1_freeSet_9 : decode cX1_freeSet 9 = .ok (.if_icmp .ge 27, 3) := by decide +kernel
theorem dX1_freeSet_12 : decode cX1_freeSet 12 = .ok (.iload_n 1, 1) := by decide +kernel
theorem dX1_freeSet_13 : decode cX1_freeSet 13 = .ok (.aload_n 0, 1) := by decide +kernel
theorem dX1_freeSet_14 : decode cX1_freeSet 14 = .ok (.iload_n 2, 1) := by decide +kernel
theorem dX1_freeSet_15 : decode cX1_freeSet 15 = .ok (.invokevirtual 78, 3) := by decide +kernel
theorem dX1_freeSet_18 : decode cX1_freeSet 18 = .ok (.ifCond .eq 9, 3) := by decide +kernel
theorem dX1_freeSet_21 : decode cX1_freeSet 21 = .ok (.iconst 1, 1) := by decide +kernel
theorem dX1_freeSet_22 : decode cX1_freeSet 22 = .ok (.iload_n 2, 1) := by decide +kernel
theorem dX1_freeSet_23 : decode cX1_freeSet 23 = .ok (.ishl, 1) := by decide +kernel
theorem dX1_freeSet_24 : decode cX1_freeSet 24 = .ok (.goto 4, 3) := by decide +kernel
theorem dX1_freeSet_27 : decode cX1_freeSet 27 = .ok (.iconst 0, 1) := by decide +kernel
theorem dX1_freeSet_28 : decode cX1_freeSet 28 = .ok (.ior, 1) := by decide +kernel
theorem dX1_freeSet_29 : decode cX1_freeSet 29 = .ok (.istore_n 1, 1) := by decide +kernel
theorem dX1_freeSet_30 : decode cX1_freeSet 30 = .ok (.iinc 2 1, 3) := by decide +kernel
theorem dX1_freeSet_33 : decode cX1_freeSet 33 = .ok (.goto (-29), 3) := by decide +kernel
theorem dX1_freeSet_36 : decode cX1_freeSet 36 = .ok (.iload_n 1, 1) := by decide +kernel
theorem dX1_freeSet_37 : decode cX1_freeSet 37 = .ok (.ireturn, 1) := by decide +kernel
theorem dX1_isPivot_0 : decode cX1_isPivot 0 = .ok (.iload_n 1, 1) := by decide +kernel
theorem dX1_isPivot_1 : decode cX1_isPivot 1 = .ok (.ifCond .lt 30, 3) := by decide +kernel
theorem dX1_isPivot_4 : decode cX1_isPivot 4 = .ok (.iload_n 1, 1) := by decide +kernel
theorem dX1_isPivot_5 : decode cX1_isPivot 5 = .ok (.aload_n 0, 1) := by decide +kernel
theorem dX1_isPivot_6 : decode cX1_isPivot 6 = .ok (.getfield 36, 3) := by decide +kernel
theorem dX1_isPivot_9 : decode cX1_isPivot 9 = .ok (.if_icmp .ge 22, 3) := by decide +kernel
theorem dX1_isPivot_12 : decode cX1_isPivot 12 = .ok (.iload_n 1, 1) := by decide +kernel
theorem dX1_isPivot_13 : decode cX1_isPivot 13 = .ok (.bipush 10, 2) := by decide +kernel
theorem dX1_isPivot_15 : decode cX1_isPivot 15 = .ok (.if_icmp .ge 16, 3) := by decide +kernel
theorem dX1_isPivot_18 : decode cX1_isPivot 18 = .ok (.aload_n 0, 1) := by decide +kernel
theorem dX1_isPivot_19 : decode cX1_isPivot 19 = .ok (.getfield 19, 3) := by decide +kernel
theorem dX1_isPivot_22 : decode cX1_isPivot 22 = .ok (.iload_n 1, 1) := by decide +kernel
theorem dX1_isPivot_23 : decode cX1_isPivot 23 = .ok (.iaload, 1) := by decide +kernel
theorem dX1_isPivot_24 : decode cX1_isPivot 24 = .ok (.ifCond .lt 7, 3) := by decide +kernel
theorem dX1_isPivot_27 : decode cX1_isPivot 27 = .ok (.iconst 1, 1) := by decide +kernel
theorem dX1_isPivot_28 : decode cX1_isPivot 28 = .ok (.goto 4, 3) := by decide +kernel
theorem dX1_isPivot_31 : decode cX1_isPivot 31 = .ok (.iconst 0, 1) := by decide +kernel
theorem dX1_isPivot_32 : decode cX1_isPivot 32 = .ok (.ireturn, 1) := by decide +kernel
theorem dX1_solutionAbove_0 : decode cX1_solutionAbove 0 = .ok (.aload_n 0, 1) := by decide +kernel
theorem dX1_solutionAbove_1 : decode cX1_solutionAbove 1 = .ok (.iload_n 1, 1) := by decide +kernel
theorem dX1_solutionAbove_2 : decode cX1_solutionAbove 2 = .ok (.invokevirtual 82, 3) := by decide +kernel
theorem dX1_solutionAbove_5 : decode cX1_solutionAbove 5 = .ok (.ifCond .eq 20, 3) := by decide +kernel
theorem dX1_solutionAbove_8 : decode cX1_solutionAbove 8 = .ok (.aload_n 0, 1) := by decide +kernel
theorem dX1_solutionAbove_9 : decode cX1_solutionAbove 9 = .ok (.aload_n 0, 1) := by decide +kernel
theorem dX1_solutionAbove_10 : decode cX1_solutionAbove 10 = .ok (.getfield 19, 3) := by decide +kernel
theorem dX1_solutionAbove_13 : decode cX1_solutionAbove 13 = .ok (.iload_n 1, 1) := by decide +kernel
theorem dX1_solutionAbove_14 : decode cX1_solutionAbove 14 = .ok (.iaload, 1) := by decide +kernel
theorem dX1_solutionAbove_15 : decode cX1_solutionAbove 15 = .ok (.aload_n 0, 1) := by decide +kernel
theorem dX1_solutionAbove_16 : decode cX1_solutionAbove 16 = .ok (.getfield 36, 3) := by decide +kernel
theorem dX1_solutionAbove_19 : decode cX1_solutionAbove 19 = .ok (.invokevirtual 49, 3) := by decide +kernel
theorem dX1_solutionAbove_22 : decode cX1_solutionAbove 22 = .ok (.goto 4, 3) := by decide +kernel
theorem dX1_solutionAbove_25 : decode cX1_solutionAbove 25 = .ok (.lconst 0, 1) := by decide +kernel
theorem dX1_solutionAbove_26 : decode cX1_solutionAbove 26 = .ok (.lreturn, 1) := by decide +kernel
theorem dX1_baseAbove_0 : decode cX1_baseAbove 0 = .ok (.iload_n 2, 1) := by decide +kernel
theorem dX1_baseAbove_1 : decode cX1_baseAbove 1 = .ok (.iload_n 1, 1) := by decide +kernel
theorem dX1_baseAbove_2 : decode cX1_baseAbove 2 = .ok (.if_icmp .ne 8, 3) := by decide +kernel
theorem dX1_baseAbove_5 : decode cX1_baseAbove 5 = .ok (.aload_n 0, 1) := by decide +kernel
theorem dX1_baseAbove_6 : decode cX1_baseAbove 6 = .ok (.getfield 9, 3) := by decide +kernel
theorem dX1_baseAbove_9 : decode cX1_baseAbove 9 = .ok (.lreturn, 1) := by decide +kernel
theorem dX1_baseAbove_10 : decode cX1_baseAbove 10 = .ok (.aload_n 0, 1) := by decide +kernel
theorem dX1_baseAbove_11 : decode cX1_baseAbove 11 = .ok (.iload_n 2, 1) := by decide +kernel
theorem dX1_baseAbove_12 : decode cX1_baseAbove 12 = .ok (.invokevirtual 82, 3) := by decide +kernel
theorem dX1_baseAbove_15 : decode cX1_baseAbove 15 = .ok (.ifCond .eq 18, 3) := by decide +kernel
theorem dX1_baseAbove_18 : decode cX1_baseAbove 18 = .ok (.aload_n 0, 1) := by decide +kernel
theorem dX1_baseAbove_19 : decode cX1_baseAbove 19 = .ok (.aload_n 0, 1) := by decide +kernel
theorem dX1_baseAbove_20 : decode cX1_baseAbove 20 = .ok (.getfield 19, 3) := by decide +kernel
theorem dX1_baseAbove_23 : decode cX1_baseAbove 23 = .ok (.iload_n 2, 1) := by decide +kernel
theorem dX1_baseAbove_24 : decode cX1_baseAbove 24 = .ok (.iaload, 1) := by decide +kernel
theorem dX1_baseAbove_25 : decode cX1_baseAbove 25 = .ok (.iload_n 1, 1) := by decide +kernel
theorem dX1_baseAbove_26 : decode cX1_baseAbove 26 = .ok (.invokevirtual 49, 3) := by decide +kernel
theorem dX1_baseAbove_29 : decode cX1_baseAbove 29 = .ok (.lneg, 1) := by decide +kernel
theorem dX1_baseAbove_30 : decode cX1_baseAbove 30 = .ok (.goto 4, 3) := by decide +kernel
theorem dX1_baseAbove_33 : decode cX1_baseAbove 33 = .ok (.lconst 0, 1) := by decide +kernel
theorem dX1_baseAbove_34 : decode cX1_baseAbove 34 = .ok (.lreturn, 1) := by decide +kernel
theorem dX1_determinant_0 : decode cX1_determinant 0 = .ok (.aload_n 0, 1) := by decide +kernel
theorem dX1_determinant_1 : decode cX1_determinant 1 = .ok (.getfield 61, 3) := by decide +kernel
theorem dX1_determinant_4 : decode cX1_determinant 4 = .ok (.aload_n 0, 1) := by decide +kernel
theorem dX1_determinant_5 : decode cX1_determinant 5 = .ok (.getfield 36, 3) := by decide +kernel
theorem dX1_determinant_8 : decode cX1_determinant 8 = .ok (.if_icmp .ge 5, 3) := by decide +kernel
theorem dX1_determinant_11 : decode cX1_determinant 11 = .ok (.lconst 0, 1) := by decide +kernel
theorem dX1_determinant_12 : decode cX1_determinant 12 = .ok (.lreturn, 1) := by decide +kernel
theorem dX1_determinant_13 : decode cX1_determinant 13 = .ok (.aload_n 0, 1) := by decide +kernel
theorem dX1_determinant_14 : decode cX1_determinant 14 = .ok (.getfield 64, 3) := by decide +kernel
theorem dX1_determinant_17 : decode cX1_determinant 17 = .ok (.ifCond .eq 11, 3) := by decide +kernel
theorem dX1_determinant_20 : decode cX1_determinant 20 = .ok (.aload_n 0, 1) := by decide +kernel
theorem dX1_determinant_21 : decode cX1_determinant 21 = .ok (.getfield 9, 3) := by decide +kernel
theorem dX1_determinant_24 : decode cX1_determinant 24 = .ok (.lneg, 1) := by decide +kernel
theorem dX1_determinant_25 : decode cX1_determinant 25 = .ok (.goto 7, 3) := by decide +kernel
theorem dX1_determinant_28 : decode cX1_determinant 28 = .ok (.aload_n 0, 1) := by decide +kernel
theorem dX1_determinant_29 : decode cX1_determinant 29 = .ok (.getfield 9, 3) := by decide +kernel
theorem dX1_determinant_32 : decode cX1_determinant 32 = .ok (.lreturn, 1) := by decide +kernel
theorem dX2_init_0 : decode cX2_init 0 = .ok (.aload_n 0, 1) := by decide +kernel
theorem dX2_init_1 : decode cX2_init 1 = .ok (.invokespecial 3, 3) := by decide +kernel
theorem dX2_init_4 : decode cX2_init 4 = .ok (.aload_n 0, 1) := by decide +kernel
theorem dX2_init_5 : decode cX2_init 5 = .ok (.iconst (-1), 1) := by decide +kernel
theorem dX2_init_6 : decode cX2_init 6 = .ok (.putfield 9, 3) := by decide +kernel
theorem dX2_init_9 : decode cX2_init 9 = .ok (.aload_n 0, 1) := by decide +kernel
theorem dX2_init_10 : decode cX2_init 10 = .ok (.bipush 40, 2) := by decide +kernel
theorem dX2_init_12 : decode cX2_init 12 = .ok (.newarray .long, 2) := by decide +kernel
theorem dX2_init_14 : decode cX2_init 14 = .ok (.putfield 15, 3) := by decide +kernel
theorem dX2_init_17 : decode cX2_init 17 = .ok (.return_, 1) := by decide +kernel
theorem dX2_renew_0 : decode cX2_renew 0 = .ok (.aload_n 0, 1) := by decide +kernel
theorem dX2_renew_1 : decode cX2_renew 1 = .ok (.iload_n 1, 1) := by decide +kernel
theorem dX2_renew_2 : decode cX2_renew 2 = .ok (.putfield 9, 3) := by decide +kernel
theorem dX2_renew_5 : decode cX2_renew 5 = .ok (.aload_n 0, 1) := by decide +kernel
theorem dX2_renew_6 : decode cX2_renew 6 = .ok (.iconst 0, 1) := by decide +kernel
theorem dX2_renew_7 : decode cX2_renew 7 = .ok (.iload_n 2, 1) := by decide +kernel
theorem dX2_renew_8 : decode cX2_renew 8 = .ok (.bipush 40, 2) := by decide +kernel
theorem dX2_renew_10 : decode cX2_renew 10 = .ok (.invokestatic 19, 3) := by decide +kernel
theorem dX2_renew_13 : decode cX2_renew 13 = .ok (.invokestatic 25, 3) := by decide +kernel
theorem dX2_renew_16 : decode cX2_renew 16 = .ok (.putfield 28, 3) := by decide +kernel
theorem dX2_renew_19 : decode cX2_renew 19 = .ok (.aload_n 0, 1) := by decide +kernel
theorem dX2_renew_20 : decode cX2_renew 20 = .ok (.getfield 15, 3) := by decide +kernel
theorem dX2_renew_23 : decode cX2_renew 23 = .ok (.lconst 0, 1) := by decide +kernel
theorem dX2_renew_24 : decode cX2_renew 24 = .ok (.invokestatic 31, 3) := by decide +kernel
theorem dX2_renew_27 : decode cX2_renew 27 = .ok (.return_, 1) := by decide +kernel
theorem dX2_read_0 : decode cX2_read 0 = .ok (.iload_n 1, 1) := by decide +kernel
theorem dX2_read_1 : decode cX2_read 1 = .ok (.ifCond .lt 26, 3) := by decide +kernel
theorem dX2_read_4 : decode cX2_read 4 = .ok (.iload_n 1, 1) := by decide +kernel
theorem dX2_read_5 : decode cX2_read 5 = .ok (.aload_n 0, 1) := by decide +kernel
theorem dX2_read_6 : decode cX2_read 6 = .ok (.getfield 28, 3) := by decide +kernel
theorem dX2_read_9 : decode cX2_read 9 = .ok (.if_icmp .ge 18, 3) := by decide +kernel
theorem dX2_read_12 : decode cX2_read 12 = .ok (.iload_n 1, 1) := by decide +kernel
theorem dX2_read_13 : decode cX2_read 13 = .ok (.bipush 40, 2) := by decide +kernel
theorem dX2_read_15 : decode cX2_read 15 = .ok (.if_icmp .ge 12, 3) := by decide +kernel
theorem dX2_read_18 : decode cX2_read 18 = .ok (.aload_n 0, 1) := by decide +kernel
theorem dX2_read_19 : decode cX2_read 19 = .ok (.getfield 15, 3) := by decide +kernel
theorem dX2_read_22 : decode cX2_read 22 = .ok (.iload_n 1, 1) := by decide +kernel
theorem dX2_read_23 : decode cX2_read 23 = .ok (.laload, 1) := by decide +kernel
theorem dX2_read_24 : decode cX2_read 24 = .ok (.goto 4, 3) := by decide +kernel
theorem dX2_read_27 : decode cX2_read 27 = .ok (.lconst 0, 1) := by decide +kernel
theorem dX2_read_28 : decode cX2_read 28 = .ok (.lreturn, 1) := by decide +kernel
theorem dX2_write_0 : decode cX2_write 0 = .ok (.iload_n 1, 1) := by decide +kernel
theorem dX2_write_1 : decode cX2_write 1 = .ok (.ifCond .lt 28, 3) := by decide +kernel
theorem dX2_write_4 : decode cX2_write 4 = .ok (.iload_n 1, 1) := by decide +kernel
theorem dX2_write_5 : decode cX2_write 5 = .ok (.aload_n 0, 1) := by decide +kernel
theorem dX2_write_6 : decode cX2_write 6 = .ok (.getfield 28, 3) := by decide +kernel
theorem dX2_write_9 : decode cX2_write 9 = .ok (.if_icmp .ge 20, 3) := by decide +kernel
theorem dX2_write_12 : decode cX2_write 12 = .ok (.iload_n 1, 1) := by decide +kernel
theorem dX2_write_13 : decode cX2_write 13 = .ok (.bipush 40, 2) := by decide +kernel
theorem dX2_write_15 : decode cX2_write 15 = .ok (.if_icmp .ge 14, 3) := by decide +kernel
theorem dX2_write_18 : decode cX2_write 18 = .ok (.aload_n 0, 1) := by decide +kernel
theorem dX2_write_19 : decode cX2_write 19 = .ok (.getfield 15, 3) := by decide +kernel
theorem dX2_write_22 : decode cX2_write 22 = .ok (.iload_n 1, 1) := by decide +kernel
theorem dX2_write_23 : decode cX2_write 23 = .ok (.aload_n 0, 1) := by decide +kernel
theorem dX2_write_24 : decode cX2_write 24 = .ok (.lload_n 2, 1) := by decide +kernel
theorem dX2_write_25 : decode cX2_write 25 = .ok (.invokevirtual 37, 3) := by decide +kernel
theorem dX2_write_28 : decode cX2_write 28 = .ok (.lastore, 1) := by decide +kernel
theorem dX2_write_29 : decode cX2_write 29 = .ok (.return_, 1) := by decide +kernel
theorem dX2_narrowed_0 : decode cX2_narrowed 0 = .ok (.aload_n 0, 1) := by decide +kernel
theorem dX2_narrowed_1 : decode cX2_narrowed 1 = .ok (.getfield 9, 3) := by decide +kernel
theorem dX2_narrowed_4 : decode cX2_narrowed 4 = .ok (.tableswitch 42 0 2 #[28, 33, 38], 28) := by decide +kernel
theorem dX2_narrowed_32 : decode cX2_narrowed 32 = .ok (.lload_n 1, 1) := by decide +kernel
theorem dX2_narrowed_33 : decode cX2_narrowed 33 = .ok (.l2i, 1) := by decide +kernel
theorem dX2_narrowed_34 : decode cX2_narrowed 34 = .ok (.i2b, 1) := by decide +kernel
theorem dX2_narrowed_35 : decode cX2_narrowed 35 = .ok (.i2l, 1) := by decide +kernel
theorem dX2_narrowed_36 : decode cX2_narrowed 36 = .ok (.lreturn, 1) := by decide +kernel
theorem dX2_narrowed_37 : decode cX2_narrowed 37 = .ok (.lload_n 1, 1) := by decide +kernel
theorem dX2_narrowed_38 : decode cX2_narrowed 38 = .ok (.l2i, 1) := by decide +kernel
theorem dX2_narrowed_39 : decode cX2_narrowed 39 = .ok (.i2s, 1) := by decide +kernel
theorem dX2_narrowed_40 : decode cX2_narrowed 40 = .ok (.i2l, 1) := by decide +kernel
theorem dX2_narrowed_41 : decode cX2_narrowed 41 = .ok (.lreturn, 1) := by decide +kernel
theorem dX2_narrowed_42 : decode cX2_narrowed 42 = .ok (.lload_n 1, 1) := by decide +kernel
theorem dX2_narrowed_43 : decode cX2_narrowed 43 = .ok (.l2i, 1) := by decide +kernel
theorem dX2_narrowed_44 : decode cX2_narrowed 44 = .ok (.i2l, 1) := by decide +kernel
theorem dX2_narrowed_45 : decode cX2_narrowed 45 = .ok (.lreturn, 1) := by decide +kernel
theorem dX2_narrowed_46 : decode cX2_narrowed 46 = .ok (.lload_n 1, 1) := by decide +kernel
theorem dX2_narrowed_47 : decode cX2_narrowed 47 = .ok (.lreturn, 1) := by decide +kernel
theorem dX2_hasStretch_0 : decode cX2_hasStretch 0 = .ok (.iload_n 2, 1) := by decide +kernel
theorem dX2_hasStretch_1 : decode cX2_hasStretch 1 = .ok (.ifCond .lt 29, 3) := by decide +kernel
theorem dX2_hasStretch_4 : decode cX2_hasStretch 4 = .ok (.iload_n 2, 1) := by decide +kernel
theorem dX2_hasStretch_5 : decode cX2_hasStretch 5 = .ok (.aload_n 0, 1) := by decide +kernel
theorem dX2_hasStretch_6 : decode cX2_hasStretch 6 = .ok (.getfield 28, 3) := by decide +kernel
theorem dX2_hasStretch_9 : decode cX2_hasStretch 9 = .ok (.if_icmp .gt 21, 3) := by decide +kernel
theorem dX2_hasStretch_12 : decode cX2_hasStretch 12 = .ok (.iload_n 1, 1) := by decide +kernel
theorem dX2_hasStretch_13 : decode cX2_hasStretch 13 = .ok (.ifCond .lt 17, 3) := by decide +kernel
theorem dX2_hasStretch_16 : decode cX2_hasStretch 16 = .ok (.iload_n 1, 1) := by decide +kernel
theorem dX2_hasStretch_17 : decode cX2_hasStretch 17 = .ok (.aload_n 0, 1) := by decide +kernel
theorem dX2_hasStretch_18 : decode cX2_hasStretch 18 = .ok (.getfield 28, 3) := by decide +kernel
theorem dX2_hasStretch_21 : decode cX2_hasStretch 21 = .ok (.iload_n 2, 1) := by decide +kernel
theorem dX2_hasStretch_22 : decode cX2_hasStretch 22 = .ok (.isub, 1) := by decide +kernel
theorem dX2_hasStretch_23 : decode cX2_hasStretch 23 = .ok (.if_icmp .gt 7, 3) := by decide +kernel
theorem dX2_hasStretch_26 : decode cX2_hasStretch 26 = .ok (.iconst 1, 1) := by decide +kernel
theorem dX2_hasStretch_27 : decode cX2_hasStretch 27 = .ok (.goto 4, 3) := by decide +kernel
theorem dX2_hasStretch_30 : decode cX2_hasStretch 30 = .ok (.iconst 0, 1) := by decide +kernel
theorem dX2_hasStretch_31 : decode cX2_hasStretch 31 = .ok (.ireturn, 1) := by decide +kernel
theorem dX3_init_0 : decode cX3_init 0 = .ok (.aload_n 0, 1) := by decide +kernel
theorem dX3_init_1 : decode cX3_init 1 = .ok (.invokespecial 3, 3) := by decide +kernel
theorem dX3_init_4 : decode cX3_init 4 = .ok (.aload_n 0, 1) := by decide +kernel
theorem dX3_init_5 : decode cX3_init 5 = .ok (.iconst 2, 1) := by decide +kernel
theorem dX3_init_6 : decode cX3_init 6 = .ok (.putfield 9, 3) := by decide +kernel
theorem dX3_init_9 : decode cX3_init 9 = .ok (.return_, 1) := by decide +kernel
theorem dX3_hold_0 : decode cX3_hold 0 = .ok (.aload_n 0, 1) := by decide +kernel
theorem dX3_hold_1 : decode cX3_hold 1 = .ok (.iload_n 1, 1) := by decide +kernel
theorem dX3_hold_2 : decode cX3_hold 2 = .ok (.putfield 9, 3) := by decide +kernel
theorem dX3_hold_5 : decode cX3_hold 5 = .ok (.aload_n 0, 1) := by decide +kernel
theorem dX3_hold_6 : decode cX3_hold 6 = .ok (.iload_n 2, 1) := by decide +kernel
theorem dX3_hold_7 : decode cX3_hold 7 = .ok (.putfield 15, 3) := by decide +kernel
theorem dX3_hold_10 : decode cX3_hold 10 = .ok (.aload_n 0, 1) := by decide +kernel
theorem dX3_hold_11 : decode cX3_hold 11 = .ok (.iload_n 3, 1) := by decide +kernel
theorem dX3_hold_12 : decode cX3_hold 12 = .ok (.putfield 18, 3) := by decide +kernel
theorem dX3_hold_15 : decode cX3_hold 15 = .ok (.return_, 1) := by decide +kernel
theorem dX4_init_0 : decode cX4_init 0 = .ok (.aload_n 0, 1) := by decide +kernel
theorem dX4_init_1 : decode cX4_init 1 = .ok (.invokespecial 3, 3) := by decide +kernel
theorem dX4_init_4 : decode cX4_init 4 = .ok (.aload_n 0, 1) := by decide +kernel
theorem dX4_init_5 : decode cX4_init 5 = .ok (.iconst 2, 1) := by decide +kernel
theorem dX4_init_6 : decode cX4_init 6 = .ok (.putfield 9, 3) := by decide +kernel
theorem dX4_init_9 : decode cX4_init 9 = .ok (.aload_n 0, 1) := by decide +kernel
theorem dX4_init_10 : decode cX4_init 10 = .ok (.iconst 2, 1) := by decide +kernel
theorem dX4_init_11 : decode cX4_init 11 = .ok (.putfield 15, 3) := by decide +kernel
theorem dX4_init_14 : decode cX4_init 14 = .ok (.aload_n 0, 1) := by decide +kernel
theorem dX4_init_15 : decode cX4_init 15 = .ok (.iconst 1, 1) := by decide +kernel
theorem dX4_init_16 : decode cX4_init 16 = .ok (.putfield 18, 3) := by decide +kernel
theorem dX4_init_19 : decode cX4_init 19 = .ok (.aload_n 0, 1) := by decide +kernel
theorem dX4_init_20 : decode cX4_init 20 = .ok (.bipush 9, 2) := by decide +kernel
theorem dX4_init_22 : decode cX4_init 22 = .ok (.newarray .int, 2) := by decide +kernel
theorem dX4_init_24 : decode cX4_init 24 = .ok (.putfield 21, 3) := by decide +kernel
theorem dX4_init_27 : decode cX4_init 27 = .ok (.aload_n 0, 1) := by decide +kernel
theorem dX4_init_28 : decode cX4_init 28 = .ok (.bipush 9, 2) := by decide +kernel
theorem dX4_init_30 : decode cX4_init 30 = .ok (.newarray .int, 2) := by decide +kernel
theorem dX4_init_32 : decode cX4_init 32 = .ok (.putfield 25, 3) := by decide +kernel
theorem dX4_init_35 : decode cX4_init 35 = .ok (.aload_n 0, 1) := by decide +kernel
theorem dX4_init_36 : decode cX4_init 36 = .ok (.bipush 9, 2) := by decide +kernel
theorem dX4_init_38 : decode cX4_init 38 = .ok (.newarray .int, 2) := by decide +kernel
theorem dX4_init_40 : decode cX4_init 40 = .ok (.putfield 28, 3) := by decide +kernel
theorem dX4_init_43 : decode cX4_init 43 = .ok (.aload_n 0, 1) := by decide +kernel
theorem dX4_init_44 : decode cX4_init 44 = .ok (.bipush 6, 2) := by decide +kernel
theorem dX4_init_46 : decode cX4_init 46 = .ok (.newarray .int, 2) := by decide +kernel
theorem dX4_init_48 : decode cX4_init 48 = .ok (.putfield 31, 3) := by decide +kernel
theorem dX4_init_51 : decode cX4_init 51 = .ok (.aload_n 0, 1) := by decide +kernel
theorem dX4_init_52 : decode cX4_init 52 = .ok (.bipush 6, 2) := by decide +kernel
theorem dX4_init_54 : decode cX4_init 54 = .ok (.newarray .int, 2) := by decide +kernel
theorem dX4_init_56 : decode cX4_init 56 = .ok (.putfield 34, 3) := by decide +kernel
theorem dX4_init_59 : decode cX4_init 59 = .ok (.return_, 1) := by decide +kernel
theorem dX4_copyFrom_0 : decode cX4_copyFrom 0 = .ok (.aload_n 0, 1) := by decide +kernel
theorem dX4_copyFrom_1 : decode cX4_copyFrom 1 = .ok (.aload_n 1, 1) := by decide +kernel
theorem dX4_copyFrom_2 : decode cX4_copyFrom 2 = .ok (.getfield 9, 3) := by decide +kernel
theorem dX4_copyFrom_5 : decode cX4_copyFrom 5 = .ok (.putfield 9, 3) := by decide +kernel
theorem dX4_copyFrom_8 : decode cX4_copyFrom 8 = .ok (.aload_n 0, 1) := by decide +kernel
theorem dX4_copyFrom_9 : decode cX4_copyFrom 9 = .ok (.aload_n 1, 1) := by decide +kernel
theorem dX4_copyFrom_10 : decode cX4_copyFrom 10 = .ok (.getfield 15, 3) := by decide +kernel
theorem dX4_copyFrom_13 : decode cX4_copyFrom 13 = .ok (.putfield 15, 3) := by decide +kernel
theorem dX4_copyFrom_16 : decode cX4_copyFrom 16 = .ok (.aload_n 0, 1) := by decide +kernel
theorem dX4_copyFrom_17 : decode cX4_copyFrom 17 = .ok (.aload_n 1, 1) := by decide +kernel
theorem dX4_copyFrom_18 : decode cX4_copyFrom 18 = .ok (.getfield 18, 3) := by decide +kernel
theorem dX4_copyFrom_21 : decode cX4_copyFrom 21 = .ok (.putfield 18, 3) := by decide +kernel
theorem dX4_copyFrom_24 : decode cX4_copyFrom 24 = .ok (.aload_n 0, 1) := by decide +kernel
theorem dX4_copyFrom_25 : decode cX4_copyFrom 25 = .ok (.aload_n 1, 1) := by decide +kernel
theorem dX4_copyFrom_26 : decode cX4_copyFrom 26 = .ok (.getfield 37, 3) := by decide +kernel
theorem dX4_copyFrom_29 : decode cX4_copyFrom 29 = .ok (.putfield 37, 3) := by decide +kernel
theorem dX4_copyFrom_32 : decode cX4_copyFrom 32 = .ok (.aload_n 1, 1) := by decide +kernel
theorem dX4_copyFrom_33 : decode cX4_copyFrom 33 = .ok (.getfield 21, 3) := by decide +kernel
theorem dX4_copyFrom_36 : decode cX4_copyFrom 36 = .ok (.iconst 0, 1) := by decide +kernel
theorem dX4_copyFrom_37 : decode cX4_copyFrom 37 = .ok (.aload_n 0, 1) := by decide +kernel
theorem dX4_copyFrom_38 : decode cX4_copyFrom 38 = .ok (.getfield 21, 3) := by decide +kernel
theorem dX4_copyFrom_41 : decode cX4_copyFrom 41 = .ok (.iconst 0, 1) := by decide +kernel
theorem dX4_copyFrom_42 : decode cX4_copyFrom 42 = .ok (.bipush 9, 2) := by decide +kernel
theorem dX4_copyFrom_44 : decode cX4_copyFrom 44 = .ok (.invokestatic 40, 3) := by decide +kernel
theorem dX4_copyFrom_47 : decode cX4_copyFrom 47 = .ok (.aload_n 1, 1) := by decide +kernel
theorem dX4_copyFrom_48 : decode cX4_copyFrom 48 = .ok (.getfield 25, 3) := by decide +kernel
theorem dX4_copyFrom_51 : decode cX4_copyFrom 51 = .ok (.iconst 0, 1) := by decide +kernel
theorem dX4_copyFrom_52 : decode cX4_copyFrom 52 = .ok (.aload_n 0, 1) := by decide +kernel
theorem dX4_copyFrom_53 : decode cX4_copyFrom 53 = .ok (.getfield 25, 3) := by decide +kernel
theorem dX4_copyFrom_56 : decode cX4_copyFrom 56 = .ok (.iconst 0, 1) := by decide +kernel
theorem dX4_copyFrom_57 : decode cX4_copyFrom 57 = .ok (.bipush 9, 2) := by decide +kernel
theorem dX4_copyFrom_59 : decode cX4_copyFrom 59 = .ok (.invokestatic 40, 3) := by decide +kernel
theorem dX4_copyFrom_62 : decode cX4_copyFrom 62 = .ok (.aload_n 1, 1) := by decide +kernel
theorem dX4_copyFrom_63 : decode cX4_copyFrom 63 = .ok (.getfield 28, 3) := by decide +kernel
theorem dX4_copyFrom_66 : decode cX4_copyFrom 66 = .ok (.iconst 0, 1) := by decide +kernel
theorem dX4_copyFrom_67 : decode cX4_copyFrom 67 = .ok (.aload_n 0, 1) := by decide +kernel
theorem dX4_copyFrom_68 : decode cX4_copyFrom 68 = .ok (.getfield 28, 3) := by decide +kernel
theorem dX4_copyFrom_71 : decode cX4_copyFrom 71 = .ok (.iconst 0, 1) := by decide +kernel
theorem dX4_copyFrom_72 : decode cX4_copyFrom 72 = .ok (.bipush 9, 2) := by decide +kernel
theorem dX4_copyFrom_74 : decode cX4_copyFrom 74 = .ok (.invokestatic 40, 3) := by decide +kernel
theorem dX4_copyFrom_77 : decode cX4_copyFrom 77 = .ok (.aload_n 1, 1) := by decide +kernel
theorem dX4_copyFrom_78 : decode cX4_copyFrom 78 = .ok (.getfield 31, 3) := by decide +kernel
theorem dX4_copyFrom_81 : decode cX4_copyFrom 81 = .ok (.iconst 0, 1) := by decide +kernel
theorem dX4_copyFrom_82 : decode cX4_copyFrom 82 = .ok (.aload_n 0, 1) := by decide +kernel
theorem dX4_copyFrom_83 : decode cX4_copyFrom 83 = .ok (.getfield 31, 3) := by decide +kernel
theorem dX4_copyFrom_86 : decode cX4_copyFrom 86 = .ok (.iconst 0, 1) := by decide +kernel
theorem dX4_copyFrom_87 : decode cX4_copyFrom 87 = .ok (.bipush 6, 2) := by decide +kernel
theorem dX4_copyFrom_89 : decode cX4_copyFrom 89 = .ok (.invokestatic 40, 3) := by decide +kernel
theorem dX4_copyFrom_92 : decode cX4_copyFrom 92 = .ok (.aload_n 1, 1) := by decide +kernel
theorem dX4_copyFrom_93 : decode cX4_copyFrom 93 = .ok (.getfield 34, 3) := by decide +kernel
theorem dX4_copyFrom_96 : decode cX4_copyFrom 96 = .ok (.iconst 0, 1) := by decide +kernel
theorem dX4_copyFrom_97 : decode cX4_copyFrom 97 = .ok (.aload_n 0, 1) := by decide +kernel
theorem dX4_copyFrom_98 : decode cX4_copyFrom 98 = .ok (.getfield 34, 3) := by decide +kernel
theorem dX4_copyFrom_101 : decode cX4_copyFrom 101 = .ok (.iconst 0, 1) := by decide +kernel
theorem dX4_copyFrom_102 : decode cX4_copyFrom 102 = .ok (.bipush 6, 2) := by decide +kernel
theorem dX4_copyFrom_104 : decode cX4_copyFrom 104 = .ok (.invokestatic 40, 3) := by decide +kernel
theorem dX4_copyFrom_107 : decode cX4_copyFrom 107 = .ok (.return_, 1) := by decide +kernel
theorem dX4_resize_0 : decode cX4_resize 0 = .ok (.aload_n 0, 1) := by decide +kernel
theorem dX4_resize_1 : decode cX4_resize 1 = .ok (.iload_n 1, 1) := by decide +kernel
theorem dX4_resize_2 : decode cX4_resize 2 = .ok (.putfield 9, 3) := by decide +kernel
theorem dX4_resize_5 : decode cX4_resize 5 = .ok (.aload_n 0, 1) := by decide +kernel
theorem dX4_resize_6 : decode cX4_resize 6 = .ok (.iload_n 2, 1) := by decide +kernel
theorem dX4_resize_7 : decode cX4_resize 7 = .ok (.putfield 15, 3) := by decide +kernel
theorem dX4_resize_10 : decode cX4_resize 10 = .ok (.aload_n 0, 1) := by decide +kernel
theorem dX4_resize_11 : decode cX4_resize 11 = .ok (.getfield 21, 3) := by decide +kernel
theorem dX4_resize_14 : decode cX4_resize 14 = .ok (.iconst 0, 1) := by decide +kernel
theorem dX4_resize_15 : decode cX4_resize 15 = .ok (.invokestatic 46, 3) := by decide +kernel
theorem dX4_resize_18 : decode cX4_resize 18 = .ok (.aload_n 0, 1) := by decide +kernel
theorem dX4_resize_19 : decode cX4_resize 19 = .ok (.getfield 25, 3) := by decide +kernel
theorem dX4_resize_22 : decode cX4_resize 22 = .ok (.iconst 0, 1) := by decide +kernel
theorem dX4_resize_23 : decode cX4_resize 23 = .ok (.invokestatic 46, 3) := by decide +kernel
theorem dX4_resize_26 : decode cX4_resize 26 = .ok (.aload_n 0, 1) := by decide +kernel
theorem dX4_resize_27 : decode cX4_resize 27 = .ok (.getfield 28, 3) := by decide +kernel
theorem dX4_resize_30 : decode cX4_resize 30 = .ok (.iconst 0, 1) := by decide +kernel
theorem dX4_resize_31 : decode cX4_resize 31 = .ok (.invokestatic 46, 3) := by decide +kernel
theorem dX4_resize_34 : decode cX4_resize 34 = .ok (.return_, 1) := by decide +kernel
theorem dX4_rows_0 : decode cX4_rows 0 = .ok (.iload_n 1, 1) := by decide +kernel
theorem dX4_rows_1 : decode cX4_rows 1 = .ok (.iconst 1, 1) := by decide +kernel
theorem dX4_rows_2 : decode cX4_rows 2 = .ok (.if_icmp .ne 10, 3) := by decide +kernel
theorem dX4_rows_5 : decode cX4_rows 5 = .ok (.aload_n 0, 1) := by decide +kernel
theorem dX4_rows_6 : decode cX4_rows 6 = .ok (.getfield 15, 3) := by decide +kernel
theorem dX4_rows_9 : decode cX4_rows 9 = .ok (.goto 7, 3) := by decide +kernel
theorem dX4_rows_12 : decode cX4_rows 12 = .ok (.aload_n 0, 1) := by decide +kernel
theorem dX4_rows_13 : decode cX4_rows 13 = .ok (.getfield 9, 3) := by decide +kernel
theorem dX4_rows_16 : decode cX4_rows 16 = .ok (.ireturn, 1) := by decide +kernel
theorem dX4_columns_0 : decode cX4_columns 0 = .ok (.iload_n 1, 1) := by decide +kernel
theorem dX4_columns_1 : decode cX4_columns 1 = .ok (.ifCond .ne 10, 3) := by decide +kernel
theorem dX4_columns_4 : decode cX4_columns 4 = .ok (.aload_n 0, 1) := by decide +kernel
theorem dX4_columns_5 : decode cX4_columns 5 = .ok (.getfield 9, 3) := by decide +kernel
theorem dX4_columns_8 : decode cX4_columns 8 = .ok (.goto 7, 3) := by decide +kernel
theorem dX4_columns_11 : decode cX4_columns 11 = .ok (.aload_n 0, 1) := by decide +kernel
theorem dX4_columns_12 : decode cX4_columns 12 = .ok (.getfield 15, 3) := by decide +kernel
theorem dX4_columns_15 : decode cX4_columns 15 = .ok (.ireturn, 1) := by decide +kernel
theorem dX4_hasEntry_0 : decode cX4_hasEntry 0 = .ok (.iload_n 1, 1) := by decide +kernel
theorem dX4_hasEntry_1 : decode cX4_hasEntry 1 = .ok (.ifCond .lt 38, 3) := by decide +kernel
theorem dX4_hasEntry_4 : decode cX4_hasEntry 4 = .ok (.iload_n 1, 1) := by decide +kernel
theorem dX4_hasEntry_5 : decode cX4_hasEntry 5 = .ok (.iconst 2, 1) := by decide +kernel
theorem dX4_hasEntry_6 : decode cX4_hasEntry 6 = .ok (.if_icmp .gt 33, 3) := by decide +kernel
theorem dX4_hasEntry_9 : decode cX4_hasEntry 9 = .ok (.iload_n 2, 1) := by decide +kernel
theorem dX4_hasEntry_10 : decode cX4_hasEntry 10 = .ok (.ifCond .lt 29, 3) := by decide +kernel
theorem dX4_hasEntry_13 : decode cX4_hasEntry 13 = .ok (.iload_n 2, 1) := by decide +kernel
theorem dX4_hasEntry_14 : decode cX4_hasEntry 14 = .ok (.aload_n 0, 1) := by decide +kernel
theorem dX4_hasEntry_15 : decode cX4_hasEntry 15 = .ok (.iload_n 1, 1) := by decide +kernel
theorem dX4_hasEntry_16 : decode cX4_hasEntry 16 = .ok (.invokevirtual 52, 3) := by decide +kernel
theorem dX4_hasEntry_19 : decode cX4_hasEntry 19 = .ok (.if_icmp .ge 20, 3) := by decide +kernel
theorem dX4_hasEntry_22 : decode cX4_hasEntry 22 = .ok (.iload_n 3, 1) := by decide +kernel
theorem dX4_hasEntry_23 : decode cX4_hasEntry 23 = .ok (.ifCond .lt 16, 3) := by decide +kernel
theorem dX4_hasEntry_26 : decode cX4_hasEntry 26 = .ok (.iload_n 3, 1) := by decide +kernel
theorem dX4_hasEntry_27 : decode cX4_hasEntry 27 = .ok (.aload_n 0, 1) := by decide +kernel
theorem dX4_hasEntry_28 : decode cX4_hasEntry 28 = .ok (.iload_n 1, 1) := by decide +kernel
theorem dX4_hasEntry_29 : decode cX4_hasEntry 29 = .ok (.invokevirtual 56, 3) := by decide +kernel
theorem dX4_hasEntry_32 : decode cX4_hasEntry 32 = .ok (.if_icmp .ge 7, 3) := by decide +kernel
theorem dX4_hasEntry_35 : decode cX4_hasEntry 35 = .ok (.iconst 1, 1) := by decide +kernel
theorem dX4_hasEntry_36 : decode cX4_hasEntry 36 = .ok (.goto 4, 3) := by decide +kernel
theorem dX4_hasEntry_39 : decode cX4_hasEntry 39 = .ok (.iconst 0, 1) := by decide +kernel
theorem dX4_hasEntry_40 : decode cX4_hasEntry 40 = .ok (.ireturn, 1) := by decide +kernel
theorem dX4_isRoom_0 : decode cX4_isRoom 0 = .ok (.iload_n 0, 1) := by decide +kernel
theorem dX4_isRoom_1 : decode cX4_isRoom 1 = .ok (.ifCond .lt 21, 3) := by decide +kernel
theorem dX4_isRoom_4 : decode cX4_isRoom 4 = .ok (.iload_n 0, 1) := by decide +kernel
theorem dX4_isRoom_5 : decode cX4_isRoom 5 = .ok (.iconst 3, 1) := by decide +kernel
theorem dX4_isRoom_6 : decode cX4_isRoom 6 = .ok (.if_icmp .ge 16, 3) := by decide +kernel
theorem dX4_isRoom_9 : decode cX4_isRoom 9 = .ok (.iload_n 1, 1) := by decide +kernel
theorem dX4_isRoom_10 : decode cX4_isRoom 10 = .ok (.ifCond .lt 12, 3) := by decide +kernel
theorem dX4_isRoom_13 : decode cX4_isRoom 13 = .ok (.iload_n 1, 1) := by decide +kernel
theorem dX4_isRoom_14 : decode cX4_isRoom 14 = .ok (.iconst 3, 1) := by decide +kernel
theorem dX4_isRoom_15 : decode cX4_isRoom 15 = .ok (.if_icmp .ge 7, 3) := by decide +kernel
theorem dX4_isRoom_18 : decode cX4_isRoom 18 = .ok (.iconst 1, 1) := by decide +kernel
theorem dX4_isRoom_19 : decode cX4_isRoom 19 = .ok (.goto 4, 3) := by decide +kernel
theorem dX4_isRoom_22 : decode cX4_isRoom 22 = .ok (.iconst 0, 1) := by decide +kernel
theorem dX4_isRoom_23 : decode cX4_isRoom 23 = .ok (.ireturn, 1) := by decide +kernel
theorem dX4_entry_0 : decode cX4_entry 0 = .ok (.iload_n 1, 1) := by decide +kernel
theorem dX4_entry_1 : decode cX4_entry 1 = .ok (.ifCond .ne 10, 3) := by decide +kernel
theorem dX4_entry_4 : decode cX4_entry 4 = .ok (.aload_n 0, 1) := by decide +kernel
theorem dX4_entry_5 : decode cX4_entry 5 = .ok (.getfield 21, 3) := by decide +kernel
theorem dX4_entry_8 : decode cX4_entry 8 = .ok (.goto 19, 3) := by decide +kernel
theorem dX4_entry_11 : decode cX4_entry 11 = .ok (.iload_n 1, 1) := by decide +kernel
theorem dX4_entry_12 : decode cX4_entry 12 = .ok (.iconst 1, 1) := by decide +kernel
theorem dX4_entry_13 : decode cX4_entry 13 = .ok (.if_icmp .ne 10, 3) := by decide +kernel
theorem dX4_entry_16 : decode cX4_entry 16 = .ok (.aload_n 0, 1) := by decide +kernel
theorem dX4_entry_17 : decode cX4_entry 17 = .ok (.getfield 25, 3) := by decide +kernel
theorem dX4_entry_20 : decode cX4_entry 20 = .ok (.goto 7, 3) := by decide +kernel
theorem dX4_entry_23 : decode cX4_entry 23 = .ok (.aload_n 0, 1) := by decide +kernel
theorem dX4_entry_24 : decode cX4_entry 24 = .ok (.getfield 28, 3) := by decide +kernel
theorem dX4_entry_27 : decode cX4_entry 27 = .ok (.astore 4, 2) := by decide +kernel
theorem dX4_entry_29 : decode cX4_entry 29 = .ok (.iload_n 2, 1) := by decide +kernel
theorem dX4_entry_30 : decode cX4_entry 30 = .ok (.iload_n 3, 1) := by decide +kernel
theorem dX4_entry_31 : decode cX4_entry 31 = .ok (.invokestatic 59, 3) := by decide +kernel
theorem dX4_entry_34 : decode cX4_entry 34 = .ok (.ifCond .eq 14, 3) := by decide +kernel
theorem dX4_entry_37 : decode cX4_entry 37 = .ok (.aload 4, 2) := by decide +kernel
theorem dX4_entry_39 : decode cX4_entry 39 = .ok (.iload_n 2, 1) := by decide +kernel
theorem dX4_entry_40 : decode cX4_entry 40 = .ok (.iconst 3, 1) := by decide +kernel
theorem dX4_entry_41 : decode cX4_entry 41 = .ok (.imul, 1) := by decide +kernel
theorem dX4_entry_42 : decode cX4_entry 42 = .ok (.iload_n 3, 1) := by decide +kernel
theorem dX4_entry_43 : decode cX4_entry 43 = .ok (.iadd, 1) := by decide +kernel
theorem dX4_entry_44 : decode cX4_entry 44 = .ok (.iaload, 1) := by decide +kernel
theorem dX4_entry_45 : decode cX4_entry 45 = .ok (.goto 4, 3) := by decide +kernel
theorem dX4_entry_48 : decode cX4_entry 48 = .ok (.iconst 0, 1) := by decide +kernel
theorem dX4_entry_49 : decode cX4_entry 49 = .ok (.ireturn, 1) := by decide +kernel
theorem dX4_store_0 : decode cX4_store 0 = .ok (.iload_n 1, 1) := by decide +kernel
theorem dX4_store_1 : decode cX4_store 1 = .ok (.ifCond .ne 10, 3) := by decide +kernel
theorem dX4_store_4 : decode cX4_store 4 = .ok (.aload_n 0, 1) := by decide +kernel
theorem dX4_store_5 : decode cX4_store 5 = .ok (.getfield 21, 3) := by decide +kernel
theorem dX4_store_8 : decode cX4_store 8 = .ok (.goto 19, 3) := by decide +kernel
theorem dX4_store_11 : decode cX4_store 11 = .ok (.iload_n 1, 1) := by decide +kernel
theorem dX4_store_12 : decode cX4_store 12 = .ok (.iconst 1, 1) := by decide +kernel
theorem dX4_store_13 : decode cX4_store 13 = .ok (.if_icmp .ne 10, 3) := by decide +kernel
theorem dX4_store_16 : decode cX4_store 16 = .ok (.aload_n 0, 1) := by decide +kernel
theorem dX4_store_17 : decode cX4_store 17 = .ok (.getfield 25, 3) := by decide +kernel
theorem dX4_store_20 : decode cX4_store 20 = .ok (.goto 7, 3) := by decide +kernel
theorem dX4_store_23 : decode cX4_store 23 = .ok (.aload_n 0, 1) := by decide +kernel
theorem dX4_store_24 : decode cX4_store 24 = .ok (.getfield 28, 3) := by decide +kernel
theorem dX4_store_27 : decode cX4_store 27 = .ok (.astore 5, 2) := by decide +kernel
theorem dX4_store_29 : decode cX4_store 29 = .ok (.iload_n 2, 1) := by decide +kernel
theorem dX4_store_30 : decode cX4_store 30 = .ok (.iload_n 3, 1) := by decide +kernel
theorem dX4_store_31 : decode cX4_store 31 = .ok (.invokestatic 59, 3) := by decide +kernel
theorem dX4_store_34 : decode cX4_store 34 = .ok (.ifCond .eq 13, 3) := by decide +kernel
theorem dX4_store_37 : decode cX4_store 37 = .ok (.aload 5, 2) := by decide +kernel
theorem dX4_store_39 : decode cX4_store 39 = .ok (.iload_n 2, 1) := by decide +kernel
theorem dX4_store_40 : decode cX4_store 40 = .ok (.iconst 3, 1) := by decide +kernel
theorem dX4_store_41 : decode cX4_store 41 = .ok (.imul, 1) := by decide +kernel
theorem dX4_store_42 : decode cX4_store 42 = .ok (.iload_n 3, 1) := by decide +kernel
theorem dX4_store_43 : decode cX4_store 43 = .ok (.iadd, 1) := by decide +kernel
theorem dX4_store_44 : decode cX4_store 44 = .ok (.iload 4, 2) := by decide +kernel
theorem dX4_store_46 : decode cX4_store 46 = .ok (.iastore, 1) := by decide +kernel
theorem dX4_store_47 : decode cX4_store 47 = .ok (.return_, 1) := by decide +kernel
theorem dX4_minors_0 : decode cX4_minors 0 = .ok (.iload_n 2, 1) := by decide +kernel
theorem dX4_minors_1 : decode cX4_minors 1 = .ok (.tableswitch 78 0 2 #[27, 29, 54], 27) := by decide +kernel
theorem dX4_minors_28 : decode cX4_minors 28 = .ok (.lconst 1, 1) := by decide +kernel
theorem dX4_minors_29 : decode cX4_minors 29 = .ok (.lreturn, 1) := by decide +kernel
theorem dX4_minors_30 : decode cX4_minors 30 = .ok (.aload_n 0, 1) := by decide +kernel
theorem dX4_minors_31 : decode cX4_minors 31 = .ok (.iload_n 1, 1) := by decide +kernel
theorem dX4_minors_32 : decode cX4_minors 32 = .ok (.iconst 0, 1) := by decide +kernel
theorem dX4_minors_33 : decode cX4_minors 33 = .ok (.iconst 0, 1) := by decide +kernel
theorem dX4_minors_34 : decode cX4_minors 34 = .ok (.invokevirtual 63, 3) := by decide +kernel
theorem dX4_minors_37 : decode cX4_minors 37 = .ok (.aload_n 0, 1) := by decide +kernel
theorem dX4_minors_38 : decode cX4_minors 38 = .ok (.iload_n 1, 1) := by decide +kernel
theorem dX4_minors_39 : decode cX4_minors 39 = .ok (.iconst 1, 1) := by decide +kernel
theorem dX4_minors_40 : decode cX4_minors 40 = .ok (.iconst 1, 1) := by decide +kernel
theorem dX4_minors_41 : decode cX4_minors 41 = .ok (.invokevirtual 63, 3) := by decide +kernel
theorem dX4_minors_44 : decode cX4_minors 44 = .ok (.iadd, 1) := by decide +kernel
theorem dX4_minors_45 : decode cX4_minors 45 = .ok (.aload_n 0, 1) := by decide +kernel
theorem dX4_minors_46 : decode cX4_minors 46 = .ok (.iload_n 1, 1) := by decide +kernel
theorem dX4_minors_47 : decode cX4_minors 47 = .ok (.iconst 2, 1) := by decide +kernel
theorem dX4_minors_48 : decode cX4_minors 48 = .ok (.iconst 2, 1) := by decide +kernel
theorem dX4_minors_49 : decode cX4_minors 49 = .ok (.invokevirtual 63, 3) := by decide +kernel
theorem dX4_minors_52 : decode cX4_minors 52 = .ok (.iadd, 1) := by decide +kernel
theorem dX4_minors_53 : decode cX4_minors 53 = .ok (.i2l, 1) := by decide +kernel
theorem dX4_minors_54 : decode cX4_minors 54 = .ok (.lreturn, 1) := by decide +kernel
theorem dX4_minors_55 : decode cX4_minors 55 = .ok (.aload_n 0, 1) := by decide +kernel
theorem dX4_minors_56 : decode cX4_minors 56 = .ok (.iload_n 1, 1) := by decide +kernel
theorem dX4_minors_57 : decode cX4_minors 57 = .ok (.iconst 0, 1) := by decide +kernel
theorem dX4_minors_58 : decode cX4_minors 58 = .ok (.iconst 1, 1) := by decide +kernel
theorem dX4_minors_59 : decode cX4_minors 59 = .ok (.invokevirtual 67, 3) := by decide +kernel
theorem dX4_minors_62 : decode cX4_minors 62 = .ok (.aload_n 0, 1) := by decide +kernel
theorem dX4_minors_63 : decode cX4_minors 63 = .ok (.iload_n 1, 1) := by decide +kernel
theorem dX4_minors_64 : decode cX4_minors 64 = .ok (.iconst 0, 1) := by decide +kernel
theorem dX4_minors_65 : decode cX4_minors 65 = .ok (.iconst 2, 1) := by decide +kernel
theorem dX4_minors_66 : decode cX4_minors 66 = .ok (.invokevirtual 67, 3) := by decide +kernel
theorem dX4_minors_69 : decode cX4_minors 69 = .ok (.ladd, 1) := by decide +kernel
theorem dX4_minors_70 : decode cX4_minors 70 = .ok (.aload_n 0, 1) := by decide +kernel
theorem dX4_minors_71 : decode cX4_minors 71 = .ok (.iload_n 1, 1) := by decide +kernel
theorem dX4_minors_72 : decode cX4_minors 72 = .ok (.iconst 1, 1) := by decide +kernel
theorem dX4_minors_73 : decode cX4_minors 73 = .ok (.iconst 2, 1) := by decide +kernel
theorem dX4_minors_74 : decode cX4_minors 74 = .ok (.invokevirtual 67, 3) := by decide +kernel
theorem dX4_minors_77 : decode cX4_minors 77 = .ok (.ladd, 1) := by decide +kernel
theorem dX4_minors_78 : decode cX4_minors 78 = .ok (.lreturn, 1) := by decide +kernel
theorem dX4_minors_79 : decode cX4_minors 79 = .ok (.aload_n 0, 1) := by decide +kernel
theorem dX4_minors_80 : decode cX4_minors 80 = .ok (.iload_n 1, 1) := by decide +kernel
theorem dX4_minors_81 : decode cX4_minors 81 = .ok (.invokevirtual 71, 3) := by decide +kernel
theorem dX4_minors_84 : decode cX4_minors 84 = .ok (.lreturn, 1) := by decide +kernel
theorem dX4_minor_0 : decode cX4_minor 0 = .ok (.aload_n 0, 1) := by decide +kernel
theorem dX4_minor_1 : decode cX4_minor 1 = .ok (.iload_n 1, 1) := by decide +kernel
theorem dX4_minor_2 : decode cX4_minor 2 = .ok (.iload_n 2, 1) := by decide +kernel
theorem dX4_minor_3 : decode cX4_minor 3 = .ok (.iload_n 2, 1) := by decide +kernel
theorem dX4_minor_4 : decode cX4_minor 4 = .ok (.invokevirtual 63, 3) := by decide +kernel
theorem dX4_minor_7 : decode cX4_minor 7 = .ok (.aload_n 0, 1) := by decide +kernel
theorem dX4_minor_8 : decode cX4_minor 8 = .ok (.iload_n 1, 1) := by decide +kernel
theorem dX4_minor_9 : decode cX4_minor 9 = .ok (.iload_n 3, 1) := by decide +kernel
theorem dX4_minor_10 : decode cX4_minor 10 = .ok (.iload_n 3, 1) := by decide +kernel
theorem dX4_minor_11 : decode cX4_minor 11 = .ok (.invokevirtual 63, 3) := by decide +kernel
theorem dX4_minor_14 : decode cX4_minor 14 = .ok (.imul, 1) := by decide +kernel
theorem dX4_minor_15 : decode cX4_minor 15 = .ok (.aload_n 0, 1) := by decide +kernel
theorem dX4_minor_16 : decode cX4_minor 16 = .ok (.iload_n 1, 1) := by decide +kernel
theorem dX4_minor_17 : decode cX4_minor 17 = .ok (.iload_n 2, 1) := by decide +kernel
theorem dX4_minor_18 : decode cX4_minor 18 = .ok (.iload_n 3, 1) := by decide +kernel
theorem dX4_minor_19 : decode cX4_minor 19 = .ok (.invokevirtual 63, 3) := by decide +kernel
theorem dX4_minor_22 : decode cX4_minor 22 = .ok (.aload_n 0, 1) := by decide +kernel
theorem dX4_minor_23 : decode cX4_minor 23 = .ok (.iload_n 1, 1) := by decide +kernel
theorem dX4_minor_24 : decode cX4_minor 24 = .ok (.iload_n 3, 1) := by decide +kernel
theorem dX4_minor_25 : decode cX4_minor 25 = .ok (.iload_n 2, 1) := by decide +kernel
theorem dX4_minor_26 : decode cX4_minor 26 = .ok (.invokevirtual 63, 3) := by decide +kernel
theorem dX4_minor_29 : decode cX4_minor 29 = .ok (.imul, 1) := by decide +kernel
theorem dX4_minor_30 : decode cX4_minor 30 = .ok (.isub, 1) := by decide +kernel
theorem dX4_minor_31 : decode cX4_minor 31 = .ok (.i2l, 1) := by decide +kernel
theorem dX4_minor_32 : decode cX4_minor 32 = .ok (.lreturn, 1) := by decide +kernel
theorem dX4_largestMinor_0 : decode cX4_largestMinor 0 = .ok (.lconst 0, 1) := by decide +kernel
theorem dX4_largestMinor_1 : decode cX4_largestMinor 1 = .ok (.lstore_n 2, 1) := by decide +kernel
theorem dX4_largestMinor_2 : decode cX4_largestMinor 2 = .ok (.iconst 0, 1) := by decide +kernel
theorem dX4_largestMinor_3 : decode cX4_largestMinor 3 = .ok (.istore 4, 2) := by decide +kernel
theorem dX4_largestMinor_5 : decode cX4_largestMinor 5 = .ok (.iload 4, 2) := by decide +kernel
theorem dX4_largestMinor_7 : decode cX4_largestMinor 7 = .ok (.iconst 3, 1) := by decide +kernel
theorem dX4_largestMinor_8 : decode cX4_largestMinor 8 = .ok (.if_icmp .ge 73, 3) := by decide +kernel
theorem dX4_largestMinor_11 : decode cX4_largestMinor 11 = .ok (.iload 4, 2) := by decide +kernel
theorem dX4_largestMinor_13 : decode cX4_largestMinor 13 = .ok (.iconst 1, 1) := by decide +kernel
theorem dX4_largestMinor_14 : decode cX4_largestMinor 14 = .ok (.iadd, 1) := by decide +kernel
theorem dX4_largestMinor_15 : decode cX4_largestMinor 15 = .ok (.iconst 3, 1) := by decide +kernel
theorem dX4_largestMinor_16 : decode cX4_largestMinor 16 = .ok (.irem, 1) := by decide +kernel
theorem dX4_largestMinor_17 : decode cX4_largestMinor 17 = .ok (.istore 5, 2) := by decide +kernel
theorem dX4_largestMinor_19 : decode cX4_largestMinor 19 = .ok (.iload 4, 2) := by decide +kernel
theorem dX4_largestMinor_21 : decode cX4_largestMinor 21 = .ok (.iconst 2, 1) := by decide +kernel
theorem dX4_largestMinor_22 : decode cX4_largestMinor 22 = .ok (.iadd, 1) := by decide +kernel
theorem dX4_largestMinor_23 : decode cX4_largestMinor 23 = .ok (.iconst 3, 1) := by decide +kernel
theorem dX4_largestMinor_24 : decode cX4_largestMinor 24 = .ok (.irem, 1) := by decide +kernel
theorem dX4_largestMinor_25 : decode cX4_largestMinor 25 = .ok (.istore 6, 2) := by decide +kernel
theorem dX4_largestMinor_27 : decode cX4_largestMinor 27 = .ok (.lload_n 2, 1) := by decide +kernel
theorem dX4_largestMinor_28 : decode cX4_largestMinor 28 = .ok (.aload_n 0, 1) := by decide +kernel
theorem dX4_largestMinor_29 : decode cX4_largestMinor 29 = .ok (.iload_n 1, 1) := by decide +kernel
theorem dX4_largestMinor_30 : decode cX4_largestMinor 30 = .ok (.iconst 0, 1) := by decide +kernel
theorem dX4_largestMinor_31 : decode cX4_largestMinor 31 = .ok (.iload 4, 2) := by decide +kernel
theorem dX4_largestMinor_33 : decode cX4_largestMinor 33 = .ok (.invokevirtual 63, 3) := by decide +kernel
theorem dX4_largestMinor_36 : decode cX4_largestMinor 36 = .ok (.aload_n 0, 1) := by decide +kernel
theorem dX4_largestMinor_37 : decode cX4_largestMinor 37 = .ok (.iload_n 1, 1) := by decide +kernel
theorem dX4_largestMinor_38 : decode cX4_largestMinor 38 = .ok (.iconst 1, 1) := by decide +kernel
theorem dX4_largestMinor_39 : decode cX4_largestMinor 39 = .ok (.iload 5, 2) := by decide +kernel
theorem dX4_largestMinor_41 : decode cX4_largestMinor 41 = .ok (.invokevirtual 63, 3) := by decide +kernel
theorem dX4_largestMinor_44 : decode cX4_largestMinor 44 = .ok (.aload_n 0, 1) := by decide +kernel
theorem dX4_largestMinor_45 : decode cX4_largestMinor 45 = .ok (.iload_n 1, 1) := by decide +kernel
theorem dX4_largestMinor_46 : decode cX4_largestMinor 46 = .ok (.iconst 2, 1) := by decide +kernel
theorem dX4_largestMinor_47 : decode cX4_largestMinor 47 = .ok (.iload 6, 2) := by decide +kernel
theorem dX4_largestMinor_49 : decode cX4_largestMinor 49 = .ok (.invokevirtual 63, 3) := by decide +kernel
theorem dX4_largestMinor_52 : decode cX4_largestMinor 52 = .ok (.imul, 1) := by decide +kernel
theorem dX4_largestMinor_53 : decode cX4_largestMinor 53 = .ok (.aload_n 0, 1) := by decide +kernel
theorem dX4_largestMinor_54 : decode cX4_largestMinor 54 = .ok (.iload_n 1, 1) := by decide +kernel
theorem dX4_largestMinor_55 : decode cX4_largestMinor 55 = .ok (.iconst 1, 1) := by decide +kernel
theorem dX4_largestMinor_56 : decode cX4_largestMinor 56 = .ok (.iload 6, 2) := by decide +kernel
theorem dX4_largestMinor_58 : decode cX4_largestMinor 58 = .ok (.invokevirtual 63, 3) := by decide +kernel
theorem dX4_largestMinor_61 : decode cX4_largestMinor 61 = .ok (.aload_n 0, 1) := by decide +kernel
theorem dX4_largestMinor_62 : decode cX4_largestMinor 62 = .ok (.iload_n 1, 1) := by decide +kernel
theorem dX4_largestMinor_63 : decode cX4_largestMinor 63 = .ok (.iconst 2, 1) := by decide +kernel
theorem dX4_largestMinor_64 : decode cX4_largestMinor 64 = .ok (.iload 5, 2) := by decide +kernel
theorem dX4_largestMinor_66 : decode cX4_largestMinor 66 = .ok (.invokevirtual 63, 3) := by decide +kernel
theorem dX4_largestMinor_69 : decode cX4_largestMinor 69 = .ok (.imul, 1) := by decide +kernel
theorem dX4_largestMinor_70 : decode cX4_largestMinor 70 = .ok (.isub, 1) := by decide +kernel
theorem dX4_largestMinor_71 : decode cX4_largestMinor 71 = .ok (.imul, 1) := by decide +kernel
theorem dX4_largestMinor_72 : decode cX4_largestMinor 72 = .ok (.i2l, 1) := by decide +kernel
theorem dX4_largestMinor_73 : decode cX4_largestMinor 73 = .ok (.ladd, 1) := by decide +kernel
theorem dX4_largestMinor_74 : decode cX4_largestMinor 74 = .ok (.lstore_n 2, 1) := by decide +kernel
theorem dX4_largestMinor_75 : decode cX4_largestMinor 75 = .ok (.iinc 4 1, 3) := by decide +kernel
theorem dX4_largestMinor_78 : decode cX4_largestMinor 78 = .ok (.goto (-73), 3) := by decide +kernel
theorem dX4_largestMinor_81 : decode cX4_largestMinor 81 = .ok (.lload_n 2, 1) := by decide +kernel
theorem dX4_largestMinor_82 : decode cX4_largestMinor 82 = .ok (.lreturn, 1) := by decide +kernel
theorem dX4_draw_0 : decode cX4_draw 0 = .ok (.aload_n 0, 1) := by decide +kernel
theorem dX4_draw_1 : decode cX4_draw 1 = .ok (.iconst 0, 1) := by decide +kernel
theorem dX4_draw_2 : decode cX4_draw 2 = .ok (.invokevirtual 75, 3) := by decide +kernel
theorem dX4_draw_5 : decode cX4_draw 5 = .ok (.aload_n 0, 1) := by decide +kernel
theorem dX4_draw_6 : decode cX4_draw 6 = .ok (.iconst 1, 1) := by decide +kernel
theorem dX4_draw_7 : decode cX4_draw 7 = .ok (.invokevirtual 75, 3) := by decide +kernel
theorem dX4_draw_10 : decode cX4_draw 10 = .ok (.aload_n 0, 1) := by decide +kernel
theorem dX4_draw_11 : decode cX4_draw 11 = .ok (.iconst 2, 1) := by decide +kernel
theorem dX4_draw_12 : decode cX4_draw 12 = .ok (.invokevirtual 75, 3) := by decide +kernel
theorem dX4_draw_15 : decode cX4_draw 15 = .ok (.return_, 1) := by decide +kernel
theorem dX4_drawTable_0 : decode cX4_drawTable 0 = .ok (.iconst 0, 1) := by decide +kernel
theorem dX4_drawTable_1 : decode cX4_drawTable 1 = .ok (.istore_n 2, 1) := by decide +kernel
theorem dX4_drawTable_2 : decode cX4_drawTable 2 = .ok (.iload_n 2, 1) := by decide +kernel
theorem dX4_drawTable_3 : decode cX4_drawTable 3 = .ok (.aload_n 0, 1) := by decide +kernel
theorem dX4_drawTable_4 : decode cX4_drawTable 4 = .ok (.iload_n 1, 1) := by decide +kernel
theorem dX4_drawTable_5 : decode cX4_drawTable 5 = .ok (.invokevirtual 52, 3) := by decide +kernel
theorem dX4_drawTable_8 : decode cX4_drawTable 8 = .ok (.if_icmp .ge 81, 3) := by decide +kernel
theorem dX4_drawTable_11 : decode cX4_drawTable 11 = .ok (.iconst 0, 1) := by decide +kernel
theorem dX4_drawTable_12 : decode cX4_drawTable 12 = .ok (.istore_n 3, 1) := by decide +kernel
theorem dX4_drawTable_13 : decode cX4_drawTable 13 = .ok (.iload_n 3, 1) := by decide +kernel
theorem dX4_drawTable_14 : decode cX4_drawTable 14 = .ok (.aload_n 0, 1) := by decide +kernel
theorem dX4_drawTable_15 : decode cX4_drawTable 15 = .ok (.iload_n 1, 1) := by decide +kernel
theorem dX4_drawTable_16 : decode cX4_drawTable 16 = .ok (.invokevirtual 56, 3) := by decide +kernel
theorem dX4_drawTable_19 : decode cX4_drawTable 19 = .ok (.if_icmp .ge 64, 3) := by decide +kernel
theorem dX4_drawTable_22 : decode cX4_drawTable 22 = .ok (.aload_n 0, 1) := by decide +kernel
theorem dX4_drawTable_23 : decode cX4_drawTable 23 = .ok (.aload_n 0, 1) := by decide +kernel
theorem dX4_drawTable_24 : decode cX4_drawTable 24 = .ok (.getfield 18, 3) := by decide +kernel
theorem dX4_drawTable_27 : decode cX4_drawTable 27 = .ok (.ldc 79, 2) := by decide +kernel
theorem dX4_drawTable_29 : decode cX4_drawTable 29 = .ok (.imul, 1) := by decide +kernel
theorem dX4_drawTable_30 : decode cX4_drawTable 30 = .ok (.sipush 12345, 3) := by decide +kernel
theorem dX4_drawTable_33 : decode cX4_drawTable 33 = .ok (.iadd, 1) := by decide +kernel
theorem dX4_drawTable_34 : decode cX4_drawTable 34 = .ok (.putfield 18, 3) := by decide +kernel
theorem dX4_drawTable_37 : decode cX4_drawTable 37 = .ok (.aload_n 0, 1) := by decide +kernel
theorem dX4_drawTable_38 : decode cX4_drawTable 38 = .ok (.iload_n 1, 1) := by decide +kernel
theorem dX4_drawTable_39 : decode cX4_drawTable 39 = .ok (.iload_n 2, 1) := by decide +kernel
theorem dX4_drawTable_40 : decode cX4_drawTable 40 = .ok (.iload_n 3, 1) := by decide +kernel
theorem dX4_drawTable_41 : decode cX4_drawTable 41 = .ok (.iload_n 1, 1) := by decide +kernel
theorem dX4_drawTable_42 : decode cX4_drawTable 42 = .ok (.iconst 2, 1) := by decide +kernel
theorem dX4_drawTable_43 : decode cX4_drawTable 43 = .ok (.if_icmp .ne 19, 3) := by decide +kernel
theorem dX4_drawTable_46 : decode cX4_drawTable 46 = .ok (.aload_n 0, 1) := by decide +kernel
theorem dX4_drawTable_47 : decode cX4_drawTable 47 = .ok (.getfield 18, 3) := by decide +kernel
theorem dX4_drawTable_50 : decode cX4_drawTable 50 = .ok (.bipush 16, 2) := by decide +kernel
theorem dX4_drawTable_52 : decode cX4_drawTable 52 = .ok (.iushr, 1) := by decide +kernel
theorem dX4_drawTable_53 : decode cX4_drawTable 53 = .ok (.bipush 101, 2) := by decide +kernel
theorem dX4_drawTable_55 : decode cX4_drawTable 55 = .ok (.irem, 1) := by decide +kernel
theorem dX4_drawTable_56 : decode cX4_drawTable 56 = .ok (.bipush 50, 2) := by decide +kernel
theorem dX4_drawTable_58 : decode cX4_drawTable 58 = .ok (.isub, 1) := by decide +kernel
theorem dX4_drawTable_59 : decode cX4_drawTable 59 = .ok (.goto 15, 3) := by decide +kernel
theorem dX4_drawTable_62 : decode cX4_drawTable 62 = .ok (.aload_n 0, 1) := by decide +kernel
theorem dX4_drawTable_63 : decode cX4_drawTable 63 = .ok (.getfield 18, 3) := by decide +kernel
theorem dX4_drawTable_66 : decode cX4_drawTable 66 = .ok (.bipush 16, 2) := by decide +kernel
theorem dX4_drawTable_68 : decode cX4_drawTable 68 = .ok (.iushr, 1) := by decide +kernel
theorem dX4_drawTable_69 : decode cX4_drawTable 69 = .ok (.bipush 11, 2) := by decide +kernel
theorem dX4_drawTable_71 : decode cX4_drawTable 71 = .ok (.irem, 1) := by decide +kernel
theorem dX4_drawTable_72 : decode cX4_drawTable 72 = .ok (.iconst 5, 1) := by decide +kernel
theorem dX4_drawTable_73 : decode cX4_drawTable 73 = .ok (.isub, 1) := by decide +kernel
theorem dX4_drawTable_74 : decode cX4_drawTable 74 = .ok (.invokevirtual 80, 3) := by decide +kernel
theorem dX4_drawTable_77 : decode cX4_drawTable 77 = .ok (.iinc 3 1, 3) := by decide +kernel
theorem dX4_drawTable_80 : decode cX4_drawTable 80 = .ok (.goto (-67), 3) := by decide +kernel
theorem dX4_drawTable_83 : decode cX4_drawTable 83 = .ok (.iinc 2 1, 3) := by decide +kernel
theorem dX4_drawTable_86 : decode cX4_drawTable 86 = .ok (.goto (-84), 3) := by decide +kernel
theorem dX4_drawTable_89 : decode cX4_drawTable 89 = .ok (.return_, 1) := by decide +kernel
theorem dX4_hasEquation_0 : decode cX4_hasEquation 0 = .ok (.iload_n 1, 1) := by decide +kernel
theorem dX4_hasEquation_1 : decode cX4_hasEquation 1 = .ok (.ifCond .lt 21, 3) := by decide +kernel
theorem dX4_hasEquation_4 : decode cX4_hasEquation 4 = .ok (.iload_n 1, 1) := by decide +kernel
theorem dX4_hasEquation_5 : decode cX4_hasEquation 5 = .ok (.aload_n 0, 1) := by decide +kernel
theorem dX4_hasEquation_6 : decode cX4_hasEquation 6 = .ok (.getfield 37, 3) := by decide +kernel
theorem dX4_hasEquation_9 : decode cX4_hasEquation 9 = .ok (.if_icmp .ge 13, 3) := by decide +kernel
theorem dX4_hasEquation_12 : decode cX4_hasEquation 12 = .ok (.iload_n 1, 1) := by decide +kernel
theorem dX4_hasEquation_13 : decode cX4_hasEquation 13 = .ok (.bipush 6, 2) := by decide +kernel
theorem dX4_hasEquation_15 : decode cX4_hasEquation 15 = .ok (.if_icmp .ge 7, 3) := by decide +kernel
theorem dX4_hasEquation_18 : decode cX4_hasEquation 18 = .ok (.iconst 1, 1) := by decide +kernel
theorem dX4_hasEquation_19 : decode cX4_hasEquation 19 = .ok (.goto 4, 3) := by decide +kernel
theorem dX4_hasEquation_22 : decode cX4_hasEquation 22 = .ok (.iconst 0, 1) := by decide +kernel
theorem dX4_hasEquation_23 : decode cX4_hasEquation 23 = .ok (.ireturn, 1) := by decide +kernel
theorem dX4_kindOf_0 : decode cX4_kindOf 0 = .ok (.aload_n 0, 1) := by decide +kernel
theorem dX4_kindOf_1 : decode cX4_kindOf 1 = .ok (.iload_n 1, 1) := by decide +kernel
theorem dX4_kindOf_2 : decode cX4_kindOf 2 = .ok (.invokevirtual 84, 3) := by decide +kernel
theorem dX4_kindOf_5 : decode cX4_kindOf 5 = .ok (.ifCond .eq 12, 3) := by decide +kernel
theorem dX4_kindOf_8 : decode cX4_kindOf 8 = .ok (.aload_n 0, 1) := by decide +kernel
theorem dX4_kindOf_9 : decode cX4_kindOf 9 = .ok (.getfield 31, 3) := by decide +kernel
theorem dX4_kindOf_12 : decode cX4_kindOf 12 = .ok (.iload_n 1, 1) := by decide +kernel
theorem dX4_kindOf_13 : decode cX4_kindOf 13 = .ok (.iaload, 1) := by decide +kernel
theorem dX4_kindOf_14 : decode cX4_kindOf 14 = .ok (.goto 4, 3) := by decide +kernel
theorem dX4_kindOf_17 : decode cX4_kindOf 17 = .ok (.iconst 0, 1) := by decide +kernel
theorem dX4_kindOf_18 : decode cX4_kindOf 18 = .ok (.ireturn, 1) := by decide +kernel
theorem dX4_shiftOf_0 : decode cX4_shiftOf 0 = .ok (.aload_n 0, 1) := by decide +kernel
theorem dX4_shiftOf_1 : decode cX4_shiftOf 1 = .ok (.iload_n 1, 1) := by decide +kernel
theorem dX4_shiftOf_2 : decode cX4_shiftOf 2 = .ok (.invokevirtual 84, 3) := by decide +kernel
theorem dX4_shiftOf_5 : decode cX4_shiftOf 5 = .ok (.ifCond .eq 12, 3) := by decide +kernel
theorem dX4_shiftOf_8 : decode cX4_shiftOf 8 = .ok (.aload_n 0, 1) := by decide +kernel
theorem dX4_shiftOf_9 : decode cX4_shiftOf 9 = .ok (.getfield 34, 3) := by decide +kernel
theorem dX4_shiftOf_12 : decode cX4_shiftOf 12 = .ok (.iload_n 1, 1) := by decide +kernel
theorem dX4_shiftOf_13 : decode cX4_shiftOf 13 = .ok (.iaload, 1) := by decide +kernel
theorem dX4_shiftOf_14 : decode cX4_shiftOf 14 = .ok (.goto 4, 3) := by decide +kernel
theorem dX4_shiftOf_17 : decode cX4_shiftOf 17 = .ok (.iconst 0, 1) := by decide +kernel
theorem dX4_shiftOf_18 : decode cX4_shiftOf 18 = .ok (.ireturn, 1) := by decide +kernel
theorem dX4_become_0 : decode cX4_become 0 = .ok (.aload_n 0, 1) := by decide +kernel
theorem dX4_become_1 : decode cX4_become 1 = .ok (.iload_n 1, 1) := by decide +kernel
theorem dX4_become_2 : decode cX4_become 2 = .ok (.invokevirtual 84, 3) := by decide +kernel
theorem dX4_become_5 : decode cX4_become 5 = .ok (.ifCond .eq 17, 3) := by decide +kernel
theorem dX4_become_8 : decode cX4_become 8 = .ok (.aload_n 0, 1) := by decide +kernel
theorem dX4_become_9 : decode cX4_become 9 = .ok (.getfield 31, 3) := by decide +kernel
theorem dX4_become_12 : decode cX4_become 12 = .ok (.iload_n 1, 1) := by decide +kernel
theorem dX4_become_13 : decode cX4_become 13 = .ok (.iload_n 2, 1) := by decide +kernel
theorem dX4_become_14 : decode cX4_become 14 = .ok (.iastore, 1) := by decide +kernel
theorem dX4_become_15 : decode cX4_become 15 = .ok (.aload_n 0, 1) := by decide +kernel
theorem dX4_become_16 : decode cX4_become 16 = .ok (.getfield 34, 3) := by decide +kernel
theorem dX4_become_19 : decode cX4_become 19 = .ok (.iload_n 1, 1) := by decide +kernel
theorem dX4_become_20 : decode cX4_become 20 = .ok (.iload_n 3, 1) := by decide +kernel
theorem dX4_become_21 : decode cX4_become 21 = .ok (.iastore, 1) := by decide +kernel
theorem dX4_become_22 : decode cX4_become 22 = .ok (.return_, 1) := by decide +kernel
theorem dX4_hasRight_0 : decode cX4_hasRight 0 = .ok (.iload_n 1, 1) := by decide +kernel
theorem dX4_hasRight_1 : decode cX4_hasRight 1 = .ok (.ifCond .eq 19, 3) := by decide +kernel
theorem dX4_hasRight_4 : decode cX4_hasRight 4 = .ok (.iload_n 1, 1) := by decide +kernel
theorem dX4_hasRight_5 : decode cX4_hasRight 5 = .ok (.iconst 1, 1) := by decide +kernel
theorem dX4_hasRight_6 : decode cX4_hasRight 6 = .ok (.if_icmp .eq 14, 3) := by decide +kernel
theorem dX4_hasRight_9 : decode cX4_hasRight 9 = .ok (.aload_n 0, 1) := by decide +kernel
theorem dX4_hasRight_10 : decode cX4_hasRight 10 = .ok (.getfield 9, 3) := by decide +kernel
theorem dX4_hasRight_13 : decode cX4_hasRight 13 = .ok (.aload_n 0, 1) := by decide +kernel
theorem dX4_hasRight_14 : decode cX4_hasRight 14 = .ok (.getfield 15, 3) := by decide +kernel
theorem dX4_hasRight_17 : decode cX4_hasRight 17 = .ok (.if_icmp .ne 7, 3) := by decide +kernel
theorem dX4_hasRight_20 : decode cX4_hasRight 20 = .ok (.iconst 1, 1) := by decide +kernel
theorem dX4_hasRight_21 : decode cX4_hasRight 21 = .ok (.goto 4, 3) := by decide +kernel
theorem dX4_hasRight_24 : decode cX4_hasRight 24 = .ok (.iconst 0, 1) := by decide +kernel
theorem dX4_hasRight_25 : decode cX4_hasRight 25 = .ok (.ireturn, 1) := by decide +kernel
theorem dX4_fits_0 : decode cX4_fits 0 = .ok (.aload_n 0, 1) := by decide +kernel
theorem dX4_fits_1 : decode cX4_fits 1 = .ok (.iload_n 1, 1) := by decide +kernel
theorem dX4_fits_2 : decode cX4_fits 2 = .ok (.invokevirtual 88, 3) := by decide +kernel
theorem dX4_fits_5 : decode cX4_fits 5 = .ok (.ifCond .eq 17, 3) := by decide +kernel
theorem dX4_fits_8 : decode cX4_fits 8 = .ok (.aload_n 0, 1) := by decide +kernel
theorem dX4_fits_9 : decode cX4_fits 9 = .ok (.iload_n 1, 1) := by decide +kernel
theorem dX4_fits_10 : decode cX4_fits 10 = .ok (.invokevirtual 91, 3) := by decide +kernel
theorem dX4_fits_13 : decode cX4_fits 13 = .ok (.bipush 6, 2) := by decide +kernel
theorem dX4_fits_15 : decode cX4_fits 15 = .ok (.if_icmp .gt 7, 3) := by decide +kernel
theorem dX4_fits_18 : decode cX4_fits 18 = .ok (.iconst 1, 1) := by decide +kernel
theorem dX4_fits_19 : decode cX4_fits 19 = .ok (.goto 4, 3) := by decide +kernel
theorem dX4_fits_22 : decode cX4_fits 22 = .ok (.iconst 0, 1) := by decide +kernel
theorem dX4_fits_23 : decode cX4_fits 23 = .ok (.ireturn, 1) := by decide +kernel
theorem dX4_fittingSet_0 : decode cX4_fittingSet 0 = .ok (.iconst 0, 1) := by decide +kernel
theorem dX4_fittingSet_1 : decode cX4_fittingSet 1 = .ok (.istore_n 1, 1) := by decide +kernel
theorem dX4_fittingSet_2 : decode cX4_fittingSet 2 = .ok (.iconst 0, 1) := by decide +kernel
theorem dX4_fittingSet_3 : decode cX4_fittingSet 3 = .ok (.istore_n 2, 1) := by decide +kernel
theorem dX4_fittingSet_4 : decode cX4_fittingSet 4 = .ok (.iload_n 2, 1) := by decide +kernel
theorem dX4_fittingSet_5 : decode cX4_fittingSet 5 = .ok (.aload_n 0, 1) := by decide +kernel
theorem dX4_fittingSet_6 : decode cX4_fittingSet 6 = .ok (.getfield 37, 3) := by decide +kernel
theorem dX4_fittingSet_9 : decode cX4_fittingSet 9 = .ok (.if_icmp .ge 31, 3) := by decide +kernel
theorem dX4_fittingSet_12 : decode cX4_fittingSet 12 = .ok (.iload_n 1, 1) := by decide +kernel
theorem dX4_fittingSet_13 : decode cX4_fittingSet 13 = .ok (.aload_n 0, 1) := by decide +kernel
theorem dX4_fittingSet_14 : decode cX4_fittingSet 14 = .ok (.aload_n 0, 1) := by decide +kernel
theorem dX4_fittingSet_15 : decode cX4_fittingSet 15 = .ok (.iload_n 2, 1) := by decide +kernel
theorem dX4_fittingSet_16 : decode cX4_fittingSet 16 = .ok (.invokevirtual 94, 3) := by decide +kernel
theorem dX4_fittingSet_19 : decode cX4_fittingSet 19 = .ok (.invokevirtual 97, 3) := by decide +kernel
theorem dX4_fittingSet_22 : decode cX4_fittingSet 22 = .ok (.ifCond .eq 9, 3) := by decide +kernel
theorem dX4_fittingSet_25 : decode cX4_fittingSet 25 = .ok (.iconst 1, 1) := by decide +kernel
theorem dX4_fittingSet_26 : decode cX4_fittingSet 26 = .ok (.iload_n 2, 1) := by decide +kernel
theorem dX4_fittingSet_27 : decode cX4_fittingSet 27 = .ok (.ishl, 1) := by decide +kernel
theorem dX4_fittingSet_28 : decode cX4_fittingSet 28 = .ok (.goto 4, 3) := by decide +kernel
theorem dX4_fittingSet_31 : decode cX4_fittingSet 31 = .ok (.iconst 0, 1) := by decide +kernel
theorem dX4_fittingSet_32 : decode cX4_fittingSet 32 = .ok (.ior, 1) := by decide +kernel
theorem dX4_fittingSet_33 : decode cX4_fittingSet 33 = .ok (.istore_n 1, 1) := by decide +kernel
theorem dX4_fittingSet_34 : decode cX4_fittingSet 34 = .ok (.iinc 2 1, 3) := by decide +kernel
theorem dX4_fittingSet_37 : decode cX4_fittingSet 37 = .ok (.goto (-33), 3) := by decide +kernel
theorem dX4_fittingSet_40 : decode cX4_fittingSet 40 = .ok (.iload_n 1, 1) := by decide +kernel
theorem dX4_fittingSet_41 : decode cX4_fittingSet 41 = .ok (.ireturn, 1) := by decide +kernel
theorem dX4_splits_0 : decode cX4_splits 0 = .ok (.iload_n 1, 1) := by decide +kernel
theorem dX4_splits_1 : decode cX4_splits 1 = .ok (.iconst 1, 1) := by decide +kernel
theorem dX4_splits_2 : decode cX4_splits 2 = .ok (.if_icmp .lt 11, 3) := by decide +kernel
theorem dX4_splits_5 : decode cX4_splits 5 = .ok (.iload_n 1, 1) := by decide +kernel
theorem dX4_splits_6 : decode cX4_splits 6 = .ok (.aload_n 0, 1) := by decide +kernel
theorem dX4_splits_7 : decode cX4_splits 7 = .ok (.getfield 9, 3) := by decide +kernel
theorem dX4_splits_10 : decode cX4_splits 10 = .ok (.if_icmp .lt 5, 3) := by decide +kernel
theorem dX4_splits_13 : decode cX4_splits 13 = .ok (.iconst 0, 1) := by decide +kernel
theorem dX4_splits_14 : decode cX4_splits 14 = .ok (.ireturn, 1) := by decide +kernel
theorem dX4_splits_15 : decode cX4_splits 15 = .ok (.iload_n 1, 1) := by decide +kernel
theorem dX4_splits_16 : decode cX4_splits 16 = .ok (.istore_n 2, 1) := by decide +kernel
theorem dX4_splits_17 : decode cX4_splits 17 = .ok (.iload_n 2, 1) := by decide +kernel
theorem dX4_splits_18 : decode cX4_splits 18 = .ok (.aload_n 0, 1) := by decide +kernel
theorem dX4_splits_19 : decode cX4_splits 19 = .ok (.getfield 9, 3) := by decide +kernel
theorem dX4_splits_22 : decode cX4_splits 22 = .ok (.if_icmp .ge 34, 3) := by decide +kernel
theorem dX4_splits_25 : decode cX4_splits 25 = .ok (.iconst 0, 1) := by decide +kernel
theorem dX4_splits_26 : decode cX4_splits 26 = .ok (.istore_n 3, 1) := by decide +kernel
theorem dX4_splits_27 : decode cX4_splits 27 = .ok (.iload_n 3, 1) := by decide +kernel
theorem dX4_splits_28 : decode cX4_splits 28 = .ok (.iload_n 1, 1) := by decide +kernel
theorem dX4_splits_29 : decode cX4_splits 29 = .ok (.if_icmp .ge 21, 3) := by decide +kernel
theorem dX4_splits_32 : decode cX4_splits 32 = .ok (.aload_n 0, 1) := by decide +kernel
theorem dX4_splits_33 : decode cX4_splits 33 = .ok (.iconst 0, 1) := by decide +kernel
theorem dX4_splits_34 : decode cX4_splits 34 = .ok (.iload_n 2, 1) := by decide +kernel
theorem dX4_splits_35 : decode cX4_splits 35 = .ok (.iload_n 3, 1) := by decide +kernel
theorem dX4_splits_36 : decode cX4_splits 36 = .ok (.invokevirtual 63, 3) := by decide +kernel
theorem dX4_splits_39 : decode cX4_splits 39 = .ok (.ifCond .eq 5, 3) := by decide +kernel
theorem dX4_splits_42 : decode cX4_splits 42 = .ok (.iconst 0, 1) := by decide +kernel
theorem dX4_splits_43 : decode cX4_splits 43 = .ok (.ireturn, 1) := by decide +kernel
theorem dX4_splits_44 : decode cX4_splits 44 = .ok (.iinc 3 1, 3) := by decide +kernel
theorem dX4_splits_47 : decode cX4_splits 47 = .ok (.goto (-20), 3) := by decide +kernel
theorem dX4_splits_50 : decode cX4_splits 50 = .ok (.iinc 2 1, 3) := by decide +kernel
theorem dX4_splits_53 : decode cX4_splits 53 = .ok (.goto (-36), 3) := by decide +kernel
theorem dX4_splits_56 : decode cX4_splits 56 = .ok (.iconst 1, 1) := by decide +kernel
theorem dX4_splits_57 : decode cX4_splits 57 = .ok (.ireturn, 1) := by decide +kernel
theorem dX4_splitSet_0 : decode cX4_splitSet 0 = .ok (.iconst 0, 1) := by decide +kernel
theorem dX4_splitSet_1 : decode cX4_splitSet 1 = .ok (.istore_n 1, 1) := by decide +kernel
theorem dX4_splitSet_2 : decode cX4_splitSet 2 = .ok (.iconst 1, 1) := by decide +kernel
theorem dX4_splitSet_3 : decode cX4_splitSet 3 = .ok (.istore_n 2, 1) := by decide +kernel
theorem dX4_splitSet_4 : decode cX4_splitSet 4 = .ok (.iload_n 2, 1) := by decide +kernel
theorem dX4_splitSet_5 : decode cX4_splitSet 5 = .ok (.aload_n 0, 1) := by decide +kernel
theorem dX4_splitSet_6 : decode cX4_splitSet 6 = .ok (.getfield 9, 3) := by decide +kernel
theorem dX4_splitSet_9 : decode cX4_splitSet 9 = .ok (.if_icmp .ge 27, 3) := by decide +kernel
theorem dX4_splitSet_12 : decode cX4_splitSet 12 = .ok (.iload_n 1, 1) := by decide +kernel
theorem dX4_splitSet_13 : decode cX4_splitSet 13 = .ok (.aload_n 0, 1) := by decide +kernel
theorem dX4_splitSet_14 : decode cX4_splitSet 14 = .ok (.iload_n 2, 1) := by decide +kernel
theorem dX4_splitSet_15 : decode cX4_splitSet 15 = .ok (.invokevirtual 100, 3) := by decide +kernel
theorem dX4_splitSet_18 : decode cX4_splitSet 18 = .ok (.ifCond .eq 9, 3) := by decide +kernel
theorem dX4_splitSet_21 : decode cX4_splitSet 21 = .ok (.iconst 1, 1) := by decide +kernel
theorem dX4_splitSet_22 : decode cX4_splitSet 22 = .ok (.iload_n 2, 1) := by decide +kernel
theorem dX4_splitSet_23 : decode cX4_splitSet 23 = .ok (.ishl, 1) := by decide +kernel
theorem dX4_splitSet_24 : decode cX4_splitSet 24 = .ok (.goto 4, 3) := by decide +kernel
theorem dX4_splitSet_27 : decode cX4_splitSet 27 = .ok (.iconst 0, 1) := by decide +kernel
theorem dX4_splitSet_28 : decode cX4_splitSet 28 = .ok (.ior, 1) := by decide +kernel
theorem dX4_splitSet_29 : decode cX4_splitSet 29 = .ok (.istore_n 1, 1) := by decide +kernel
theorem dX4_splitSet_30 : decode cX4_splitSet 30 = .ok (.iinc 2 1, 3) := by decide +kernel
theorem dX4_splitSet_33 : decode cX4_splitSet 33 = .ok (.goto (-29), 3) := by decide +kernel
theorem dX4_splitSet_36 : decode cX4_splitSet 36 = .ok (.iload_n 1, 1) := by decide +kernel
theorem dX4_splitSet_37 : decode cX4_splitSet 37 = .ok (.ireturn, 1) := by decide +kernel
theorem dX4_leftEntry_0 : decode cX4_leftEntry 0 = .ok (.aload_n 0, 1) := by decide +kernel
theorem dX4_leftEntry_1 : decode cX4_leftEntry 1 = .ok (.iconst 0, 1) := by decide +kernel
theorem dX4_leftEntry_2 : decode cX4_leftEntry 2 = .ok (.iload_n 2, 1) := by decide +kernel
theorem dX4_leftEntry_3 : decode cX4_leftEntry 3 = .ok (.iload_n 3, 1) := by decide +kernel
theorem dX4_leftEntry_4 : decode cX4_leftEntry 4 = .ok (.invokevirtual 63, 3) := by decide +kernel
theorem dX4_leftEntry_7 : decode cX4_leftEntry 7 = .ok (.iload_n 2, 1) := by decide +kernel
theorem dX4_leftEntry_8 : decode cX4_leftEntry 8 = .ok (.iload_n 3, 1) := by decide +kernel
theorem dX4_leftEntry_9 : decode cX4_leftEntry 9 = .ok (.if_icmp .ne 7, 3) := by decide +kernel
theorem dX4_leftEntry_12 : decode cX4_leftEntry 12 = .ok (.iload_n 1, 1) := by decide +kernel
theorem dX4_leftEntry_13 : decode cX4_leftEntry 13 = .ok (.goto 4, 3) := by decide +kernel
theorem dX4_leftEntry_16 : decode cX4_leftEntry 16 = .ok (.iconst 0, 1) := by decide +kernel
theorem dX4_leftEntry_17 : decode cX4_leftEntry 17 = .ok (.iadd, 1) := by decide +kernel
theorem dX4_leftEntry_18 : decode cX4_leftEntry 18 = .ok (.ireturn, 1) := by decide +kernel
theorem dX4_rightEntry_0 : decode cX4_rightEntry 0 = .ok (.iload_n 1, 1) := by decide +kernel
theorem dX4_rightEntry_1 : decode cX4_rightEntry 1 = .ok (.tableswitch 54 0 4 #[35, 43, 45, 54, 45], 35) := by decide +kernel
theorem dX4_rightEntry_36 : decode cX4_rightEntry 36 = .ok (.aload_n 0, 1) := by decide +kernel
theorem dX4_rightEntry_37 : decode cX4_rightEntry 37 = .ok (.iconst 1, 1) := by decide +kernel
theorem dX4_rightEntry_38 : decode cX4_rightEntry 38 = .ok (.iload_n 2, 1) := by decide +kernel
theorem dX4_rightEntry_39 : decode cX4_rightEntry 39 = .ok (.iload_n 3, 1) := by decide +kernel
theorem dX4_rightEntry_40 : decode cX4_rightEntry 40 = .ok (.invokevirtual 63, 3) := by decide +kernel
theorem dX4_rightEntry_43 : decode cX4_rightEntry 43 = .ok (.ireturn, 1) := by decide +kernel
theorem dX4_rightEntry_44 : decode cX4_rightEntry 44 = .ok (.iconst 0, 1) := by decide +kernel
theorem dX4_rightEntry_45 : decode cX4_rightEntry 45 = .ok (.ireturn, 1) := by decide +kernel
theorem dX4_rightEntry_46 : decode cX4_rightEntry 46 = .ok (.aload_n 0, 1) := by decide +kernel
theorem dX4_rightEntry_47 : decode cX4_rightEntry 47 = .ok (.iconst 0, 1) := by decide +kernel
theorem dX4_rightEntry_48 : decode cX4_rightEntry 48 = .ok (.iload_n 2, 1) := by decide +kernel
theorem dX4_rightEntry_49 : decode cX4_rightEntry 49 = .ok (.iload_n 3, 1) := by decide +kernel
theorem dX4_rightEntry_50 : decode cX4_rightEntry 50 = .ok (.invokevirtual 63, 3) := by decide +kernel
theorem dX4_rightEntry_53 : decode cX4_rightEntry 53 = .ok (.ineg, 1) := by decide +kernel
theorem dX4_rightEntry_54 : decode cX4_rightEntry 54 = .ok (.ireturn, 1) := by decide +kernel
theorem dX4_rightEntry_55 : decode cX4_rightEntry 55 = .ok (.aload_n 0, 1) := by decide +kernel
theorem dX4_rightEntry_56 : decode cX4_rightEntry 56 = .ok (.iconst 0, 1) := by decide +kernel
theorem dX4_rightEntry_57 : decode cX4_rightEntry 57 = .ok (.iload_n 3, 1) := by decide +kernel
theorem dX4_rightEntry_58 : decode cX4_rightEntry 58 = .ok (.iload_n 2, 1) := by decide +kernel
theorem dX4_rightEntry_59 : decode cX4_rightEntry 59 = .ok (.invokevirtual 63, 3) := by decide +kernel
theorem dX4_rightEntry_62 : decode cX4_rightEntry 62 = .ok (.ireturn, 1) := by decide +kernel
theorem dX4_unknowns_0 : decode cX4_unknowns 0 = .ok (.iload_n 1, 1) := by decide +kernel
theorem dX4_unknowns_1 : decode cX4_unknowns 1 = .ok (.tableswitch 60 4 6 #[27, 32, 46], 27) := by decide +kernel
theorem dX4_unknowns_28 : decode cX4_unknowns 28 = .ok (.aload_n 0, 1) := by decide +kernel
theorem dX4_unknowns_29 : decode cX4_unknowns 29 = .ok (.getfield 9, 3) := by decide +kernel
theorem dX4_unknowns_32 : decode cX4_unknowns 32 = .ok (.ireturn, 1) := by decide +kernel
theorem dX4_unknowns_33 : decode cX4_unknowns 33 = .ok (.aload_n 0, 1) := by decide +kernel
theorem dX4_unknowns_34 : decode cX4_unknowns 34 = .ok (.getfield 9, 3) := by decide +kernel
theorem dX4_unknowns_37 : decode cX4_unknowns 37 = .ok (.aload_n 0, 1) := by decide +kernel
theorem dX4_unknowns_38 : decode cX4_unknowns 38 = .ok (.getfield 9, 3) := by decide +kernel
theorem dX4_unknowns_41 : decode cX4_unknowns 41 = .ok (.iconst 1, 1) := by decide +kernel
theorem dX4_unknowns_42 : decode cX4_unknowns 42 = .ok (.iadd, 1) := by decide +kernel
theorem dX4_unknowns_43 : decode cX4_unknowns 43 = .ok (.imul, 1) := by decide +kernel
theorem dX4_unknowns_44 : decode cX4_unknowns 44 = .ok (.iconst 2, 1) := by decide +kernel
theorem dX4_unknowns_45 : decode cX4_unknowns 45 = .ok (.idiv, 1) := by decide +kernel
theorem dX4_unknowns_46 : decode cX4_unknowns 46 = .ok (.ireturn, 1) := by decide +kernel
theorem dX4_unknowns_47 : decode cX4_unknowns 47 = .ok (.aload_n 0, 1) := by decide +kernel
theorem dX4_unknowns_48 : decode cX4_unknowns 48 = .ok (.getfield 9, 3) := by decide +kernel
theorem dX4_unknowns_51 : decode cX4_unknowns 51 = .ok (.aload_n 0, 1) := by decide +kernel
theorem dX4_unknowns_52 : decode cX4_unknowns 52 = .ok (.getfield 9, 3) := by decide +kernel
theorem dX4_unknowns_55 : decode cX4_unknowns 55 = .ok (.iconst 1, 1) := by decide +kernel
theorem dX4_unknowns_56 : decode cX4_unknowns 56 = .ok (.isub, 1) := by decide +kernel
theorem dX4_unknowns_57 : decode cX4_unknowns 57 = .ok (.imul, 1) := by decide +kernel
theorem dX4_unknowns_58 : decode cX4_unknowns 58 = .ok (.iconst 2, 1) := by decide +kernel
theorem dX4_unknowns_59 : decode cX4_unknowns 59 = .ok (.idiv, 1) := by decide +kernel
theorem dX4_unknowns_60 : decode cX4_unknowns 60 = .ok (.ireturn, 1) := by decide +kernel
theorem dX4_unknowns_61 : decode cX4_unknowns 61 = .ok (.aload_n 0, 1) := by decide +kernel
theorem dX4_unknowns_62 : decode cX4_unknowns 62 = .ok (.getfield 9, 3) := by decide +kernel
theorem dX4_unknowns_65 : decode cX4_unknowns 65 = .ok (.aload_n 0, 1) := by decide +kernel
theorem dX4_unknowns_66 : decode cX4_unknowns 66 = .ok (.getfield 15, 3) := by decide +kernel
theorem dX4_unknowns_69 : decode cX4_unknowns 69 = .ok (.imul, 1) := by decide +kernel
theorem dX4_unknowns_70 : decode cX4_unknowns 70 = .ok (.ireturn, 1) := by decide +kernel
theorem dX4_signAt_0 : decode cX4_signAt 0 = .ok (.iload_n 1, 1) := by decide +kernel
theorem dX4_signAt_1 : decode cX4_signAt 1 = .ok (.iconst 4, 1) := by decide +kernel
theorem dX4_signAt_2 : decode cX4_signAt 2 = .ok (.if_icmp .ne 14, 3) := by decide +kernel
theorem dX4_signAt_5 : decode cX4_signAt 5 = .ok (.iload_n 2, 1) := by decide +kernel
theorem dX4_signAt_6 : decode cX4_signAt 6 = .ok (.iload_n 3, 1) := by decide +kernel
theorem dX4_signAt_7 : decode cX4_signAt 7 = .ok (.if_icmp .ne 7, 3) := by decide +kernel
theorem dX4_signAt_10 : decode cX4_signAt 10 = .ok (.iconst 1, 1) := by decide +kernel
theorem dX4_signAt_11 : decode cX4_signAt 11 = .ok (.goto 4, 3) := by decide +kernel
theorem dX4_signAt_14 : decode cX4_signAt 14 = .ok (.iconst 0, 1) := by decide +kernel
theorem dX4_signAt_15 : decode cX4_signAt 15 = .ok (.ireturn, 1) := by decide +kernel
theorem dX4_signAt_16 : decode cX4_signAt 16 = .ok (.iload_n 1, 1) := by decide +kernel
theorem dX4_signAt_17 : decode cX4_signAt 17 = .ok (.bipush 6, 2) := by decide +kernel
theorem dX4_signAt_19 : decode cX4_signAt 19 = .ok (.if_icmp .ne 23, 3) := by decide +kernel
theorem dX4_signAt_22 : decode cX4_signAt 22 = .ok (.iload_n 2, 1) := by decide +kernel
theorem dX4_signAt_23 : decode cX4_signAt 23 = .ok (.iload_n 3, 1) := by decide +kernel
theorem dX4_signAt_24 : decode cX4_signAt 24 = .ok (.if_icmp .ne 7, 3) := by decide +kernel
theorem dX4_signAt_27 : decode cX4_signAt 27 = .ok (.iconst 0, 1) := by decide +kernel
theorem dX4_signAt_28 : decode cX4_signAt 28 = .ok (.goto 13, 3) := by decide +kernel
theorem dX4_signAt_31 : decode cX4_signAt 31 = .ok (.iload_n 2, 1) := by decide +kernel
theorem dX4_signAt_32 : decode cX4_signAt 32 = .ok (.iload_n 3, 1) := by decide +kernel
theorem dX4_signAt_33 : decode cX4_signAt 33 = .ok (.if_icmp .ge 7, 3) := by decide +kernel
theorem dX4_signAt_36 : decode cX4_signAt 36 = .ok (.iconst 1, 1) := by decide +kernel
theorem dX4_signAt_37 : decode cX4_signAt 37 = .ok (.goto 4, 3) := by decide +kernel
theorem dX4_signAt_40 : decode cX4_signAt 40 = .ok (.iconst (-1), 1) := by decide +kernel
theorem dX4_signAt_41 : decode cX4_signAt 41 = .ok (.ireturn, 1) := by decide +kernel
theorem dX4_signAt_42 : decode cX4_signAt 42 = .ok (.iconst 1, 1) := by decide +kernel
theorem dX4_signAt_43 : decode cX4_signAt 43 = .ok (.ireturn, 1) := by decide +kernel
theorem dX4_unknownAt_0 : decode cX4_unknownAt 0 = .ok (.iload_n 2, 1) := by decide +kernel
theorem dX4_unknownAt_1 : decode cX4_unknownAt 1 = .ok (.iload_n 3, 1) := by decide +kernel
theorem dX4_unknownAt_2 : decode cX4_unknownAt 2 = .ok (.invokestatic 103, 3) := by decide +kernel
theorem dX4_unknownAt_5 : decode cX4_unknownAt 5 = .ok (.istore 4, 2) := by decide +kernel
theorem dX4_unknownAt_7 : decode cX4_unknownAt 7 = .ok (.iload_n 2, 1) := by decide +kernel
theorem dX4_unknownAt_8 : decode cX4_unknownAt 8 = .ok (.iload_n 3, 1) := by decide +kernel
theorem dX4_unknownAt_9 : decode cX4_unknownAt 9 = .ok (.invokestatic 109, 3) := by decide +kernel
theorem dX4_unknownAt_12 : decode cX4_unknownAt 12 = .ok (.istore 5, 2) := by decide +kernel
theorem dX4_unknownAt_14 : decode cX4_unknownAt 14 = .ok (.iload_n 1, 1) := by decide +kernel
theorem dX4_unknownAt_15 : decode cX4_unknownAt 15 = .ok (.tableswitch 77 4 6 #[25, 27, 51], 25) := by decide +kernel
theorem dX4_unknownAt_40 : decode cX4_unknownAt 40 = .ok (.iload_n 2, 1) := by decide +kernel
theorem dX4_unknownAt_41 : decode cX4_unknownAt 41 = .ok (.ireturn, 1) := by decide +kernel
theorem dX4_unknownAt_42 : decode cX4_unknownAt 42 = .ok (.iload 4, 2) := by decide +kernel
theorem dX4_unknownAt_44 : decode cX4_unknownAt 44 = .ok (.aload_n 0, 1) := by decide +kernel
theorem dX4_unknownAt_45 : decode cX4_unknownAt 45 = .ok (.getfield 15, 3) := by decide +kernel
theorem dX4_unknownAt_48 : decode cX4_unknownAt 48 = .ok (.imul, 1) := by decide +kernel
theorem dX4_unknownAt_49 : decode cX4_unknownAt 49 = .ok (.iload 4, 2) := by decide +kernel
theorem dX4_unknownAt_51 : decode cX4_unknownAt 51 = .ok (.iload 4, 2) := by decide +kernel
theorem dX4_unknownAt_53 : decode cX4_unknownAt 53 = .ok (.iconst 1, 1) := by decide +kernel
theorem dX4_unknownAt_54 : decode cX4_unknownAt 54 = .ok (.isub, 1) := by decide +kernel
theorem dX4_unknownAt_55 : decode cX4_unknownAt 55 = .ok (.imul, 1) := by decide +kernel
theorem dX4_unknownAt_56 : decode cX4_unknownAt 56 = .ok (.iconst 2, 1) := by decide +kernel
theorem dX4_unknownAt_57 : decode cX4_unknownAt 57 = .ok (.idiv, 1) := by decide +kernel
theorem dX4_unknownAt_58 : decode cX4_unknownAt 58 = .ok (.isub, 1) := by decide +kernel
theorem dX4_unknownAt_59 : decode cX4_unknownAt 59 = .ok (.iload 5, 2) := by decide +kernel
theorem dX4_unknownAt_61 : decode cX4_unknownAt 61 = .ok (.iadd, 1) := by decide +kernel
theorem dX4_unknownAt_62 : decode cX4_unknownAt 62 = .ok (.iload 4, 2) := by decide +kernel
theorem dX4_unknownAt_64 : decode cX4_unknownAt 64 = .ok (.isub, 1) := by decide +kernel
theorem dX4_unknownAt_65 : decode cX4_unknownAt 65 = .ok (.ireturn, 1) := by decide +kernel
theorem dX4_unknownAt_66 : decode cX4_unknownAt 66 = .ok (.iload 4, 2) := by decide +kernel
theorem dX4_unknownAt_68 : decode cX4_unknownAt 68 = .ok (.aload_n 0, 1) := by decide +kernel
theorem dX4_unknownAt_69 : decode cX4_unknownAt 69 = .ok (.getfield 15, 3) := by decide +kernel
theorem dX4_unknownAt_72 : decode cX4_unknownAt 72 = .ok (.imul, 1) := by decide +kernel
theorem dX4_unknownAt_73 : decode cX4_unknownAt 73 = .ok (.iload 4, 2) := by decide +kernel
theorem dX4_unknownAt_75 : decode cX4_unknownAt 75 = .ok (.iload 4, 2) := by decide +kernel
theorem dX4_unknownAt_77 : decode cX4_unknownAt 77 = .ok (.iconst 1, 1) := by decide +kernel
theorem dX4_unknownAt_78 : decode cX4_unknownAt 78 = .ok (.iadd, 1) := by decide +kernel
theorem dX4_unknownAt_79 : decode cX4_unknownAt 79 = .ok (.imul, 1) := by decide +kernel
theorem dX4_unknownAt_80 : decode cX4_unknownAt 80 = .ok (.iconst 2, 1) := by decide +kernel
theorem dX4_unknownAt_81 : decode cX4_unknownAt 81 = .ok (.idiv, 1) := by decide +kernel
theorem dX4_unknownAt_82 : decode cX4_unknownAt 82 = .ok (.isub, 1) := by decide +kernel
theorem dX4_unknownAt_83 : decode cX4_unknownAt 83 = .ok (.iload 5, 2) := by decide +kernel
theorem dX4_unknownAt_85 : decode cX4_unknownAt 85 = .ok (.iadd, 1) := by decide +kernel
theorem dX4_unknownAt_86 : decode cX4_unknownAt 86 = .ok (.iload 4, 2) := by decide +kernel
theorem dX4_unknownAt_88 : decode cX4_unknownAt 88 = .ok (.isub, 1) := by decide +kernel
theorem dX4_unknownAt_89 : decode cX4_unknownAt 89 = .ok (.iconst 1, 1) := by decide +kernel
theorem dX4_unknownAt_90 : decode cX4_unknownAt 90 = .ok (.isub, 1) := by decide +kernel
theorem dX4_unknownAt_91 : decode cX4_unknownAt 91 = .ok (.ireturn, 1) := by decide +kernel
theorem dX4_unknownAt_92 : decode cX4_unknownAt 92 = .ok (.iload_n 2, 1) := by decide +kernel
theorem dX4_unknownAt_93 : decode cX4_unknownAt 93 = .ok (.aload_n 0, 1) := by decide +kernel
theorem dX4_unknownAt_94 : decode cX4_unknownAt 94 = .ok (.getfield 15, 3) := by decide +kernel
theorem dX4_unknownAt_97 : decode cX4_unknownAt 97 = .ok (.imul, 1) := by decide +kernel
theorem dX4_unknownAt_98 : decode cX4_unknownAt 98 = .ok (.iload_n 3, 1) := by decide +kernel
theorem dX4_unknownAt_99 : decode cX4_unknownAt 99 = .ok (.iadd, 1) := by decide +kernel
theorem dX4_unknownAt_100 : decode cX4_unknownAt 100 = .ok (.ireturn, 1) := by decide +kernel
theorem dX5_init_0 : decode cX5_init 0 = .ok (.aload_n 0, 1) := by decide +kernel
theorem dX5_init_1 : decode cX5_init 1 = .ok (.invokespecial 3, 3) := by decide +kernel
theorem dX5_init_4 : decode cX5_init 4 = .ok (.aload_n 0, 1) := by decide +kernel
theorem dX5_init_5 : decode cX5_init 5 = .ok (.sipush 200, 3) := by decide +kernel
theorem dX5_init_8 : decode cX5_init 8 = .ok (.newarray .byte, 2) := by decide +kernel
theorem dX5_init_10 : decode cX5_init 10 = .ok (.putfield 9, 3) := by decide +kernel
theorem dX5_init_13 : decode cX5_init 13 = .ok (.return_, 1) := by decide +kernel
theorem dX5_take_0 : decode cX5_take 0 = .ok (.aload_n 0, 1) := by decide +kernel
theorem dX5_take_1 : decode cX5_take 1 = .ok (.getfield 15, 3) := by decide +kernel
theorem dX5_take_4 : decode cX5_take 4 = .ok (.ifCond .lt 33, 3) := by decide +kernel
theorem dX5_take_7 : decode cX5_take 7 = .ok (.aload_n 0, 1) := by decide +kernel
theorem dX5_take_8 : decode cX5_take 8 = .ok (.getfield 15, 3) := by decide +kernel
theorem dX5_take_11 : decode cX5_take 11 = .ok (.sipush 200, 3) := by decide +kernel
theorem dX5_take_14 : decode cX5_take 14 = .ok (.if_icmp .ge 23, 3) := by decide +kernel
theorem dX5_take_17 : decode cX5_take 17 = .ok (.aload_n 0, 1) := by decide +kernel
theorem dX5_take_18 : decode cX5_take 18 = .ok (.getfield 9, 3) := by decide +kernel
theorem dX5_take_21 : decode cX5_take 21 = .ok (.aload_n 0, 1) := by decide +kernel
theorem dX5_take_22 : decode cX5_take 22 = .ok (.getfield 15, 3) := by decide +kernel
theorem dX5_take_25 : decode cX5_take 25 = .ok (.iload_n 1, 1) := by decide +kernel
theorem dX5_take_26 : decode cX5_take 26 = .ok (.bastore, 1) := by decide +kernel
theorem dX5_take_27 : decode cX5_take 27 = .ok (.aload_n 0, 1) := by decide +kernel
theorem dX5_take_28 : decode cX5_take 28 = .ok (.dup, 1) := by decide +kernel
theorem dX5_take_29 : decode cX5_take 29 = .ok (.getfield 15, 3) := by decide +kernel
theorem dX5_take_32 : decode cX5_take 32 = .ok (.iconst 1, 1) := by decide +kernel
theorem dX5_take_33 : decode cX5_take 33 = .ok (.iadd, 1) := by decide +kernel
theorem dX5_take_34 : decode cX5_take 34 = .ok (.putfield 15, 3) := by decide +kernel
theorem dX5_take_37 : decode cX5_take 37 = .ok (.return_, 1) := by decide +kernel
theorem dX5_tell_0 : decode cX5_tell 0 = .ok (.aload_n 0, 1) := by decide +kernel
theorem dX5_tell_1 : decode cX5_tell 1 = .ok (.iconst 0, 1) := by decide +kernel
theorem dX5_tell_2 : decode cX5_tell 2 = .ok (.putfield 19, 3) := by decide +kernel
theorem dX5_tell_5 : decode cX5_tell 5 = .ok (.iconst 0, 1) := by decide +kernel
theorem dX5_tell_6 : decode cX5_tell 6 = .ok (.istore_n 2, 1) := by decide +kernel
theorem dX5_tell_7 : decode cX5_tell 7 = .ok (.iconst 0, 1) := by decide +kernel
theorem dX5_tell_8 : decode cX5_tell 8 = .ok (.istore_n 3, 1) := by decide +kernel
theorem dX5_tell_9 : decode cX5_tell 9 = .ok (.iload_n 3, 1) := by decide +kernel
theorem dX5_tell_10 : decode cX5_tell 10 = .ok (.sipush 200, 3) := by decide +kernel
theorem dX5_tell_13 : decode cX5_tell 13 = .ok (.if_icmp .gt 58, 3) := by decide +kernel
theorem dX5_tell_16 : decode cX5_tell 16 = .ok (.aload_n 0, 1) := by decide +kernel
theorem dX5_tell_17 : decode cX5_tell 17 = .ok (.invokevirtual 22, 3) := by decide +kernel
theorem dX5_tell_20 : decode cX5_tell 20 = .ok (.aload_n 0, 1) := by decide +kernel
theorem dX5_tell_21 : decode cX5_tell 21 = .ok (.getfield 19, 3) := by decide +kernel
theorem dX5_tell_24 : decode cX5_tell 24 = .ok (.aload_n 0, 1) := by decide +kernel
theorem dX5_tell_25 : decode cX5_tell 25 = .ok (.getfield 15, 3) := by decide +kernel
theorem dX5_tell_28 : decode cX5_tell 28 = .ok (.if_icmp .lt 5, 3) := by decide +kernel
theorem dX5_tell_31 : decode cX5_tell 31 = .ok (.iload_n 2, 1) := by decide +kernel
theorem dX5_tell_32 : decode cX5_tell 32 = .ok (.ireturn, 1) := by decide +kernel
theorem dX5_tell_33 : decode cX5_tell 33 = .ok (.aload_n 0, 1) := by decide +kernel
theorem dX5_tell_34 : decode cX5_tell 34 = .ok (.invokevirtual 25, 3) := by decide +kernel
theorem dX5_tell_37 : decode cX5_tell 37 = .ok (.istore 4, 2) := by decide +kernel
theorem dX5_tell_39 : decode cX5_tell 39 = .ok (.iload 4, 2) := by decide +kernel
theorem dX5_tell_41 : decode cX5_tell 41 = .ok (.ifCond .lt 13, 3) := by decide +kernel
theorem dX5_tell_44 : decode cX5_tell 44 = .ok (.aload_n 0, 1) := by decide +kernel
theorem dX5_tell_45 : decode cX5_tell 45 = .ok (.aload_n 1, 1) := by decide +kernel
theorem dX5_tell_46 : decode cX5_tell 46 = .ok (.iload 4, 2) := by decide +kernel
theorem dX5_tell_48 : decode cX5_tell 48 = .ok (.invokevirtual 29, 3) := by decide +kernel
theorem dX5_tell_51 : decode cX5_tell 51 = .ok (.ifCond .ne 11, 3) := by decide +kernel
theorem dX5_tell_54 : decode cX5_tell 54 = .ok (.bipush (-100), 2) := by decide +kernel
theorem dX5_tell_56 : decode cX5_tell 56 = .ok (.aload_n 0, 1) := by decide +kernel
theorem dX5_tell_57 : decode cX5_tell 57 = .ok (.getfield 19, 3) := by decide +kernel
theorem dX5_tell_60 : decode cX5_tell 60 = .ok (.isub, 1) := by decide +kernel
theorem dX5_tell_61 : decode cX5_tell 61 = .ok (.ireturn, 1) := by decide +kernel
theorem dX5_tell_62 : decode cX5_tell 62 = .ok (.iinc 2 1, 3) := by decide +kernel
theorem dX5_tell_65 : decode cX5_tell 65 = .ok (.iinc 3 1, 3) := by decide +kernel
theorem dX5_tell_68 : decode cX5_tell 68 = .ok (.goto (-59), 3) := by decide +kernel
theorem dX5_tell_71 : decode cX5_tell 71 = .ok (.iload_n 2, 1) := by decide +kernel
theorem dX5_tell_72 : decode cX5_tell 72 = .ok (.ireturn, 1) := by decide +kernel
theorem dX5_here_0 : decode cX5_here 0 = .ok (.aload_n 0, 1) := by decide +kernel
theorem dX5_here_1 : decode cX5_here 1 = .ok (.getfield 19, 3) := by decide +kernel
theorem dX5_here_4 : decode cX5_here 4 = .ok (.iload_n 1, 1) := by decide +kernel
theorem dX5_here_5 : decode cX5_here 5 = .ok (.iadd, 1) := by decide +kernel
theorem dX5_here_6 : decode cX5_here 6 = .ok (.istore_n 2, 1) := by decide +kernel
theorem dX5_here_7 : decode cX5_here 7 = .ok (.iload_n 2, 1) := by decide +kernel
theorem dX5_here_8 : decode cX5_here 8 = .ok (.ifCond .lt 31, 3) := by decide +kernel
theorem dX5_here_11 : decode cX5_here 11 = .ok (.iload_n 2, 1) := by decide +kernel
theorem dX5_here_12 : decode cX5_here 12 = .ok (.aload_n 0, 1) := by decide +kernel
theorem dX5_here_13 : decode cX5_here 13 = .ok (.getfield 15, 3) := by decide +kernel
theorem dX5_here_16 : decode cX5_here 16 = .ok (.if_icmp .ge 23, 3) := by decide +kernel
theorem dX5_here_19 : decode cX5_here 19 = .ok (.iload_n 2, 1) := by decide +kernel
theorem dX5_here_20 : decode cX5_here 20 = .ok (.sipush 200, 3) := by decide +kernel
theorem dX5_here_23 : decode cX5_here 23 = .ok (.if_icmp .ge 16, 3) := by decide +kernel
theorem dX5_here_26 : decode cX5_here 26 = .ok (.aload_n 0, 1) := by decide +kernel
theorem dX5_here_27 : decode cX5_here 27 = .ok (.getfield 9, 3) := by decide +kernel
theorem dX5_here_30 : decode cX5_here 30 = .ok (.iload_n 2, 1) := by decide +kernel
theorem dX5_here_31 : decode cX5_here 31 = .ok (.baload, 1) := by decide +kernel
theorem dX5_here_32 : decode cX5_here 32 = .ok (.sipush 255, 3) := by decide +kernel
theorem dX5_here_35 : decode cX5_here 35 = .ok (.iand, 1) := by decide +kernel
theorem dX5_here_36 : decode cX5_here 36 = .ok (.goto 4, 3) := by decide +kernel
theorem dX5_here_39 : decode cX5_here 39 = .ok (.iconst (-1), 1) := by decide +kernel
theorem dX5_here_40 : decode cX5_here 40 = .ok (.ireturn, 1) := by decide +kernel
theorem dX5_skipBlanks_0 : decode cX5_skipBlanks 0 = .ok (.iconst 0, 1) := by decide +kernel
theorem dX5_skipBlanks_1 : decode cX5_skipBlanks 1 = .ok (.istore_n 1, 1) := by decide +kernel
theorem dX5_skipBlanks_2 : decode cX5_skipBlanks 2 = .ok (.iload_n 1, 1) := by decide +kernel
theorem dX5_skipBlanks_3 : decode cX5_skipBlanks 3 = .ok (.sipush 200, 3) := by decide +kernel
theorem dX5_skipBlanks_6 : decode cX5_skipBlanks 6 = .ok (.if_icmp .ge 29, 3) := by decide +kernel
theorem dX5_skipBlanks_9 : decode cX5_skipBlanks 9 = .ok (.aload_n 0, 1) := by decide +kernel
theorem dX5_skipBlanks_10 : decode cX5_skipBlanks 10 = .ok (.iconst 0, 1) := by decide +kernel
theorem dX5_skipBlanks_11 : decode cX5_skipBlanks 11 = .ok (.invokevirtual 33, 3) := by decide +kernel
theorem dX5_skipBlanks_14 : decode cX5_skipBlanks 14 = .ok (.bipush 32, 2) := by decide +kernel
theorem dX5_skipBlanks_16 : decode cX5_skipBlanks 16 = .ok (.if_icmp .ne 19, 3) := by decide +kernel
theorem dX5_skipBlanks_19 : decode cX5_skipBlanks 19 = .ok (.aload_n 0, 1) := by decide +kernel
theorem dX5_skipBlanks_20 : decode cX5_skipBlanks 20 = .ok (.dup, 1) := by decide +kernel
theorem dX5_skipBlanks_21 : decode cX5_skipBlanks 21 = .ok (.getfield 19, 3) := by decide +kernel
theorem dX5_skipBlanks_24 : decode cX5_skipBlanks 24 = .ok (.iconst 1, 1) := by decide +kernel
theorem dX5_skipBlanks_25 : decode cX5_skipBlanks 25 = .ok (.iadd, 1) := by decide +kernel
theorem dX5_skipBlanks_26 : decode cX5_skipBlanks 26 = .ok (.putfield 19, 3) := by decide +kernel
theorem dX5_skipBlanks_29 : decode cX5_skipBlanks 29 = .ok (.iinc 1 1, 3) := by decide +kernel
theorem dX5_skipBlanks_32 : decode cX5_skipBlanks 32 = .ok (.goto (-30), 3) := by decide +kernel
theorem dX5_skipBlanks_35 : decode cX5_skipBlanks 35 = .ok (.return_, 1) := by decide +kernel
theorem dX5_stretch_0 : decode cX5_stretch 0 = .ok (.iconst 0, 1) := by decide +kernel
theorem dX5_stretch_1 : decode cX5_stretch 1 = .ok (.istore_n 3, 1) := by decide +kernel
theorem dX5_stretch_2 : decode cX5_stretch 2 = .ok (.iload_n 3, 1) := by decide +kernel
theorem dX5_stretch_3 : decode cX5_stretch 3 = .ok (.sipush 200, 3) := by decide +kernel
theorem dX5_stretch_6 : decode cX5_stretch 6 = .ok (.if_icmp .ge 27, 3) := by decide +kernel
theorem dX5_stretch_9 : decode cX5_stretch 9 = .ok (.aload_n 0, 1) := by decide +kernel
theorem dX5_stretch_10 : decode cX5_stretch 10 = .ok (.iload_n 3, 1) := by decide +kernel
theorem dX5_stretch_11 : decode cX5_stretch 11 = .ok (.invokevirtual 33, 3) := by decide +kernel
theorem dX5_stretch_14 : decode cX5_stretch 14 = .ok (.iload_n 1, 1) := by decide +kernel
theorem dX5_stretch_15 : decode cX5_stretch 15 = .ok (.if_icmp .lt 18, 3) := by decide +kernel
theorem dX5_stretch_18 : decode cX5_stretch 18 = .ok (.aload_n 0, 1) := by decide +kernel
theorem dX5_stretch_19 : decode cX5_stretch 19 = .ok (.iload_n 3, 1) := by decide +kernel
theorem dX5_stretch_20 : decode cX5_stretch 20 = .ok (.invokevirtual 33, 3) := by decide +kernel
theorem dX5_stretch_23 : decode cX5_stretch 23 = .ok (.iload_n 2, 1) := by decide +kernel
theorem dX5_stretch_24 : decode cX5_stretch 24 = .ok (.if_icmp .gt 9, 3) := by decide +kernel
theorem dX5_stretch_27 : decode cX5_stretch 27 = .ok (.iinc 3 1, 3) := by decide +kernel
theorem dX5_stretch_30 : decode cX5_stretch 30 = .ok (.goto (-28), 3) := by decide +kernel
theorem dX5_stretch_33 : decode cX5_stretch 33 = .ok (.iload_n 3, 1) := by decide +kernel
theorem dX5_stretch_34 : decode cX5_stretch 34 = .ok (.ireturn, 1) := by decide +kernel
theorem dX5_readName_0 : decode cX5_readName 0 = .ok (.aload_n 0, 1) := by decide +kernel
theorem dX5_readName_1 : decode cX5_readName 1 = .ok (.bipush 97, 2) := by decide +kernel
theorem dX5_readName_3 : decode cX5_readName 3 = .ok (.bipush 122, 2) := by decide +kernel
theorem dX5_readName_5 : decode cX5_readName 5 = .ok (.invokevirtual 37, 3) := by decide +kernel
theorem dX5_readName_8 : decode cX5_readName 8 = .ok (.iconst 1, 1) := by decide +kernel
theorem dX5_readName_9 : decode cX5_readName 9 = .ok (.if_icmp .ne 13, 3) := by decide +kernel
theorem dX5_readName_12 : decode cX5_readName 12 = .ok (.aload_n 0, 1) := by decide +kernel
theorem dX5_readName_13 : decode cX5_readName 13 = .ok (.iconst 0, 1) := by decide +kernel
theorem dX5_readName_14 : decode cX5_readName 14 = .ok (.invokevirtual 33, 3) := by decide +kernel
theorem dX5_readName_17 : decode cX5_readName 17 = .ok (.bipush 99, 2) := by decide +kernel
theorem dX5_readName_19 : decode cX5_readName 19 = .ok (.if_icmp .le 5, 3) := by decide +kernel
theorem dX5_readName_22 : decode cX5_readName 22 = .ok (.iconst (-1), 1) := by decide +kernel
theorem dX5_readName_23 : decode cX5_readName 23 = .ok (.ireturn, 1) := by decide +kernel
theorem dX5_readName_24 : decode cX5_readName 24 = .ok (.aload_n 0, 1) := by decide +kernel
theorem dX5_readName_25 : decode cX5_readName 25 = .ok (.iconst 0, 1) := by decide +kernel
theorem dX5_readName_26 : decode cX5_readName 26 = .ok (.invokevirtual 33, 3) := by decide +kernel
theorem dX5_readName_29 : decode cX5_readName 29 = .ok (.bipush 97, 2) := by decide +kernel
theorem dX5_readName_31 : decode cX5_readName 31 = .ok (.isub, 1) := by decide +kernel
theorem dX5_readName_32 : decode cX5_readName 32 = .ok (.istore_n 1, 1) := by decide +kernel
theorem dX5_readName_33 : decode cX5_readName 33 = .ok (.aload_n 0, 1) := by decide +kernel
theorem dX5_readName_34 : decode cX5_readName 34 = .ok (.dup, 1) := by decide +kernel
theorem dX5_readName_35 : decode cX5_readName 35 = .ok (.getfield 19, 3) := by decide +kernel
theorem dX5_readName_38 : decode cX5_readName 38 = .ok (.iconst 1, 1) := by decide +kernel
theorem dX5_readName_39 : decode cX5_readName 39 = .ok (.iadd, 1) := by decide +kernel
theorem dX5_readName_40 : decode cX5_readName 40 = .ok (.putfield 19, 3) := by decide +kernel
theorem dX5_readName_43 : decode cX5_readName 43 = .ok (.iload_n 1, 1) := by decide +kernel
theorem dX5_readName_44 : decode cX5_readName 44 = .ok (.ireturn, 1) := by decide +kernel
theorem dX5_readTable_0 : decode cX5_readTable 0 = .ok (.aload_n 1, 1) := by decide +kernel
theorem dX5_readTable_1 : decode cX5_readTable 1 = .ok (.iload_n 2, 1) := by decide +kernel
theorem dX5_readTable_2 : decode cX5_readTable 2 = .ok (.invokevirtual 41, 3) := by decide +kernel
theorem dX5_readTable_5 : decode cX5_readTable 5 = .ok (.istore_n 3, 1) := by decide +kernel
theorem dX5_readTable_6 : decode cX5_readTable 6 = .ok (.iconst 0, 1) := by decide +kernel
theorem dX5_readTable_7 : decode cX5_readTable 7 = .ok (.istore 4, 2) := by decide +kernel
theorem dX5_readTable_9 : decode cX5_readTable 9 = .ok (.iload 4, 2) := by decide +kernel
theorem dX5_readTable_11 : decode cX5_readTable 11 = .ok (.iload_n 3, 1) := by decide +kernel
theorem dX5_readTable_12 : decode cX5_readTable 12 = .ok (.if_icmp .ge 67, 3) := by decide +kernel
theorem dX5_readTable_15 : decode cX5_readTable 15 = .ok (.iconst 0, 1) := by decide +kernel
theorem dX5_readTable_16 : decode cX5_readTable 16 = .ok (.istore 5, 2) := by decide +kernel
theorem dX5_readTable_18 : decode cX5_readTable 18 = .ok (.iload 5, 2) := by decide +kernel
theorem dX5_readTable_20 : decode cX5_readTable 20 = .ok (.aload_n 1, 1) := by decide +kernel
theorem dX5_readTable_21 : decode cX5_readTable 21 = .ok (.iload_n 2, 1) := by decide +kernel
theorem dX5_readTable_22 : decode cX5_readTable 22 = .ok (.invokevirtual 46, 3) := by decide +kernel
theorem dX5_readTable_25 : decode cX5_readTable 25 = .ok (.if_icmp .ge 24, 3) := by decide +kernel
theorem dX5_readTable_28 : decode cX5_readTable 28 = .ok (.aload_n 0, 1) := by decide +kernel
theorem dX5_readTable_29 : decode cX5_readTable 29 = .ok (.aload_n 1, 1) := by decide +kernel
theorem dX5_readTable_30 : decode cX5_readTable 30 = .ok (.iload_n 2, 1) := by decide +kernel
theorem dX5_readTable_31 : decode cX5_readTable 31 = .ok (.iload 4, 2) := by decide +kernel
theorem dX5_readTable_33 : decode cX5_readTable 33 = .ok (.iload 5, 2) := by decide +kernel
theorem dX5_readTable_35 : decode cX5_readTable 35 = .ok (.invokevirtual 49, 3) := by decide +kernel
theorem dX5_readTable_38 : decode cX5_readTable 38 = .ok (.ifCond .ne 5, 3) := by decide +kernel
theorem dX5_readTable_41 : decode cX5_readTable 41 = .ok (.iconst 0, 1) := by decide +kernel
theorem dX5_readTable_42 : decode cX5_readTable 42 = .ok (.ireturn, 1) := by decide +kernel
theorem dX5_readTable_43 : decode cX5_readTable 43 = .ok (.iinc 5 1, 3) := by decide +kernel
theorem dX5_readTable_46 : decode cX5_readTable 46 = .ok (.goto (-28), 3) := by decide +kernel
theorem dX5_readTable_49 : decode cX5_readTable 49 = .ok (.aload_n 0, 1) := by decide +kernel
theorem dX5_readTable_50 : decode cX5_readTable 50 = .ok (.iload 4, 2) := by decide +kernel
theorem dX5_readTable_52 : decode cX5_readTable 52 = .ok (.iload_n 3, 1) := by decide +kernel
theorem dX5_readTable_53 : decode cX5_readTable 53 = .ok (.iconst 1, 1) := by decide +kernel
theorem dX5_readTable_54 : decode cX5_readTable 54 = .ok (.isub, 1) := by decide +kernel
theorem dX5_readTable_55 : decode cX5_readTable 55 = .ok (.if_icmp .ge 8, 3) := by decide +kernel
theorem dX5_readTable_58 : decode cX5_readTable 58 = .ok (.bipush 44, 2) := by decide +kernel
theorem dX5_readTable_60 : decode cX5_readTable 60 = .ok (.goto 5, 3) := by decide +kernel
theorem dX5_readTable_63 : decode cX5_readTable 63 = .ok (.bipush 59, 2) := by decide +kernel
theorem dX5_readTable_65 : decode cX5_readTable 65 = .ok (.invokevirtual 53, 3) := by decide +kernel
theorem dX5_readTable_68 : decode cX5_readTable 68 = .ok (.ifCond .ne 5, 3) := by decide +kernel
theorem dX5_readTable_71 : decode cX5_readTable 71 = .ok (.iconst 0, 1) := by decide +kernel
theorem dX5_readTable_72 : decode cX5_readTable 72 = .ok (.ireturn, 1) := by decide +kernel
theorem dX5_readTable_73 : decode cX5_readTable 73 = .ok (.iinc 4 1, 3) := by decide +kernel
theorem dX5_readTable_76 : decode cX5_readTable 76 = .ok (.goto (-67), 3) := by decide +kernel
theorem dX5_readTable_79 : decode cX5_readTable 79 = .ok (.iconst 1, 1) := by decide +kernel
theorem dX5_readTable_80 : decode cX5_readTable 80 = .ok (.ireturn, 1) := by decide +kernel
theorem dX5_readMark_0 : decode cX5_readMark 0 = .ok (.aload_n 0, 1) := by decide +kernel
theorem dX5_readMark_1 : decode cX5_readMark 1 = .ok (.invokevirtual 22, 3) := by decide +kernel
theorem dX5_readMark_4 : decode cX5_readMark 4 = .ok (.aload_n 0, 1) := by decide +kernel
theorem dX5_readMark_5 : decode cX5_readMark 5 = .ok (.iconst 0, 1) := by decide +kernel
theorem dX5_readMark_6 : decode cX5_readMark 6 = .ok (.invokevirtual 33, 3) := by decide +kernel
theorem dX5_readMark_9 : decode cX5_readMark 9 = .ok (.iload_n 1, 1) := by decide +kernel
theorem dX5_readMark_10 : decode cX5_readMark 10 = .ok (.if_icmp .eq 5, 3) := by decide +kernel
theorem dX5_readMark_13 : decode cX5_readMark 13 = .ok (.iconst 0, 1) := by decide +kernel
theorem dX5_readMark_14 : decode cX5_readMark 14 = .ok (.ireturn, 1) := by decide +kernel
theorem dX5_readMark_15 : decode cX5_readMark 15 = .ok (.aload_n 0, 1) := by decide +kernel
theorem dX5_readMark_16 : decode cX5_readMark 16 = .ok (.dup, 1) := by decide +kernel
theorem dX5_readMark_17 : decode cX5_readMark 17 = .ok (.getfield 19, 3) := by decide +kernel
theorem dX5_readMark_20 : decode cX5_readMark 20 = .ok (.iconst 1, 1) := by decide +kernel
theorem dX5_readMark_21 : decode cX5_readMark 21 = .ok (.iadd, 1) := by decide +kernel
theorem dX5_readMark_22 : decode cX5_readMark 22 = .ok (.putfield 19, 3) := by decide +kernel
theorem dX5_readMark_25 : decode cX5_readMark 25 = .ok (.iconst 1, 1) := by decide +kernel
theorem dX5_readMark_26 : decode cX5_readMark 26 = .ok (.ireturn, 1) := by decide +kernel
theorem dX5_readEntry_0 : decode cX5_readEntry 0 = .ok (.aload_n 0, 1) := by decide +kernel
theorem dX5_readEntry_1 : decode cX5_readEntry 1 = .ok (.bipush 45, 2) := by decide +kernel
theorem dX5_readEntry_3 : decode cX5_readEntry 3 = .ok (.invokevirtual 53, 3) := by decide +kernel
theorem dX5_readEntry_6 : decode cX5_readEntry 6 = .ok (.istore 5, 2) := by decide +kernel
theorem dX5_readEntry_8 : decode cX5_readEntry 8 = .ok (.aload_n 0, 1) := by decide +kernel
theorem dX5_readEntry_9 : decode cX5_readEntry 9 = .ok (.invokevirtual 22, 3) := by decide +kernel
theorem dX5_readEntry_12 : decode cX5_readEntry 12 = .ok (.aload_n 0, 1) := by decide +kernel
theorem dX5_readEntry_13 : decode cX5_readEntry 13 = .ok (.bipush 48, 2) := by decide +kernel
theorem dX5_readEntry_15 : decode cX5_readEntry 15 = .ok (.bipush 57, 2) := by decide +kernel
theorem dX5_readEntry_17 : decode cX5_readEntry 17 = .ok (.invokevirtual 37, 3) := by decide +kernel
theorem dX5_readEntry_20 : decode cX5_readEntry 20 = .ok (.istore 6, 2) := by decide +kernel
theorem dX5_readEntry_22 : decode cX5_readEntry 22 = .ok (.iload 6, 2) := by decide +kernel
theorem dX5_readEntry_24 : decode cX5_readEntry 24 = .ok (.iconst 1, 1) := by decide +kernel
theorem dX5_readEntry_25 : decode cX5_readEntry 25 = .ok (.if_icmp .lt 9, 3) := by decide +kernel
theorem dX5_readEntry_28 : decode cX5_readEntry 28 = .ok (.iload 6, 2) := by decide +kernel
theorem dX5_readEntry_30 : decode cX5_readEntry 30 = .ok (.iconst 2, 1) := by decide +kernel
theorem dX5_readEntry_31 : decode cX5_readEntry 31 = .ok (.if_icmp .le 5, 3) := by decide +kernel
theorem dX5_readEntry_34 : decode cX5_readEntry 34 = .ok (.iconst 0, 1) := by decide +kernel
theorem dX5_readEntry_35 : decode cX5_readEntry 35 = .ok (.ireturn, 1) := by decide +kernel
theorem dX5_readEntry_36 : decode cX5_readEntry 36 = .ok (.aload_n 0, 1) := by decide +kernel
theorem dX5_readEntry_37 : decode cX5_readEntry 37 = .ok (.iconst 0, 1) := by decide +kernel
theorem dX5_readEntry_38 : decode cX5_readEntry 38 = .ok (.invokevirtual 33, 3) := by decide +kernel
theorem dX5_readEntry_41 : decode cX5_readEntry 41 = .ok (.bipush 48, 2) := by decide +kernel
theorem dX5_readEntry_43 : decode cX5_readEntry 43 = .ok (.isub, 1) := by decide +kernel
theorem dX5_readEntry_44 : decode cX5_readEntry 44 = .ok (.istore 7, 2) := by decide +kernel
theorem dX5_readEntry_46 : decode cX5_readEntry 46 = .ok (.iload 6, 2) := by decide +kernel
theorem dX5_readEntry_48 : decode cX5_readEntry 48 = .ok (.iconst 2, 1) := by decide +kernel
theorem dX5_readEntry_49 : decode cX5_readEntry 49 = .ok (.if_icmp .ne 19, 3) := by decide +kernel
theorem dX5_readEntry_52 : decode cX5_readEntry 52 = .ok (.bipush 10, 2) := by decide +kernel
theorem dX5_readEntry_54 : decode cX5_readEntry 54 = .ok (.iload 7, 2) := by decide +kernel
theorem dX5_readEntry_56 : decode cX5_readEntry 56 = .ok (.imul, 1) := by decide +kernel
theorem dX5_readEntry_57 : decode cX5_readEntry 57 = .ok (.aload_n 0, 1) := by decide +kernel
theorem dX5_readEntry_58 : decode cX5_readEntry 58 = .ok (.iconst 1, 1) := by decide +kernel
theorem dX5_readEntry_59 : decode cX5_readEntry 59 = .ok (.invokevirtual 33, 3) := by decide +kernel
theorem dX5_readEntry_62 : decode cX5_readEntry 62 = .ok (.iadd, 1) := by decide +kernel
theorem dX5_readEntry_63 : decode cX5_readEntry 63 = .ok (.bipush 48, 2) := by decide +kernel
theorem dX5_readEntry_65 : decode cX5_readEntry 65 = .ok (.isub, 1) := by decide +kernel
theorem dX5_readEntry_66 : decode cX5_readEntry 66 = .ok (.istore 7, 2) := by decide +kernel
theorem dX5_readEntry_68 : decode cX5_readEntry 68 = .ok (.iload 7, 2) := by decide +kernel
theorem dX5_readEntry_70 : decode cX5_readEntry 70 = .ok (.iload_n 2, 1) := by decide +kernel
theorem dX5_readEntry_71 : decode cX5_readEntry 71 = .ok (.invokestatic 57, 3) := by decide +kernel
theorem dX5_readEntry_74 : decode cX5_readEntry 74 = .ok (.if_icmp .le 5, 3) := by decide +kernel
theorem dX5_readEntry_77 : decode cX5_readEntry 77 = .ok (.iconst 0, 1) := by decide +kernel
theorem dX5_readEntry_78 : decode cX5_readEntry 78 = .ok (.ireturn, 1) := by decide +kernel
theorem dX5_readEntry_79 : decode cX5_readEntry 79 = .ok (.aload_n 0, 1) := by decide +kernel
theorem dX5_readEntry_80 : decode cX5_readEntry 80 = .ok (.dup, 1) := by decide +kernel
theorem dX5_readEntry_81 : decode cX5_readEntry 81 = .ok (.getfield 19, 3) := by decide +kernel
theorem dX5_readEntry_84 : decode cX5_readEntry 84 = .ok (.iload 6, 2) := by decide +kernel
theorem dX5_readEntry_86 : decode cX5_readEntry 86 = .ok (.iadd, 1) := by decide +kernel
theorem dX5_readEntry_87 : decode cX5_readEntry 87 = .ok (.putfield 19, 3) := by decide +kernel
theorem dX5_readEntry_90 : decode cX5_readEntry 90 = .ok (.aload_n 1, 1) := by decide +kernel
theorem dX5_readEntry_91 : decode cX5_readEntry 91 = .ok (.iload_n 2, 1) := by decide +kernel
theorem dX5_readEntry_92 : decode cX5_readEntry 92 = .ok (.iload_n 3, 1) := by decide +kernel
theorem dX5_readEntry_93 : decode cX5_readEntry 93 = .ok (.iload 4, 2) := by decide +kernel
theorem dX5_readEntry_95 : decode cX5_readEntry 95 = .ok (.iload 5, 2) := by decide +kernel
theorem dX5_readEntry_97 : decode cX5_readEntry 97 = .ok (.ifCond .eq 9, 3) := by decide +kernel
theorem dX5_readEntry_100 : decode cX5_readEntry 100 = .ok (.iload 7, 2) := by decide +kernel
theorem dX5_readEntry_102 : decode cX5_readEntry 102 = .ok (.ineg, 1) := by decide +kernel
theorem dX5_readEntry_103 : decode cX5_readEntry 103 = .ok (.goto 5, 3) := by decide +kernel
theorem dX5_readEntry_106 : decode cX5_readEntry 106 = .ok (.iload 7, 2) := by decide +kernel
theorem dX5_readEntry_108 : decode cX5_readEntry 108 = .ok (.invokevirtual 60, 3) := by decide +kernel
theorem dX5_readEntry_111 : decode cX5_readEntry 111 = .ok (.iconst 1, 1) := by decide +kernel
theorem dX5_readEntry_112 : decode cX5_readEntry 112 = .ok (.ireturn, 1) := by decide +kernel
theorem dJ7_fill_d0a16_0 : decode cJ7_fill_d0a16 0 = .ok (.iconst 0, 1) := by decide +kernel
theorem dJ7_fill_d0a16_1 : decode cJ7_fill_d0a16 1 = .ok (.istore_n 3, 1) := by decide +kernel
theorem dJ7_fill_d0a16_2 : decode cJ7_fill_d0a16 2 = .ok (.aload_n 0, 1) := by decide +kernel
theorem dJ7_fill_d0a16_3 : decode cJ7_fill_d0a16 3 = .ok (.arraylength, 1) := by decide +kernel
theorem dJ7_fill_d0a16_4 : decode cJ7_fill_d0a16 4 = .ok (.istore 4, 2) := by decide +kernel
theorem dJ7_fill_d0a16_6 : decode cJ7_fill_d0a16 6 = .ok (.iload_n 3, 1) := by decide +kernel
theorem dJ7_fill_d0a16_7 : decode cJ7_fill_d0a16 7 = .ok (.iload 4, 2) := by decide +kernel
theorem dJ7_fill_d0a16_9 : decode cJ7_fill_d0a16 9 = .ok (.if_icmp .ge 13, 3) := by decide +kernel
theorem dJ7_fill_d0a16_12 : decode cJ7_fill_d0a16 12 = .ok (.aload_n 0, 1) := by decide +kernel
theorem dJ7_fill_d0a16_13 : decode cJ7_fill_d0a16 13 = .ok (.iload_n 3, 1) := by decide +kernel
theorem dJ7_fill_d0a16_14 : decode cJ7_fill_d0a16 14 = .ok (.lload_n 1, 1) := by decide +kernel
theorem dJ7_fill_d0a16_15 : decode cJ7_fill_d0a16 15 = .ok (.lastore, 1) := by decide +kernel
theorem dJ7_fill_d0a16_16 : decode cJ7_fill_d0a16 16 = .ok (.iinc 3 1, 3) := by decide +kernel
theorem dJ7_fill_d0a16_19 : decode cJ7_fill_d0a16 19 = .ok (.goto (-13), 3) := by decide +kernel
theorem dJ7_fill_d0a16_22 : decode cJ7_fill_d0a16 22 = .ok (.return_, 1) := by decide +kernel
theorem dJ7_fill_53178_0 : decode cJ7_fill_53178 0 = .ok (.iconst 0, 1) := by decide +kernel
theorem dJ7_fill_53178_1 : decode cJ7_fill_53178 1 = .ok (.istore_n 2, 1) := by decide +kernel
theorem dJ7_fill_53178_2 : decode cJ7_fill_53178 2 = .ok (.aload_n 0, 1) := by decide +kernel
theorem dJ7_fill_53178_3 : decode cJ7_fill_53178 3 = .ok (.arraylength, 1) := by decide +kernel
theorem dJ7_fill_53178_4 : decode cJ7_fill_53178 4 = .ok (.istore_n 3, 1) := by decide +kernel
theorem dJ7_fill_53178_5 : decode cJ7_fill_53178 5 = .ok (.iload_n 2, 1) := by decide +kernel
theorem dJ7_fill_53178_6 : decode cJ7_fill_53178 6 = .ok (.iload_n 3, 1) := by decide +kernel
theorem dJ7_fill_53178_7 : decode cJ7_fill_53178 7 = .ok (.if_icmp .ge 13, 3) := by decide +kernel
theorem dJ7_fill_53178_10 : decode cJ7_fill_53178 10 = .ok (.aload_n 0, 1) := by decide +kernel
theorem dJ7_fill_53178_11 : decode cJ7_fill_53178 11 = .ok (.iload_n 2, 1) := by decide +kernel
theorem dJ7_fill_53178_12 : decode cJ7_fill_53178 12 = .ok (.iload_n 1, 1) := by decide +kernel
theorem dJ7_fill_53178_13 : decode cJ7_fill_53178 13 = .ok (.iastore, 1) := by decide +kernel
theorem dJ7_fill_53178_14 : decode cJ7_fill_53178 14 = .ok (.iinc 2 1, 3) := by decide +kernel
theorem dJ7_fill_53178_17 : decode cJ7_fill_53178 17 = .ok (.goto (-12), 3) := by decide +kernel
theorem dJ7_fill_53178_20 : decode cJ7_fill_53178 20 = .ok (.return_, 1) := by decide +kernel
