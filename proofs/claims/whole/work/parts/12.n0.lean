theorem dX0_init_0 : decode cX0_init 0 = .ok (.aload_n 0, 1) := by decide +kernel
theorem dX0_init_1 : decode cX0_init 1 = .ok (.invokespecial 3, 3) := by decide +kernel
theorem dX0_init_4 : decode cX0_init 4 = .ok (.aload_n 0, 1) := by decide +kernel
theorem dX0_init_5 : decode cX0_init 5 = .ok (.bipush 30, 2) := by decide +kernel
theorem dX0_init_7 : decode cX0_init 7 = .ok (.newarray .int, 2) := by decide +kernel
theorem dX0_init_9 : decode cX0_init 9 = .ok (.putfield 9, 3) := by decide +kernel
theorem dX0_init_12 : decode cX0_init 12 = .ok (.return_, 1) := by decide +kernel
theorem dX0_forget_0 : decode cX0_forget 0 = .ok (.aload_n 0, 1) := by decide +kernel
theorem dX0_forget_1 : decode cX0_forget 1 = .ok (.iconst 0, 1) := by decide +kernel
theorem dX0_forget_2 : decode cX0_forget 2 = .ok (.putfield 15, 3) := by decide +kernel
theorem dX0_forget_5 : decode cX0_forget 5 = .ok (.aload_n 0, 1) := by decide +kernel
theorem dX0_forget_6 : decode cX0_forget 6 = .ok (.iconst 0, 1) := by decide +kernel
theorem dX0_forget_7 : decode cX0_forget 7 = .ok (.putfield 19, 3) := by decide +kernel
theorem dX0_forget_10 : decode cX0_forget 10 = .ok (.return_, 1) := by decide +kernel
set_option maxRecDepth 20000 in
theorem ggX0_run_X0_weighs : GoodIn wsX0_run wsX0_weighs := goodIn_r _ [7, 8, 9, 10, 11, 12, 6, 13, 2, 14, 15, 3, 4, 5, 28, 29, 30, 31, 32, 33] (by decide +kernel) (by decide +kernel)
set_option maxRecDepth 20000 in
theorem gX0_run_X0_weighs : GoodIn wsX0_run (wsV RX0 26 RX0 yX0_weighs wsX0_weighs) := goodIn_app (goodIn_of _ (by decide +kernel)) ggX0_run_X0_weighs
set_option maxRecDepth 20000 in
theorem ggX0_run_X0_turns : GoodIn wsX0_run wsX0_turns := goodIn_r _ [19, 8, 1, 10, 11, 12, 6, 13, 2, 14, 15, 16, 17, 18, 3, 4, 5, 7, 9, 28, 29, 30, 31, 32, 33] (by decide +kernel) (by decide +kernel)
set_option maxRecDepth 20000 in
theorem gX0_run_X0_turns : GoodIn wsX0_run (wsV RX0 30 RX0 yX0_turns wsX0_turns) := goodIn_app (goodIn_of _ (by decide +kernel)) ggX0_run_X0_turns
set_option maxRecDepth 20000 in
theorem ggX0_run_X0_parts : GoodIn wsX0_run wsX0_parts := goodIn_r _ [23, 1, 9, 8, 2, 10, 11, 12, 6, 13, 14, 15, 20, 21, 22, 3, 4, 5, 7, 28, 29, 30, 31, 32, 33] (by decide +kernel) (by decide +kernel)
set_option maxRecDepth 20000 in
theorem gX0_run_X0_parts : GoodIn wsX0_run (wsV RX0 33 RX0 yX0_parts wsX0_parts) := goodIn_app (goodIn_of _ (by decide +kernel)) ggX0_run_X0_parts
set_option maxRecDepth 20000 in
theorem ggX0_run_X0_closes : GoodIn wsX0_run wsX0_closes := goodIn_r _ [27, 1, 10, 11, 12, 6, 13, 2, 14, 15, 24, 25, 26, 16, 17, 18, 19, 8, 3, 4, 5, 7, 9, 20, 21, 22, 23, 28, 29, 30, 31, 32, 33] (by decide +kernel) (by decide +kernel)
set_option maxRecDepth 20000 in
theorem gX0_run_X0_closes : GoodIn wsX0_run (wsV RX0 36 RX0 yX0_closes wsX0_closes) := goodIn_app (goodIn_of _ (by decide +kernel)) ggX0_run_X0_closes
theorem dX0_run_0 : decode cX0_run 0 = .ok (.iload_n 1, 1) := by decide +kernel
theorem dX0_run_1 : decode cX0_run 1 = .ok (.tableswitch 66 0 2 #[27, 40, 53], 27) := by decide +kernel
theorem dX0_run_28 : decode cX0_run 28 = .ok (.aload_n 0, 1) := by decide +kernel
theorem dX0_run_29 : decode cX0_run 29 = .ok (.aload_n 0, 1) := by decide +kernel
theorem dX0_run_30 : decode cX0_run 30 = .ok (.getfield 23, 3) := by decide +kernel
theorem dX0_run_33 : decode cX0_run 33 = .ok (.iload_n 2, 1) := by decide +kernel
theorem dX0_run_34 : decode cX0_run 34 = .ok (.invokevirtual 26, 3) := by decide +kernel
theorem dX0_run_37 : decode cX0_run 37 = .ok (.istore_n 3, 1) := by decide +kernel
theorem dX0_run_38 : decode cX0_run 38 = .ok (.goto 39, 3) := by decide +kernel
theorem dX0_run_41 : decode cX0_run 41 = .ok (.aload_n 0, 1) := by decide +kernel
theorem dX0_run_42 : decode cX0_run 42 = .ok (.aload_n 0, 1) := by decide +kernel
theorem dX0_run_43 : decode cX0_run 43 = .ok (.getfield 23, 3) := by decide +kernel
theorem dX0_run_46 : decode cX0_run 46 = .ok (.iload_n 2, 1) := by decide +kernel
theorem dX0_run_47 : decode cX0_run 47 = .ok (.invokevirtual 30, 3) := by decide +kernel
theorem dX0_run_50 : decode cX0_run 50 = .ok (.istore_n 3, 1) := by decide +kernel
theorem dX0_run_51 : decode cX0_run 51 = .ok (.goto 26, 3) := by decide +kernel
theorem dX0_run_54 : decode cX0_run 54 = .ok (.aload_n 0, 1) := by decide +kernel
theorem dX0_run_55 : decode cX0_run 55 = .ok (.aload_n 0, 1) := by decide +kernel
theorem dX0_run_56 : decode cX0_run 56 = .ok (.getfield 23, 3) := by decide +kernel
theorem dX0_run_59 : decode cX0_run 59 = .ok (.iload_n 2, 1) := by decide +kernel
theorem dX0_run_60 : decode cX0_run 60 = .ok (.invokevirtual 33, 3) := by decide +kernel
theorem dX0_run_63 : decode cX0_run 63 = .ok (.istore_n 3, 1) := by decide +kernel
theorem dX0_run_64 : decode cX0_run 64 = .ok (.goto 13, 3) := by decide +kernel
theorem dX0_run_67 : decode cX0_run 67 = .ok (.aload_n 0, 1) := by decide +kernel
theorem dX0_run_68 : decode cX0_run 68 = .ok (.aload_n 0, 1) := by decide +kernel
theorem dX0_run_69 : decode cX0_run 69 = .ok (.getfield 23, 3) := by decide +kernel
theorem dX0_run_72 : decode cX0_run 72 = .ok (.iload_n 2, 1) := by decide +kernel
theorem dX0_run_73 : decode cX0_run 73 = .ok (.invokevirtual 36, 3) := by decide +kernel
theorem dX0_run_76 : decode cX0_run 76 = .ok (.istore_n 3, 1) := by decide +kernel
theorem dX0_run_77 : decode cX0_run 77 = .ok (.aload_n 0, 1) := by decide +kernel
theorem dX0_run_78 : decode cX0_run 78 = .ok (.getfield 19, 3) := by decide +kernel
theorem dX0_run_81 : decode cX0_run 81 = .ok (.ifCond .eq 8, 3) := by decide +kernel
theorem dX0_run_84 : decode cX0_run 84 = .ok (.bipush (-15), 2) := by decide +kernel
theorem dX0_run_86 : decode cX0_run 86 = .ok (.goto 4, 3) := by decide +kernel
theorem dX0_run_89 : decode cX0_run 89 = .ok (.iload_n 3, 1) := by decide +kernel
theorem dX0_run_90 : decode cX0_run 90 = .ok (.ireturn, 1) := by decide +kernel
theorem dX0_begin_0 : decode cX0_begin 0 = .ok (.aload_n 0, 1) := by decide +kernel
theorem dX0_begin_1 : decode cX0_begin 1 = .ok (.getfield 19, 3) := by decide +kernel
theorem dX0_begin_4 : decode cX0_begin 4 = .ok (.ifCond .ne 39, 3) := by decide +kernel
theorem dX0_begin_7 : decode cX0_begin 7 = .ok (.aload_n 0, 1) := by decide +kernel
theorem dX0_begin_8 : decode cX0_begin 8 = .ok (.getfield 15, 3) := by decide +kernel
theorem dX0_begin_11 : decode cX0_begin 11 = .ok (.ifCond .lt 32, 3) := by decide +kernel
theorem dX0_begin_14 : decode cX0_begin 14 = .ok (.aload_n 0, 1) := by decide +kernel
theorem dX0_begin_15 : decode cX0_begin 15 = .ok (.getfield 15, 3) := by decide +kernel
theorem dX0_begin_18 : decode cX0_begin 18 = .ok (.bipush 30, 2) := by decide +kernel
theorem dX0_begin_20 : decode cX0_begin 20 = .ok (.if_icmp .ge 23, 3) := by decide +kernel
theorem dX0_begin_23 : decode cX0_begin 23 = .ok (.aload_n 0, 1) := by decide +kernel
theorem dX0_begin_24 : decode cX0_begin 24 = .ok (.getfield 9, 3) := by decide +kernel
theorem dX0_begin_27 : decode cX0_begin 27 = .ok (.aload_n 0, 1) := by decide +kernel
theorem dX0_begin_28 : decode cX0_begin 28 = .ok (.getfield 15, 3) := by decide +kernel
theorem dX0_begin_31 : decode cX0_begin 31 = .ok (.iload_n 1, 1) := by decide +kernel
theorem dX0_begin_32 : decode cX0_begin 32 = .ok (.iastore, 1) := by decide +kernel
theorem dX0_begin_33 : decode cX0_begin 33 = .ok (.aload_n 0, 1) := by decide +kernel
theorem dX0_begin_34 : decode cX0_begin 34 = .ok (.dup, 1) := by decide +kernel
theorem dX0_begin_35 : decode cX0_begin 35 = .ok (.getfield 15, 3) := by decide +kernel
theorem dX0_begin_38 : decode cX0_begin 38 = .ok (.iconst 1, 1) := by decide +kernel
theorem dX0_begin_39 : decode cX0_begin 39 = .ok (.iadd, 1) := by decide +kernel
theorem dX0_begin_40 : decode cX0_begin 40 = .ok (.putfield 15, 3) := by decide +kernel
theorem dX0_begin_43 : decode cX0_begin 43 = .ok (.return_, 1) := by decide +kernel
set_option maxRecDepth 20000 in
theorem ggX0_weighs_X0_begin : GoodIn wsX0_weighs wsX0_begin := goodIn_r _ [7, 8, 9, 10, 14, 15, 16, 17, 18, 19] (by decide +kernel) (by decide +kernel)
set_option maxRecDepth 20000 in
theorem gX0_weighs_X0_begin : GoodIn wsX0_weighs (wsV RX0 39 RX0 yX0_begin wsX0_begin) := goodIn_app (goodIn_of _ (by decide +kernel)) ggX0_weighs_X0_begin
set_option maxRecDepth 20000 in
theorem ggX0_weighs_X0_weighs : GoodIn wsX0_weighs wsX0_weighs := goodIn_r _ [0, 1, 2, 3, 4, 5, 6, 7, 8, 9, 10, 11, 12, 13, 14, 15, 16, 17, 18, 19] (by decide +kernel) (by decide +kernel)
set_option maxRecDepth 20000 in
theorem gX0_weighs_X0_weighs : GoodIn wsX0_weighs (wsV RX0 26 RX0 yX0_weighs wsX0_weighs) := goodIn_app (goodIn_of _ (by decide +kernel)) ggX0_weighs_X0_weighs
theorem dX0_weighs_0 : decode cX0_weighs 0 = .ok (.iload_n 1, 1) := by decide +kernel
theorem dX0_weighs_1 : decode cX0_weighs 1 = .ok (.tableswitch 89 1 6 #[39, 89, 54, 89, 54, 71], 39) := by decide +kernel
theorem dX0_weighs_40 : decode cX0_weighs 40 = .ok (.aload_n 0, 1) := by decide +kernel
theorem dX0_weighs_41 : decode cX0_weighs 41 = .ok (.bipush 20, 2) := by decide +kernel
theorem dX0_weighs_43 : decode cX0_weighs 43 = .ok (.invokevirtual 39, 3) := by decide +kernel
theorem dX0_weighs_46 : decode cX0_weighs 46 = .ok (.aload_n 0, 1) := by decide +kernel
theorem dX0_weighs_47 : decode cX0_weighs 47 = .ok (.iconst 0, 1) := by decide +kernel
theorem dX0_weighs_48 : decode cX0_weighs 48 = .ok (.iload_n 2, 1) := by decide +kernel
theorem dX0_weighs_49 : decode cX0_weighs 49 = .ok (.invokevirtual 26, 3) := by decide +kernel
theorem dX0_weighs_52 : decode cX0_weighs 52 = .ok (.iconst 4, 1) := by decide +kernel
theorem dX0_weighs_53 : decode cX0_weighs 53 = .ok (.iadd, 1) := by decide +kernel
theorem dX0_weighs_54 : decode cX0_weighs 54 = .ok (.ireturn, 1) := by decide +kernel
theorem dX0_weighs_55 : decode cX0_weighs 55 = .ok (.aload_n 0, 1) := by decide +kernel
theorem dX0_weighs_56 : decode cX0_weighs 56 = .ok (.bipush 40, 2) := by decide +kernel
theorem dX0_weighs_58 : decode cX0_weighs 58 = .ok (.invokevirtual 39, 3) := by decide +kernel
theorem dX0_weighs_61 : decode cX0_weighs 61 = .ok (.aload_n 0, 1) := by decide +kernel
theorem dX0_weighs_62 : decode cX0_weighs 62 = .ok (.iconst 0, 1) := by decide +kernel
theorem dX0_weighs_63 : decode cX0_weighs 63 = .ok (.iload_n 2, 1) := by decide +kernel
theorem dX0_weighs_64 : decode cX0_weighs 64 = .ok (.iconst 1, 1) := by decide +kernel
theorem dX0_weighs_65 : decode cX0_weighs 65 = .ok (.isub, 1) := by decide +kernel
theorem dX0_weighs_66 : decode cX0_weighs 66 = .ok (.invokevirtual 26, 3) := by decide +kernel
theorem dX0_weighs_69 : decode cX0_weighs 69 = .ok (.iconst 2, 1) := by decide +kernel
theorem dX0_weighs_70 : decode cX0_weighs 70 = .ok (.imul, 1) := by decide +kernel
theorem dX0_weighs_71 : decode cX0_weighs 71 = .ok (.ireturn, 1) := by decide +kernel
theorem dX0_weighs_72 : decode cX0_weighs 72 = .ok (.aload_n 0, 1) := by decide +kernel
theorem dX0_weighs_73 : decode cX0_weighs 73 = .ok (.bipush 70, 2) := by decide +kernel
theorem dX0_weighs_75 : decode cX0_weighs 75 = .ok (.invokevirtual 39, 3) := by decide +kernel
theorem dX0_weighs_78 : decode cX0_weighs 78 = .ok (.aload_n 0, 1) := by decide +kernel
theorem dX0_weighs_79 : decode cX0_weighs 79 = .ok (.iconst 5, 1) := by decide +kernel
theorem dX0_weighs_80 : decode cX0_weighs 80 = .ok (.iload_n 2, 1) := by decide +kernel
theorem dX0_weighs_81 : decode cX0_weighs 81 = .ok (.invokevirtual 26, 3) := by decide +kernel
theorem dX0_weighs_84 : decode cX0_weighs 84 = .ok (.aload_n 0, 1) := by decide +kernel
theorem dX0_weighs_85 : decode cX0_weighs 85 = .ok (.getfield 43, 3) := by decide +kernel
theorem dX0_weighs_88 : decode cX0_weighs 88 = .ok (.ixor, 1) := by decide +kernel
theorem dX0_weighs_89 : decode cX0_weighs 89 = .ok (.ireturn, 1) := by decide +kernel
theorem dX0_weighs_90 : decode cX0_weighs 90 = .ok (.aload_n 0, 1) := by decide +kernel
theorem dX0_weighs_91 : decode cX0_weighs 91 = .ok (.bipush 10, 2) := by decide +kernel
theorem dX0_weighs_93 : decode cX0_weighs 93 = .ok (.invokevirtual 39, 3) := by decide +kernel
theorem dX0_weighs_96 : decode cX0_weighs 96 = .ok (.iload_n 2, 1) := by decide +kernel
theorem dX0_weighs_97 : decode cX0_weighs 97 = .ok (.bipush 7, 2) := by decide +kernel
theorem dX0_weighs_99 : decode cX0_weighs 99 = .ok (.imul, 1) := by decide +kernel
theorem dX0_weighs_100 : decode cX0_weighs 100 = .ok (.aload_n 0, 1) := by decide +kernel
theorem dX0_weighs_101 : decode cX0_weighs 101 = .ok (.getfield 46, 3) := by decide +kernel
theorem dX0_weighs_104 : decode cX0_weighs 104 = .ok (.iadd, 1) := by decide +kernel
theorem dX0_weighs_105 : decode cX0_weighs 105 = .ok (.ireturn, 1) := by decide +kernel
set_option maxRecDepth 20000 in
theorem ggX0_turns_X0_begin : GoodIn wsX0_turns wsX0_begin := goodIn_r _ [7, 8, 9, 10, 19, 20, 21, 22, 23, 24] (by decide +kernel) (by decide +kernel)
set_option maxRecDepth 20000 in
theorem gX0_turns_X0_begin : GoodIn wsX0_turns (wsV RX0 39 RX0 yX0_begin wsX0_begin) := goodIn_app (goodIn_of _ (by decide +kernel)) ggX0_turns_X0_begin
set_option maxRecDepth 20000 in
theorem ggX0_turns_X0_turns : GoodIn wsX0_turns wsX0_turns := goodIn_r _ [0, 1, 2, 3, 4, 5, 6, 7, 8, 9, 10, 11, 12, 13, 14, 15, 16, 17, 18, 19, 20, 21, 22, 23, 24] (by decide +kernel) (by decide +kernel)
set_option maxRecDepth 20000 in
theorem gX0_turns_X0_turns : GoodIn wsX0_turns (wsV RX0 30 RX0 yX0_turns wsX0_turns) := goodIn_app (goodIn_of _ (by decide +kernel)) ggX0_turns_X0_turns
set_option maxRecDepth 20000 in
theorem ggX0_turns_X0_weighs : GoodIn wsX0_turns wsX0_weighs := goodIn_r _ [17, 1, 18, 3, 4, 5, 6, 7, 8, 9, 10, 14, 15, 16, 19, 20, 21, 22, 23, 24] (by decide +kernel) (by decide +kernel)
set_option maxRecDepth 20000 in
theorem gX0_turns_X0_weighs : GoodIn wsX0_turns (wsV RX0 26 RX0 yX0_weighs wsX0_weighs) := goodIn_app (goodIn_of _ (by decide +kernel)) ggX0_turns_X0_weighs
theorem dX0_turns_0 : decode cX0_turns 0 = .ok (.iload_n 1, 1) := by decide +kernel
theorem dX0_turns_1 : decode cX0_turns 1 = .ok (.lookupswitch 62 #[(2, 27), (4, 42)], 27) := by decide +kernel
theorem dX0_turns_28 : decode cX0_turns 28 = .ok (.aload_n 0, 1) := by decide +kernel
theorem dX0_turns_29 : decode cX0_turns 29 = .ok (.bipush 30, 2) := by decide +kernel
theorem dX0_turns_31 : decode cX0_turns 31 = .ok (.invokevirtual 39, 3) := by decide +kernel
theorem dX0_turns_34 : decode cX0_turns 34 = .ok (.iconst 0, 1) := by decide +kernel
theorem dX0_turns_35 : decode cX0_turns 35 = .ok (.aload_n 0, 1) := by decide +kernel
theorem dX0_turns_36 : decode cX0_turns 36 = .ok (.iconst 0, 1) := by decide +kernel
theorem dX0_turns_37 : decode cX0_turns 37 = .ok (.iload_n 2, 1) := by decide +kernel
theorem dX0_turns_38 : decode cX0_turns 38 = .ok (.invokevirtual 30, 3) := by decide +kernel
theorem dX0_turns_41 : decode cX0_turns 41 = .ok (.isub, 1) := by decide +kernel
theorem dX0_turns_42 : decode cX0_turns 42 = .ok (.ireturn, 1) := by decide +kernel
theorem dX0_turns_43 : decode cX0_turns 43 = .ok (.aload_n 0, 1) := by decide +kernel
theorem dX0_turns_44 : decode cX0_turns 44 = .ok (.bipush 50, 2) := by decide +kernel
theorem dX0_turns_46 : decode cX0_turns 46 = .ok (.invokevirtual 39, 3) := by decide +kernel
theorem dX0_turns_49 : decode cX0_turns 49 = .ok (.aload_n 0, 1) := by decide +kernel
theorem dX0_turns_50 : decode cX0_turns 50 = .ok (.iconst 2, 1) := by decide +kernel
theorem dX0_turns_51 : decode cX0_turns 51 = .ok (.iload_n 2, 1) := by decide +kernel
theorem dX0_turns_52 : decode cX0_turns 52 = .ok (.aload_n 0, 1) := by decide +kernel
theorem dX0_turns_53 : decode cX0_turns 53 = .ok (.getfield 43, 3) := by decide +kernel
theorem dX0_turns_56 : decode cX0_turns 56 = .ok (.iadd, 1) := by decide +kernel
theorem dX0_turns_57 : decode cX0_turns 57 = .ok (.invokevirtual 30, 3) := by decide +kernel
theorem dX0_turns_60 : decode cX0_turns 60 = .ok (.iconst 3, 1) := by decide +kernel
theorem dX0_turns_61 : decode cX0_turns 61 = .ok (.ixor, 1) := by decide +kernel
theorem dX0_turns_62 : decode cX0_turns 62 = .ok (.ireturn, 1) := by decide +kernel
theorem dX0_turns_63 : decode cX0_turns 63 = .ok (.aload_n 0, 1) := by decide +kernel
theorem dX0_turns_64 : decode cX0_turns 64 = .ok (.bipush 11, 2) := by decide +kernel
theorem dX0_turns_66 : decode cX0_turns 66 = .ok (.invokevirtual 39, 3) := by decide +kernel
theorem dX0_turns_69 : decode cX0_turns 69 = .ok (.aload_n 0, 1) := by decide +kernel
theorem dX0_turns_70 : decode cX0_turns 70 = .ok (.aload_n 0, 1) := by decide +kernel
theorem dX0_turns_71 : decode cX0_turns 71 = .ok (.getfield 23, 3) := by decide +kernel
theorem dX0_turns_74 : decode cX0_turns 74 = .ok (.iload_n 2, 1) := by decide +kernel
theorem dX0_turns_75 : decode cX0_turns 75 = .ok (.invokevirtual 26, 3) := by decide +kernel
theorem dX0_turns_78 : decode cX0_turns 78 = .ok (.aload_n 0, 1) := by decide +kernel
theorem dX0_turns_79 : decode cX0_turns 79 = .ok (.getfield 43, 3) := by decide +kernel
theorem dX0_turns_82 : decode cX0_turns 82 = .ok (.isub, 1) := by decide +kernel
theorem dX0_turns_83 : decode cX0_turns 83 = .ok (.ireturn, 1) := by decide +kernel
set_option maxRecDepth 20000 in
theorem ggX0_parts_X0_begin : GoodIn wsX0_parts wsX0_begin := goodIn_r _ [9, 4, 10, 11, 19, 20, 21, 22, 23, 24] (by decide +kernel) (by decide +kernel)
set_option maxRecDepth 20000 in
theorem gX0_parts_X0_begin : GoodIn wsX0_parts (wsV RX0 39 RX0 yX0_begin wsX0_begin) := goodIn_app (goodIn_of _ (by decide +kernel)) ggX0_parts_X0_begin
set_option maxRecDepth 20000 in
theorem ggX0_parts_X0_parts : GoodIn wsX0_parts wsX0_parts := goodIn_r _ [0, 1, 2, 3, 4, 5, 6, 7, 8, 9, 10, 11, 12, 13, 14, 15, 16, 17, 18, 19, 20, 21, 22, 23, 24] (by decide +kernel) (by decide +kernel)
set_option maxRecDepth 20000 in
theorem gX0_parts_X0_parts : GoodIn wsX0_parts (wsV RX0 33 RX0 yX0_parts wsX0_parts) := goodIn_app (goodIn_of _ (by decide +kernel)) ggX0_parts_X0_parts
set_option maxRecDepth 20000 in
theorem ggX0_parts_X0_weighs : GoodIn wsX0_parts wsX0_weighs := goodIn_r _ [18, 3, 2, 5, 6, 7, 8, 9, 4, 10, 11, 15, 16, 17, 19, 20, 21, 22, 23, 24] (by decide +kernel) (by decide +kernel)
set_option maxRecDepth 20000 in
theorem gX0_parts_X0_weighs : GoodIn wsX0_parts (wsV RX0 26 RX0 yX0_weighs wsX0_weighs) := goodIn_app (goodIn_of _ (by decide +kernel)) ggX0_parts_X0_weighs
theorem dX0_parts_0 : decode cX0_parts 0 = .ok (.iload_n 1, 1) := by decide +kernel
theorem dX0_parts_1 : decode cX0_parts 1 = .ok (.tableswitch 57 3 6 #[31, 57, 31, 31], 31) := by decide +kernel
theorem dX0_parts_32 : decode cX0_parts 32 = .ok (.aload_n 0, 1) := by decide +kernel
theorem dX0_parts_33 : decode cX0_parts 33 = .ok (.bipush 41, 2) := by decide +kernel
theorem dX0_parts_35 : decode cX0_parts 35 = .ok (.invokevirtual 39, 3) := by decide +kernel
theorem dX0_parts_38 : decode cX0_parts 38 = .ok (.aload_n 0, 1) := by decide +kernel
theorem dX0_parts_39 : decode cX0_parts 39 = .ok (.iconst 0, 1) := by decide +kernel
theorem dX0_parts_40 : decode cX0_parts 40 = .ok (.iload_n 2, 1) := by decide +kernel
theorem dX0_parts_41 : decode cX0_parts 41 = .ok (.invokevirtual 33, 3) := by decide +kernel
theorem dX0_parts_44 : decode cX0_parts 44 = .ok (.aload_n 0, 1) := by decide +kernel
theorem dX0_parts_45 : decode cX0_parts 45 = .ok (.aload_n 0, 1) := by decide +kernel
theorem dX0_parts_46 : decode cX0_parts 46 = .ok (.getfield 23, 3) := by decide +kernel
theorem dX0_parts_49 : decode cX0_parts 49 = .ok (.aload_n 0, 1) := by decide +kernel
theorem dX0_parts_50 : decode cX0_parts 50 = .ok (.getfield 46, 3) := by decide +kernel
theorem dX0_parts_53 : decode cX0_parts 53 = .ok (.invokevirtual 26, 3) := by decide +kernel
theorem dX0_parts_56 : decode cX0_parts 56 = .ok (.isub, 1) := by decide +kernel
theorem dX0_parts_57 : decode cX0_parts 57 = .ok (.ireturn, 1) := by decide +kernel
theorem dX0_parts_58 : decode cX0_parts 58 = .ok (.aload_n 0, 1) := by decide +kernel
theorem dX0_parts_59 : decode cX0_parts 59 = .ok (.bipush 12, 2) := by decide +kernel
theorem dX0_parts_61 : decode cX0_parts 61 = .ok (.invokevirtual 39, 3) := by decide +kernel
theorem dX0_parts_64 : decode cX0_parts 64 = .ok (.aload_n 0, 1) := by decide +kernel
theorem dX0_parts_65 : decode cX0_parts 65 = .ok (.getfield 46, 3) := by decide +kernel
theorem dX0_parts_68 : decode cX0_parts 68 = .ok (.aload_n 0, 1) := by decide +kernel
theorem dX0_parts_69 : decode cX0_parts 69 = .ok (.getfield 43, 3) := by decide +kernel
theorem dX0_parts_72 : decode cX0_parts 72 = .ok (.isub, 1) := by decide +kernel
theorem dX0_parts_73 : decode cX0_parts 73 = .ok (.istore_n 3, 1) := by decide +kernel
theorem dX0_parts_74 : decode cX0_parts 74 = .ok (.iload_n 3, 1) := by decide +kernel
theorem dX0_parts_75 : decode cX0_parts 75 = .ok (.ifCond .ne 10, 3) := by decide +kernel
theorem dX0_parts_78 : decode cX0_parts 78 = .ok (.aload_n 0, 1) := by decide +kernel
theorem dX0_parts_79 : decode cX0_parts 79 = .ok (.iconst 1, 1) := by decide +kernel
theorem dX0_parts_80 : decode cX0_parts 80 = .ok (.putfield 19, 3) := by decide +kernel
theorem dX0_parts_83 : decode cX0_parts 83 = .ok (.iconst 0, 1) := by decide +kernel
theorem dX0_parts_84 : decode cX0_parts 84 = .ok (.ireturn, 1) := by decide +kernel
theorem dX0_parts_85 : decode cX0_parts 85 = .ok (.iload_n 2, 1) := by decide +kernel
theorem dX0_parts_86 : decode cX0_parts 86 = .ok (.iload_n 3, 1) := by decide +kernel
theorem dX0_parts_87 : decode cX0_parts 87 = .ok (.idiv, 1) := by decide +kernel
theorem dX0_parts_88 : decode cX0_parts 88 = .ok (.ireturn, 1) := by decide +kernel
set_option maxRecDepth 20000 in
theorem ggX0_closes_X0_begin : GoodIn wsX0_closes wsX0_begin := goodIn_r _ [6, 7, 8, 9, 27, 28, 29, 30, 31, 32] (by decide +kernel) (by decide +kernel)
set_option maxRecDepth 20000 in
theorem gX0_closes_X0_begin : GoodIn wsX0_closes (wsV RX0 39 RX0 yX0_begin wsX0_begin) := goodIn_app (goodIn_of _ (by decide +kernel)) ggX0_closes_X0_begin
set_option maxRecDepth 20000 in
theorem ggX0_closes_X0_closes : GoodIn wsX0_closes wsX0_closes := goodIn_r _ [0, 1, 2, 3, 4, 5, 6, 7, 8, 9, 10, 11, 12, 13, 14, 15, 16, 17, 18, 19, 20, 21, 22, 23, 24, 25, 26, 27, 28, 29, 30, 31, 32] (by decide +kernel) (by decide +kernel)
set_option maxRecDepth 20000 in
theorem gX0_closes_X0_closes : GoodIn wsX0_closes (wsV RX0 36 RX0 yX0_closes wsX0_closes) := goodIn_app (goodIn_of _ (by decide +kernel)) ggX0_closes_X0_closes
set_option maxRecDepth 20000 in
theorem ggX0_closes_X0_turns : GoodIn wsX0_closes wsX0_turns := goodIn_r _ [16, 17, 1, 2, 3, 4, 5, 6, 7, 8, 9, 13, 14, 15, 18, 19, 20, 21, 22, 27, 28, 29, 30, 31, 32] (by decide +kernel) (by decide +kernel)
set_option maxRecDepth 20000 in
theorem gX0_closes_X0_turns : GoodIn wsX0_closes (wsV RX0 30 RX0 yX0_turns wsX0_turns) := goodIn_app (goodIn_of _ (by decide +kernel)) ggX0_closes_X0_turns
set_option maxRecDepth 20000 in
theorem ggX0_closes_X0_parts : GoodIn wsX0_closes wsX0_parts := goodIn_r _ [26, 1, 22, 17, 7, 2, 3, 4, 5, 6, 8, 9, 23, 24, 25, 18, 19, 20, 21, 27, 28, 29, 30, 31, 32] (by decide +kernel) (by decide +kernel)
set_option maxRecDepth 20000 in
theorem gX0_closes_X0_parts : GoodIn wsX0_closes (wsV RX0 33 RX0 yX0_parts wsX0_parts) := goodIn_app (goodIn_of _ (by decide +kernel)) ggX0_closes_X0_parts
theorem dX0_closes_0 : decode cX0_closes 0 = .ok (.iload_n 1, 1) := by decide +kernel
theorem dX0_closes_1 : decode cX0_closes 1 = .ok (.lookupswitch 67 #[(5, 27), (6, 50)], 27) := by decide +kernel
theorem dX0_closes_28 : decode cX0_closes 28 = .ok (.aload_n 0, 1) := by decide +kernel
theorem dX0_closes_29 : decode cX0_closes 29 = .ok (.bipush 60, 2) := by decide +kernel
theorem dX0_closes_31 : decode cX0_closes 31 = .ok (.invokevirtual 39, 3) := by decide +kernel
theorem dX0_closes_34 : decode cX0_closes 34 = .ok (.aload_n 0, 1) := by decide +kernel
theorem dX0_closes_35 : decode cX0_closes 35 = .ok (.iconst 0, 1) := by decide +kernel
theorem dX0_closes_36 : decode cX0_closes 36 = .ok (.iload_n 2, 1) := by decide +kernel
theorem dX0_closes_37 : decode cX0_closes 37 = .ok (.invokevirtual 36, 3) := by decide +kernel
theorem dX0_closes_40 : decode cX0_closes 40 = .ok (.aload_n 0, 1) := by decide +kernel
theorem dX0_closes_41 : decode cX0_closes 41 = .ok (.aload_n 0, 1) := by decide +kernel
theorem dX0_closes_42 : decode cX0_closes 42 = .ok (.getfield 23, 3) := by decide +kernel
theorem dX0_closes_45 : decode cX0_closes 45 = .ok (.iconst 1, 1) := by decide +kernel
theorem dX0_closes_46 : decode cX0_closes 46 = .ok (.invokevirtual 30, 3) := by decide +kernel
theorem dX0_closes_49 : decode cX0_closes 49 = .ok (.iadd, 1) := by decide +kernel
theorem dX0_closes_50 : decode cX0_closes 50 = .ok (.ireturn, 1) := by decide +kernel
theorem dX0_closes_51 : decode cX0_closes 51 = .ok (.aload_n 0, 1) := by decide +kernel
theorem dX0_closes_52 : decode cX0_closes 52 = .ok (.bipush 71, 2) := by decide +kernel
theorem dX0_closes_54 : decode cX0_closes 54 = .ok (.invokevirtual 39, 3) := by decide +kernel
theorem dX0_closes_57 : decode cX0_closes 57 = .ok (.aload_n 0, 1) := by decide +kernel
theorem dX0_closes_58 : decode cX0_closes 58 = .ok (.iconst 5, 1) := by decide +kernel
theorem dX0_closes_59 : decode cX0_closes 59 = .ok (.iload_n 2, 1) := by decide +kernel
theorem dX0_closes_60 : decode cX0_closes 60 = .ok (.iconst 2, 1) := by decide +kernel
theorem dX0_closes_61 : decode cX0_closes 61 = .ok (.imul, 1) := by decide +kernel
theorem dX0_closes_62 : decode cX0_closes 62 = .ok (.invokevirtual 36, 3) := by decide +kernel
theorem dX0_closes_65 : decode cX0_closes 65 = .ok (.iconst 5, 1) := by decide +kernel
theorem dX0_closes_66 : decode cX0_closes 66 = .ok (.isub, 1) := by decide +kernel
theorem dX0_closes_67 : decode cX0_closes 67 = .ok (.ireturn, 1) := by decide +kernel
theorem dX0_closes_68 : decode cX0_closes 68 = .ok (.aload_n 0, 1) := by decide +kernel
theorem dX0_closes_69 : decode cX0_closes 69 = .ok (.bipush 13, 2) := by decide +kernel
theorem dX0_closes_71 : decode cX0_closes 71 = .ok (.invokevirtual 39, 3) := by decide +kernel
theorem dX0_closes_74 : decode cX0_closes 74 = .ok (.aload_n 0, 1) := by decide +kernel
theorem dX0_closes_75 : decode cX0_closes 75 = .ok (.aload_n 0, 1) := by decide +kernel
theorem dX0_closes_76 : decode cX0_closes 76 = .ok (.getfield 23, 3) := by decide +kernel
theorem dX0_closes_79 : decode cX0_closes 79 = .ok (.iload_n 2, 1) := by decide +kernel
theorem dX0_closes_80 : decode cX0_closes 80 = .ok (.invokevirtual 30, 3) := by decide +kernel
theorem dX0_closes_83 : decode cX0_closes 83 = .ok (.aload_n 0, 1) := by decide +kernel
theorem dX0_closes_84 : decode cX0_closes 84 = .ok (.aload_n 0, 1) := by decide +kernel
theorem dX0_closes_85 : decode cX0_closes 85 = .ok (.getfield 23, 3) := by decide +kernel
theorem dX0_closes_88 : decode cX0_closes 88 = .ok (.iload_n 2, 1) := by decide +kernel
theorem dX0_closes_89 : decode cX0_closes 89 = .ok (.iconst 2, 1) := by decide +kernel
theorem dX0_closes_90 : decode cX0_closes 90 = .ok (.iadd, 1) := by decide +kernel
theorem dX0_closes_91 : decode cX0_closes 91 = .ok (.invokevirtual 33, 3) := by decide +kernel
theorem dX0_closes_94 : decode cX0_closes 94 = .ok (.ixor, 1) := by decide +kernel
theorem dX0_closes_95 : decode cX0_closes 95 = .ok (.ireturn, 1) := by decide +kernel
theorem dX1_init_0 : decode cX1_init 0 = .ok (.aload_n 0, 1) := by decide +kernel
theorem dX1_init_1 : decode cX1_init 1 = .ok (.invokespecial 3, 3) := by decide +kernel
theorem dX1_init_4 : decode cX1_init 4 = .ok (.aload_n 0, 1) := by decide +kernel
theorem dX1_init_5 : decode cX1_init 5 = .ok (.lconst 1, 1) := by decide +kernel
theorem dX1_init_6 : decode cX1_init 6 = .ok (.putfield 9, 3) := by decide +kernel
theorem dX1_init_9 : decode cX1_init 9 = .ok (.aload_n 0, 1) := by decide +kernel
theorem dX1_init_10 : decode cX1_init 10 = .ok (.bipush 90, 2) := by decide +kernel
theorem dX1_init_12 : decode cX1_init 12 = .ok (.newarray .long, 2) := by decide +kernel
theorem dX1_init_14 : decode cX1_init 14 = .ok (.putfield 15, 3) := by decide +kernel
theorem dX1_init_17 : decode cX1_init 17 = .ok (.aload_n 0, 1) := by decide +kernel
theorem dX1_init_18 : decode cX1_init 18 = .ok (.bipush 10, 2) := by decide +kernel
theorem dX1_init_20 : decode cX1_init 20 = .ok (.newarray .int, 2) := by decide +kernel
theorem dX1_init_22 : decode cX1_init 22 = .ok (.putfield 19, 3) := by decide +kernel
theorem dX1_init_25 : decode cX1_init 25 = .ok (.return_, 1) := by decide +kernel
set_option maxRecDepth 20000 in
theorem ggX1_clear_J7_fill_d0a16 : GoodIn wsX1_clear wsJ7_fill_d0a16 := goodIn_r _ [14] (by decide +kernel) (by decide +kernel)
set_option maxRecDepth 20000 in
theorem gX1_clear_J7_fill_d0a16 : GoodIn wsX1_clear (va_wsS RX1 39 yJ7_fill_d0a16 wsJ7_fill_d0a16) := goodIn_app (goodIn_of _ (by decide +kernel)) ggX1_clear_J7_fill_d0a16
theorem dX1_clear_0 : decode cX1_clear 0 = .ok (.aload_n 0, 1) := by decide +kernel
theorem dX1_clear_1 : decode cX1_clear 1 = .ok (.iconst 0, 1) := by decide +kernel
theorem dX1_clear_2 : decode cX1_clear 2 = .ok (.iload_n 1, 1) := by decide +kernel
theorem dX1_clear_3 : decode cX1_clear 3 = .ok (.bipush 9, 2) := by decide +kernel
theorem dX1_clear_5 : decode cX1_clear 5 = .ok (.invokestatic 23, 3) := by decide +kernel
theorem dX1_clear_8 : decode cX1_clear 8 = .ok (.invokestatic 29, 3) := by decide +kernel
theorem dX1_clear_11 : decode cX1_clear 11 = .ok (.putfield 32, 3) := by decide +kernel
theorem dX1_clear_14 : decode cX1_clear 14 = .ok (.aload_n 0, 1) := by decide +kernel
theorem dX1_clear_15 : decode cX1_clear 15 = .ok (.iconst 0, 1) := by decide +kernel
theorem dX1_clear_16 : decode cX1_clear 16 = .ok (.iload_n 2, 1) := by decide +kernel
theorem dX1_clear_17 : decode cX1_clear 17 = .ok (.bipush 9, 2) := by decide +kernel
theorem dX1_clear_19 : decode cX1_clear 19 = .ok (.invokestatic 23, 3) := by decide +kernel
theorem dX1_clear_22 : decode cX1_clear 22 = .ok (.invokestatic 29, 3) := by decide +kernel
theorem dX1_clear_25 : decode cX1_clear 25 = .ok (.putfield 36, 3) := by decide +kernel
theorem dX1_clear_28 : decode cX1_clear 28 = .ok (.aload_n 0, 1) := by decide +kernel
theorem dX1_clear_29 : decode cX1_clear 29 = .ok (.getfield 15, 3) := by decide +kernel
theorem dX1_clear_32 : decode cX1_clear 32 = .ok (.lconst 0, 1) := by decide +kernel
theorem dX1_clear_33 : decode cX1_clear 33 = .ok (.invokestatic 39, 3) := by decide +kernel
theorem dX1_clear_36 : decode cX1_clear 36 = .ok (.return_, 1) := by decide +kernel
theorem dX1_hasCell_0 : decode cX1_hasCell 0 = .ok (.iload_n 1, 1) := by decide +kernel
theorem dX1_hasCell_1 : decode cX1_hasCell 1 = .ok (.ifCond .lt 23, 3) := by decide +kernel
theorem dX1_hasCell_4 : decode cX1_hasCell 4 = .ok (.iload_n 1, 1) := by decide +kernel
theorem dX1_hasCell_5 : decode cX1_hasCell 5 = .ok (.bipush 9, 2) := by decide +kernel
theorem dX1_hasCell_7 : decode cX1_hasCell 7 = .ok (.if_icmp .ge 17, 3) := by decide +kernel
theorem dX1_hasCell_10 : decode cX1_hasCell 10 = .ok (.iload_n 2, 1) := by decide +kernel
theorem dX1_hasCell_11 : decode cX1_hasCell 11 = .ok (.ifCond .lt 13, 3) := by decide +kernel
theorem dX1_hasCell_14 : decode cX1_hasCell 14 = .ok (.iload_n 2, 1) := by decide +kernel
theorem dX1_hasCell_15 : decode cX1_hasCell 15 = .ok (.bipush 10, 2) := by decide +kernel
theorem dX1_hasCell_17 : decode cX1_hasCell 17 = .ok (.if_icmp .ge 7, 3) := by decide +kernel
theorem dX1_hasCell_20 : decode cX1_hasCell 20 = .ok (.iconst 1, 1) := by decide +kernel
theorem dX1_hasCell_21 : decode cX1_hasCell 21 = .ok (.goto 4, 3) := by decide +kernel
theorem dX1_hasCell_24 : decode cX1_hasCell 24 = .ok (.iconst 0, 1) := by decide +kernel
theorem dX1_hasCell_25 : decode cX1_hasCell 25 = .ok (.ireturn, 1) := by decide +kernel
set_option maxRecDepth 20000 in
theorem ggX1_cell_X1_hasCell : GoodIn wsX1_cell wsX1_hasCell := goodIn_r _ [6] (by decide +kernel) (by decide +kernel)
set_option maxRecDepth 20000 in
theorem gX1_cell_X1_hasCell : GoodIn wsX1_cell (wsV RX1 45 RX1 yX1_hasCell wsX1_hasCell) := goodIn_app (goodIn_of _ (by decide +kernel)) ggX1_cell_X1_hasCell
theorem dX1_cell_0 : decode cX1_cell 0 = .ok (.aload_n 0, 1) := by decide +kernel
theorem dX1_cell_1 : decode cX1_cell 1 = .ok (.iload_n 1, 1) := by decide +kernel
theorem dX1_cell_2 : decode cX1_cell 2 = .ok (.iload_n 2, 1) := by decide +kernel
theorem dX1_cell_3 : decode cX1_cell 3 = .ok (.invokevirtual 45, 3) := by decide +kernel
theorem dX1_cell_6 : decode cX1_cell 6 = .ok (.ifCond .eq 17, 3) := by decide +kernel
theorem dX1_cell_9 : decode cX1_cell 9 = .ok (.aload_n 0, 1) := by decide +kernel
theorem dX1_cell_10 : decode cX1_cell 10 = .ok (.getfield 15, 3) := by decide +kernel
theorem dX1_cell_13 : decode cX1_cell 13 = .ok (.iload_n 1, 1) := by decide +kernel
theorem dX1_cell_14 : decode cX1_cell 14 = .ok (.bipush 10, 2) := by decide +kernel
theorem dX1_cell_16 : decode cX1_cell 16 = .ok (.imul, 1) := by decide +kernel
theorem dX1_cell_17 : decode cX1_cell 17 = .ok (.iload_n 2, 1) := by decide +kernel
theorem dX1_cell_18 : decode cX1_cell 18 = .ok (.iadd, 1) := by decide +kernel
theorem dX1_cell_19 : decode cX1_cell 19 = .ok (.laload, 1) := by decide +kernel
theorem dX1_cell_20 : decode cX1_cell 20 = .ok (.goto 4, 3) := by decide +kernel
theorem dX1_cell_23 : decode cX1_cell 23 = .ok (.lconst 0, 1) := by decide +kernel
theorem dX1_cell_24 : decode cX1_cell 24 = .ok (.lreturn, 1) := by decide +kernel
set_option maxRecDepth 20000 in
theorem ggX1_write_X1_hasCell : GoodIn wsX1_write wsX1_hasCell := goodIn_r _ [6] (by decide +kernel) (by decide +kernel)
set_option maxRecDepth 20000 in
theorem gX1_write_X1_hasCell : GoodIn wsX1_write (wsV RX1 45 RX1 yX1_hasCell wsX1_hasCell) := goodIn_app (goodIn_of _ (by decide +kernel)) ggX1_write_X1_hasCell
theorem dX1_write_0 : decode cX1_write 0 = .ok (.aload_n 0, 1) := by decide +kernel
theorem dX1_write_1 : decode cX1_write 1 = .ok (.iload_n 1, 1) := by decide +kernel
theorem dX1_write_2 : decode cX1_write 2 = .ok (.iload_n 2, 1) := by decide +kernel
theorem dX1_write_3 : decode cX1_write 3 = .ok (.invokevirtual 45, 3) := by decide +kernel
theorem dX1_write_6 : decode cX1_write 6 = .ok (.ifCond .eq 15, 3) := by decide +kernel
theorem dX1_write_9 : decode cX1_write 9 = .ok (.aload_n 0, 1) := by decide +kernel
theorem dX1_write_10 : decode cX1_write 10 = .ok (.getfield 15, 3) := by decide +kernel
theorem dX1_write_13 : decode cX1_write 13 = .ok (.iload_n 1, 1) := by decide +kernel
theorem dX1_write_14 : decode cX1_write 14 = .ok (.bipush 10, 2) := by decide +kernel
theorem dX1_write_16 : decode cX1_write 16 = .ok (.imul, 1) := by decide +kernel
theorem dX1_write_17 : decode cX1_write 17 = .ok (.iload_n 2, 1) := by decide +kernel
theorem dX1_write_18 : decode cX1_write 18 = .ok (.iadd, 1) := by decide +kernel
theorem dX1_write_19 : decode cX1_write 19 = .ok (.lload_n 3, 1) := by decide +kernel
theorem dX1_write_20 : decode cX1_write 20 = .ok (.lastore, 1) := by decide +kernel
theorem dX1_write_21 : decode cX1_write 21 = .ok (.return_, 1) := by decide +kernel
set_option maxRecDepth 20000 in
theorem ggX1_add_X1_cell : GoodIn wsX1_add wsX1_cell := goodIn_r _ [5, 6, 7, 8, 9, 4, 10, 15, 16, 17, 18, 19, 20, 21] (by decide +kernel) (by decide +kernel)
set_option maxRecDepth 20000 in
theorem gX1_add_X1_cell : GoodIn wsX1_add (wsV RX1 49 RX1 yX1_cell wsX1_cell) := goodIn_app (goodIn_of _ (by decide +kernel)) ggX1_add_X1_cell
set_option maxRecDepth 20000 in
theorem ggX1_add_X1_write : GoodIn wsX1_add wsX1_write := goodIn_r _ [14, 6, 7, 8, 9, 4, 10, 15, 16, 17, 18, 19, 20, 21] (by decide +kernel) (by decide +kernel)
set_option maxRecDepth 20000 in
theorem gX1_add_X1_write : GoodIn wsX1_add (wsV RX1 53 RX1 yX1_write wsX1_write) := goodIn_app (goodIn_of _ (by decide +kernel)) ggX1_add_X1_write
theorem dX1_add_0 : decode cX1_add 0 = .ok (.aload_n 0, 1) := by decide +kernel
theorem dX1_add_1 : decode cX1_add 1 = .ok (.iload_n 1, 1) := by decide +kernel
theorem dX1_add_2 : decode cX1_add 2 = .ok (.iload_n 2, 1) := by decide +kernel
theorem dX1_add_3 : decode cX1_add 3 = .ok (.aload_n 0, 1) := by decide +kernel
theorem dX1_add_4 : decode cX1_add 4 = .ok (.iload_n 1, 1) := by decide +kernel
theorem dX1_add_5 : decode cX1_add 5 = .ok (.iload_n 2, 1) := by decide +kernel
theorem dX1_add_6 : decode cX1_add 6 = .ok (.invokevirtual 49, 3) := by decide +kernel
theorem dX1_add_9 : decode cX1_add 9 = .ok (.lload_n 3, 1) := by decide +kernel
theorem dX1_add_10 : decode cX1_add 10 = .ok (.ladd, 1) := by decide +kernel
theorem dX1_add_11 : decode cX1_add 11 = .ok (.invokevirtual 53, 3) := by decide +kernel
theorem dX1_add_14 : decode cX1_add 14 = .ok (.return_, 1) := by decide +kernel
set_option maxRecDepth 20000 in
theorem ggX1_fillTurned_X1_clear : GoodIn wsX1_fillTurned wsX1_clear := goodIn_r _ [7, 8, 9, 10, 11, 12, 13, 14, 2, 1, 15, 16, 17, 18, 19, 32, 33, 34, 35, 36, 37, 38] (by decide +kernel) (by decide +kernel)
set_option maxRecDepth 20000 in
theorem gX1_fillTurned_X1_clear : GoodIn wsX1_fillTurned (wsV RX1 57 RX1 yX1_clear wsX1_clear) := goodIn_app (goodIn_of _ (by decide +kernel)) ggX1_fillTurned_X1_clear
set_option maxRecDepth 20000 in
theorem ggX1_fillTurned_X1_cell : GoodIn wsX1_fillTurned wsX1_cell := goodIn_r _ [23, 15, 24, 25, 26, 6, 27, 32, 33, 34, 35, 36, 37, 38] (by decide +kernel) (by decide +kernel)
set_option maxRecDepth 20000 in
theorem gX1_fillTurned_X1_cell : GoodIn wsX1_fillTurned (wsV RX1 49 RX1 yX1_cell wsX1_cell) := goodIn_app (goodIn_of _ (by decide +kernel)) ggX1_fillTurned_X1_cell
set_option maxRecDepth 20000 in
theorem ggX1_fillTurned_X1_write : GoodIn wsX1_fillTurned wsX1_write := goodIn_r _ [31, 15, 24, 25, 26, 6, 27, 32, 33, 34, 35, 36, 37, 38] (by decide +kernel) (by decide +kernel)
set_option maxRecDepth 20000 in
theorem gX1_fillTurned_X1_write : GoodIn wsX1_fillTurned (wsV RX1 53 RX1 yX1_write wsX1_write) := goodIn_app (goodIn_of _ (by decide +kernel)) ggX1_fillTurned_X1_write
theorem dX1_fillTurned_0 : decode cX1_fillTurned 0 = .ok (.aload_n 0, 1) := by decide +kernel
theorem dX1_fillTurned_1 : decode cX1_fillTurned 1 = .ok (.aload_n 1, 1) := by decide +kernel
theorem dX1_fillTurned_2 : decode cX1_fillTurned 2 = .ok (.getfield 36, 3) := by decide +kernel
theorem dX1_fillTurned_5 : decode cX1_fillTurned 5 = .ok (.iconst 1, 1) := by decide +kernel
theorem dX1_fillTurned_6 : decode cX1_fillTurned 6 = .ok (.iadd, 1) := by decide +kernel
theorem dX1_fillTurned_7 : decode cX1_fillTurned 7 = .ok (.aload_n 1, 1) := by decide +kernel
theorem dX1_fillTurned_8 : decode cX1_fillTurned 8 = .ok (.getfield 32, 3) := by decide +kernel
theorem dX1_fillTurned_11 : decode cX1_fillTurned 11 = .ok (.invokevirtual 57, 3) := by decide +kernel
theorem dX1_fillTurned_14 : decode cX1_fillTurned 14 = .ok (.iconst 0, 1) := by decide +kernel
theorem dX1_fillTurned_15 : decode cX1_fillTurned 15 = .ok (.istore_n 2, 1) := by decide +kernel
theorem dX1_fillTurned_16 : decode cX1_fillTurned 16 = .ok (.iload_n 2, 1) := by decide +kernel
theorem dX1_fillTurned_17 : decode cX1_fillTurned 17 = .ok (.aload_n 0, 1) := by decide +kernel
theorem dX1_fillTurned_18 : decode cX1_fillTurned 18 = .ok (.getfield 32, 3) := by decide +kernel
theorem dX1_fillTurned_21 : decode cX1_fillTurned 21 = .ok (.if_icmp .ge 37, 3) := by decide +kernel
theorem dX1_fillTurned_24 : decode cX1_fillTurned 24 = .ok (.iconst 0, 1) := by decide +kernel
theorem dX1_fillTurned_25 : decode cX1_fillTurned 25 = .ok (.istore_n 3, 1) := by decide +kernel
theorem dX1_fillTurned_26 : decode cX1_fillTurned 26 = .ok (.iload_n 3, 1) := by decide +kernel
theorem dX1_fillTurned_27 : decode cX1_fillTurned 27 = .ok (.aload_n 0, 1) := by decide +kernel
theorem dX1_fillTurned_28 : decode cX1_fillTurned 28 = .ok (.getfield 36, 3) := by decide +kernel
theorem dX1_fillTurned_31 : decode cX1_fillTurned 31 = .ok (.if_icmp .ge 21, 3) := by decide +kernel
theorem dX1_fillTurned_34 : decode cX1_fillTurned 34 = .ok (.aload_n 0, 1) := by decide +kernel
theorem dX1_fillTurned_35 : decode cX1_fillTurned 35 = .ok (.iload_n 2, 1) := by decide +kernel
theorem dX1_fillTurned_36 : decode cX1_fillTurned 36 = .ok (.iload_n 3, 1) := by decide +kernel
theorem dX1_fillTurned_37 : decode cX1_fillTurned 37 = .ok (.aload_n 1, 1) := by decide +kernel
theorem dX1_fillTurned_38 : decode cX1_fillTurned 38 = .ok (.iload_n 3, 1) := by decide +kernel
theorem dX1_fillTurned_39 : decode cX1_fillTurned 39 = .ok (.iload_n 2, 1) := by decide +kernel
theorem dX1_fillTurned_40 : decode cX1_fillTurned 40 = .ok (.invokevirtual 49, 3) := by decide +kernel
theorem dX1_fillTurned_43 : decode cX1_fillTurned 43 = .ok (.invokevirtual 53, 3) := by decide +kernel
theorem dX1_fillTurned_46 : decode cX1_fillTurned 46 = .ok (.iinc 3 1, 3) := by decide +kernel
theorem dX1_fillTurned_49 : decode cX1_fillTurned 49 = .ok (.goto (-23), 3) := by decide +kernel
theorem dX1_fillTurned_52 : decode cX1_fillTurned 52 = .ok (.iinc 2 1, 3) := by decide +kernel
theorem dX1_fillTurned_55 : decode cX1_fillTurned 55 = .ok (.goto (-39), 3) := by decide +kernel
theorem dX1_fillTurned_58 : decode cX1_fillTurned 58 = .ok (.aload_n 0, 1) := by decide +kernel
theorem dX1_fillTurned_59 : decode cX1_fillTurned 59 = .ok (.aload_n 1, 1) := by decide +kernel
theorem dX1_fillTurned_60 : decode cX1_fillTurned 60 = .ok (.getfield 36, 3) := by decide +kernel
theorem dX1_fillTurned_63 : decode cX1_fillTurned 63 = .ok (.aload_n 0, 1) := by decide +kernel
theorem dX1_fillTurned_64 : decode cX1_fillTurned 64 = .ok (.getfield 36, 3) := by decide +kernel
theorem dX1_fillTurned_67 : decode cX1_fillTurned 67 = .ok (.lconst 1, 1) := by decide +kernel
theorem dX1_fillTurned_68 : decode cX1_fillTurned 68 = .ok (.invokevirtual 53, 3) := by decide +kernel
theorem dX1_fillTurned_71 : decode cX1_fillTurned 71 = .ok (.return_, 1) := by decide +kernel
set_option maxRecDepth 20000 in
theorem ggX1_eliminate_X1_firstFilled : GoodIn wsX1_eliminate wsX1_firstFilled := goodIn_r _ [10, 1, 11, 12, 13, 14, 9, 15, 16, 17, 18, 19, 20, 33, 34, 35, 36, 37, 38, 39] (by decide +kernel) (by decide +kernel)
set_option maxRecDepth 20000 in
theorem gX1_eliminate_X1_firstFilled : GoodIn wsX1_eliminate (wsV RX1 68 RX1 yX1_firstFilled wsX1_firstFilled) := goodIn_app (goodIn_of _ (by decide +kernel)) ggX1_eliminate_X1_firstFilled
set_option maxRecDepth 20000 in
theorem ggX1_eliminate_X1_swapRows : GoodIn wsX1_eliminate wsX1_swapRows := goodIn_r _ [24, 3, 4, 12, 13, 14, 9, 15, 16, 17, 18, 19, 20, 25, 26, 27, 28, 33, 34, 35, 36, 37, 38, 39] (by decide +kernel) (by decide +kernel)
set_option maxRecDepth 20000 in
theorem gX1_eliminate_X1_swapRows : GoodIn wsX1_eliminate (wsV RX1 72 RX1 yX1_swapRows wsX1_swapRows) := goodIn_app (goodIn_of _ (by decide +kernel)) ggX1_eliminate_X1_swapRows
set_option maxRecDepth 20000 in
theorem ggX1_eliminate_X1_sweep : GoodIn wsX1_eliminate wsX1_sweep := goodIn_r _ [32, 2, 11, 4, 12, 13, 14, 9, 15, 16, 17, 18, 19, 20, 25, 26, 27, 28, 33, 34, 35, 36, 37, 38, 39] (by decide +kernel) (by decide +kernel)
set_option maxRecDepth 20000 in
theorem gX1_eliminate_X1_sweep : GoodIn wsX1_eliminate (wsV RX1 75 RX1 yX1_sweep wsX1_sweep) := goodIn_app (goodIn_of _ (by decide +kernel)) ggX1_eliminate_X1_sweep
set_option maxRecDepth 20000 in
theorem ggX1_eliminate_X1_cell : GoodIn wsX1_eliminate wsX1_cell := goodIn_r _ [15, 16, 17, 18, 19, 9, 20, 33, 34, 35, 36, 37, 38, 39] (by decide +kernel) (by decide +kernel)
set_option maxRecDepth 20000 in
theorem gX1_eliminate_X1_cell : GoodIn wsX1_eliminate (wsV RX1 49 RX1 yX1_cell wsX1_cell) := goodIn_app (goodIn_of _ (by decide +kernel)) ggX1_eliminate_X1_cell
theorem dX1_eliminate_0 : decode cX1_eliminate 0 = .ok (.aload_n 0, 1) := by decide +kernel
theorem dX1_eliminate_1 : decode cX1_eliminate 1 = .ok (.iconst 0, 1) := by decide +kernel
theorem dX1_eliminate_2 : decode cX1_eliminate 2 = .ok (.putfield 61, 3) := by decide +kernel
theorem dX1_eliminate_5 : decode cX1_eliminate 5 = .ok (.aload_n 0, 1) := by decide +kernel
theorem dX1_eliminate_6 : decode cX1_eliminate 6 = .ok (.lconst 1, 1) := by decide +kernel
theorem dX1_eliminate_7 : decode cX1_eliminate 7 = .ok (.putfield 9, 3) := by decide +kernel
theorem dX1_eliminate_10 : decode cX1_eliminate 10 = .ok (.aload_n 0, 1) := by decide +kernel
theorem dX1_eliminate_11 : decode cX1_eliminate 11 = .ok (.iconst 0, 1) := by decide +kernel
theorem dX1_eliminate_12 : decode cX1_eliminate 12 = .ok (.putfield 64, 3) := by decide +kernel
theorem dX1_eliminate_15 : decode cX1_eliminate 15 = .ok (.iconst 0, 1) := by decide +kernel
theorem dX1_eliminate_16 : decode cX1_eliminate 16 = .ok (.istore_n 1, 1) := by decide +kernel
theorem dX1_eliminate_17 : decode cX1_eliminate 17 = .ok (.iload_n 1, 1) := by decide +kernel
theorem dX1_eliminate_18 : decode cX1_eliminate 18 = .ok (.aload_n 0, 1) := by decide +kernel
theorem dX1_eliminate_19 : decode cX1_eliminate 19 = .ok (.getfield 36, 3) := by decide +kernel
theorem dX1_eliminate_22 : decode cX1_eliminate 22 = .ok (.if_icmp .ge 84, 3) := by decide +kernel
theorem dX1_eliminate_25 : decode cX1_eliminate 25 = .ok (.iload_n 1, 1) := by decide +kernel
theorem dX1_eliminate_26 : decode cX1_eliminate 26 = .ok (.bipush 10, 2) := by decide +kernel
theorem dX1_eliminate_28 : decode cX1_eliminate 28 = .ok (.if_icmp .ge 78, 3) := by decide +kernel
theorem dX1_eliminate_31 : decode cX1_eliminate 31 = .ok (.aload_n 0, 1) := by decide +kernel
theorem dX1_eliminate_32 : decode cX1_eliminate 32 = .ok (.iload_n 1, 1) := by decide +kernel
theorem dX1_eliminate_33 : decode cX1_eliminate 33 = .ok (.invokevirtual 68, 3) := by decide +kernel
theorem dX1_eliminate_36 : decode cX1_eliminate 36 = .ok (.istore_n 2, 1) := by decide +kernel
theorem dX1_eliminate_37 : decode cX1_eliminate 37 = .ok (.aload_n 0, 1) := by decide +kernel
theorem dX1_eliminate_38 : decode cX1_eliminate 38 = .ok (.getfield 19, 3) := by decide +kernel
theorem dX1_eliminate_41 : decode cX1_eliminate 41 = .ok (.iload_n 1, 1) := by decide +kernel
theorem dX1_eliminate_42 : decode cX1_eliminate 42 = .ok (.iload_n 2, 1) := by decide +kernel
theorem dX1_eliminate_43 : decode cX1_eliminate 43 = .ok (.ifCond .ge 7, 3) := by decide +kernel
theorem dX1_eliminate_46 : decode cX1_eliminate 46 = .ok (.iconst (-1), 1) := by decide +kernel
theorem dX1_eliminate_47 : decode cX1_eliminate 47 = .ok (.goto 7, 3) := by decide +kernel
theorem dX1_eliminate_50 : decode cX1_eliminate 50 = .ok (.aload_n 0, 1) := by decide +kernel
theorem dX1_eliminate_51 : decode cX1_eliminate 51 = .ok (.getfield 61, 3) := by decide +kernel
theorem dX1_eliminate_54 : decode cX1_eliminate 54 = .ok (.iastore, 1) := by decide +kernel
theorem dX1_eliminate_55 : decode cX1_eliminate 55 = .ok (.iload_n 2, 1) := by decide +kernel
theorem dX1_eliminate_56 : decode cX1_eliminate 56 = .ok (.ifCond .lt 44, 3) := by decide +kernel
theorem dX1_eliminate_59 : decode cX1_eliminate 59 = .ok (.aload_n 0, 1) := by decide +kernel
theorem dX1_eliminate_60 : decode cX1_eliminate 60 = .ok (.iload_n 2, 1) := by decide +kernel
theorem dX1_eliminate_61 : decode cX1_eliminate 61 = .ok (.aload_n 0, 1) := by decide +kernel
theorem dX1_eliminate_62 : decode cX1_eliminate 62 = .ok (.getfield 61, 3) := by decide +kernel
theorem dX1_eliminate_65 : decode cX1_eliminate 65 = .ok (.invokevirtual 72, 3) := by decide +kernel
theorem dX1_eliminate_68 : decode cX1_eliminate 68 = .ok (.aload_n 0, 1) := by decide +kernel
theorem dX1_eliminate_69 : decode cX1_eliminate 69 = .ok (.aload_n 0, 1) := by decide +kernel
theorem dX1_eliminate_70 : decode cX1_eliminate 70 = .ok (.getfield 61, 3) := by decide +kernel
theorem dX1_eliminate_73 : decode cX1_eliminate 73 = .ok (.iload_n 1, 1) := by decide +kernel
theorem dX1_eliminate_74 : decode cX1_eliminate 74 = .ok (.invokevirtual 75, 3) := by decide +kernel
theorem dX1_eliminate_77 : decode cX1_eliminate 77 = .ok (.aload_n 0, 1) := by decide +kernel
theorem dX1_eliminate_78 : decode cX1_eliminate 78 = .ok (.aload_n 0, 1) := by decide +kernel
theorem dX1_eliminate_79 : decode cX1_eliminate 79 = .ok (.aload_n 0, 1) := by decide +kernel
theorem dX1_eliminate_80 : decode cX1_eliminate 80 = .ok (.getfield 61, 3) := by decide +kernel
theorem dX1_eliminate_83 : decode cX1_eliminate 83 = .ok (.iload_n 1, 1) := by decide +kernel
theorem dX1_eliminate_84 : decode cX1_eliminate 84 = .ok (.invokevirtual 49, 3) := by decide +kernel
theorem dX1_eliminate_87 : decode cX1_eliminate 87 = .ok (.putfield 9, 3) := by decide +kernel
theorem dX1_eliminate_90 : decode cX1_eliminate 90 = .ok (.aload_n 0, 1) := by decide +kernel
theorem dX1_eliminate_91 : decode cX1_eliminate 91 = .ok (.dup, 1) := by decide +kernel
theorem dX1_eliminate_92 : decode cX1_eliminate 92 = .ok (.getfield 61, 3) := by decide +kernel
theorem dX1_eliminate_95 : decode cX1_eliminate 95 = .ok (.iconst 1, 1) := by decide +kernel
theorem dX1_eliminate_96 : decode cX1_eliminate 96 = .ok (.iadd, 1) := by decide +kernel
theorem dX1_eliminate_97 : decode cX1_eliminate 97 = .ok (.putfield 61, 3) := by decide +kernel
theorem dX1_eliminate_100 : decode cX1_eliminate 100 = .ok (.iinc 1 1, 3) := by decide +kernel
theorem dX1_eliminate_103 : decode cX1_eliminate 103 = .ok (.goto (-86), 3) := by decide +kernel
theorem dX1_eliminate_106 : decode cX1_eliminate 106 = .ok (.return_, 1) := by decide +kernel
set_option maxRecDepth 20000 in
theorem ggX1_firstFilled_X1_cell : GoodIn wsX1_firstFilled wsX1_cell := goodIn_r _ [7, 8, 9, 10, 11, 6, 12, 13, 14, 15, 16, 17, 18, 19] (by decide +kernel) (by decide +kernel)
set_option maxRecDepth 20000 in
theorem gX1_firstFilled_X1_cell : GoodIn wsX1_firstFilled (wsV RX1 49 RX1 yX1_cell wsX1_cell) := goodIn_app (goodIn_of _ (by decide +kernel)) ggX1_firstFilled_X1_cell
theorem dX1_firstFilled_0 : decode cX1_firstFilled 0 = .ok (.aload_n 0, 1) := by decide +kernel
theorem dX1_firstFilled_1 : decode cX1_firstFilled 1 = .ok (.getfield 61, 3) := by decide +kernel
theorem dX1_firstFilled_4 : decode cX1_firstFilled 4 = .ok (.istore_n 2, 1) := by decide +kernel
theorem dX1_firstFilled_5 : decode cX1_firstFilled 5 = .ok (.iload_n 2, 1) := by decide +kernel
theorem dX1_firstFilled_6 : decode cX1_firstFilled 6 = .ok (.aload_n 0, 1) := by decide +kernel
theorem dX1_firstFilled_7 : decode cX1_firstFilled 7 = .ok (.getfield 32, 3) := by decide +kernel
theorem dX1_firstFilled_10 : decode cX1_firstFilled 10 = .ok (.if_icmp .ge 22, 3) := by decide +kernel
theorem dX1_firstFilled_13 : decode cX1_firstFilled 13 = .ok (.aload_n 0, 1) := by decide +kernel
theorem dX1_firstFilled_14 : decode cX1_firstFilled 14 = .ok (.iload_n 2, 1) := by decide +kernel
theorem dX1_firstFilled_15 : decode cX1_firstFilled 15 = .ok (.iload_n 1, 1) := by decide +kernel
theorem dX1_firstFilled_16 : decode cX1_firstFilled 16 = .ok (.invokevirtual 49, 3) := by decide +kernel
theorem dX1_firstFilled_19 : decode cX1_firstFilled 19 = .ok (.lconst 0, 1) := by decide +kernel
theorem dX1_firstFilled_20 : decode cX1_firstFilled 20 = .ok (.lcmp, 1) := by decide +kernel
theorem dX1_firstFilled_21 : decode cX1_firstFilled 21 = .ok (.ifCond .eq 5, 3) := by decide +kernel
theorem dX1_firstFilled_24 : decode cX1_firstFilled 24 = .ok (.iload_n 2, 1) := by decide +kernel
theorem dX1_firstFilled_25 : decode cX1_firstFilled 25 = .ok (.ireturn, 1) := by decide +kernel
theorem dX1_firstFilled_26 : decode cX1_firstFilled 26 = .ok (.iinc 2 1, 3) := by decide +kernel
theorem dX1_firstFilled_29 : decode cX1_firstFilled 29 = .ok (.goto (-24), 3) := by decide +kernel
theorem dX1_firstFilled_32 : decode cX1_firstFilled 32 = .ok (.iconst (-1), 1) := by decide +kernel
theorem dX1_firstFilled_33 : decode cX1_firstFilled 33 = .ok (.ireturn, 1) := by decide +kernel
set_option maxRecDepth 20000 in
theorem ggX1_swapRows_X1_cell : GoodIn wsX1_swapRows wsX1_cell := goodIn_r _ [7, 8, 9, 10, 11, 6, 12, 17, 18, 19, 20, 21, 22, 23] (by decide +kernel) (by decide +kernel)
set_option maxRecDepth 20000 in
theorem gX1_swapRows_X1_cell : GoodIn wsX1_swapRows (wsV RX1 49 RX1 yX1_cell wsX1_cell) := goodIn_app (goodIn_of _ (by decide +kernel)) ggX1_swapRows_X1_cell
set_option maxRecDepth 20000 in
theorem ggX1_swapRows_X1_write : GoodIn wsX1_swapRows wsX1_write := goodIn_r _ [16, 8, 9, 10, 11, 6, 12, 17, 18, 19, 20, 21, 22, 23] (by decide +kernel) (by decide +kernel)
set_option maxRecDepth 20000 in
theorem gX1_swapRows_X1_write : GoodIn wsX1_swapRows (wsV RX1 53 RX1 yX1_write wsX1_write) := goodIn_app (goodIn_of _ (by decide +kernel)) ggX1_swapRows_X1_write
theorem dX1_swapRows_0 : decode cX1_swapRows 0 = .ok (.iload_n 1, 1) := by decide +kernel
theorem dX1_swapRows_1 : decode cX1_swapRows 1 = .ok (.iload_n 2, 1) := by decide +kernel
theorem dX1_swapRows_2 : decode cX1_swapRows 2 = .ok (.if_icmp .ne 4, 3) := by decide +kernel
theorem dX1_swapRows_5 : decode cX1_swapRows 5 = .ok (.return_, 1) := by decide +kernel
theorem dX1_swapRows_6 : decode cX1_swapRows 6 = .ok (.aload_n 0, 1) := by decide +kernel
theorem dX1_swapRows_7 : decode cX1_swapRows 7 = .ok (.aload_n 0, 1) := by decide +kernel
theorem dX1_swapRows_8 : decode cX1_swapRows 8 = .ok (.getfield 64, 3) := by decide +kernel
theorem dX1_swapRows_11 : decode cX1_swapRows 11 = .ok (.ifCond .ne 7, 3) := by decide +kernel
theorem dX1_swapRows_14 : decode cX1_swapRows 14 = .ok (.iconst 1, 1) := by decide +kernel
theorem dX1_swapRows_15 : decode cX1_swapRows 15 = .ok (.goto 4, 3) := by decide +kernel
theorem dX1_swapRows_18 : decode cX1_swapRows 18 = .ok (.iconst 0, 1) := by decide +kernel
theorem dX1_swapRows_19 : decode cX1_swapRows 19 = .ok (.putfield 64, 3) := by decide +kernel
theorem dX1_swapRows_22 : decode cX1_swapRows 22 = .ok (.iconst 0, 1) := by decide +kernel
theorem dX1_swapRows_23 : decode cX1_swapRows 23 = .ok (.istore_n 3, 1) := by decide +kernel
theorem dX1_swapRows_24 : decode cX1_swapRows 24 = .ok (.iload_n 3, 1) := by decide +kernel
theorem dX1_swapRows_25 : decode cX1_swapRows 25 = .ok (.aload_n 0, 1) := by decide +kernel
theorem dX1_swapRows_26 : decode cX1_swapRows 26 = .ok (.getfield 36, 3) := by decide +kernel
theorem dX1_swapRows_29 : decode cX1_swapRows 29 = .ok (.if_icmp .gt 37, 3) := by decide +kernel
theorem dX1_swapRows_32 : decode cX1_swapRows 32 = .ok (.aload_n 0, 1) := by decide +kernel
theorem dX1_swapRows_33 : decode cX1_swapRows 33 = .ok (.iload_n 1, 1) := by decide +kernel
theorem dX1_swapRows_34 : decode cX1_swapRows 34 = .ok (.iload_n 3, 1) := by decide +kernel
theorem dX1_swapRows_35 : decode cX1_swapRows 35 = .ok (.invokevirtual 49, 3) := by decide +kernel
theorem dX1_swapRows_38 : decode cX1_swapRows 38 = .ok (.lstore 4, 2) := by decide +kernel
theorem dX1_swapRows_40 : decode cX1_swapRows 40 = .ok (.aload_n 0, 1) := by decide +kernel
theorem dX1_swapRows_41 : decode cX1_swapRows 41 = .ok (.iload_n 1, 1) := by decide +kernel
theorem dX1_swapRows_42 : decode cX1_swapRows 42 = .ok (.iload_n 3, 1) := by decide +kernel
theorem dX1_swapRows_43 : decode cX1_swapRows 43 = .ok (.aload_n 0, 1) := by decide +kernel
theorem dX1_swapRows_44 : decode cX1_swapRows 44 = .ok (.iload_n 2, 1) := by decide +kernel
theorem dX1_swapRows_45 : decode cX1_swapRows 45 = .ok (.iload_n 3, 1) := by decide +kernel
theorem dX1_swapRows_46 : decode cX1_swapRows 46 = .ok (.invokevirtual 49, 3) := by decide +kernel
theorem dX1_swapRows_49 : decode cX1_swapRows 49 = .ok (.invokevirtual 53, 3) := by decide +kernel
theorem dX1_swapRows_52 : decode cX1_swapRows 52 = .ok (.aload_n 0, 1) := by decide +kernel
theorem dX1_swapRows_53 : decode cX1_swapRows 53 = .ok (.iload_n 2, 1) := by decide +kernel
theorem dX1_swapRows_54 : decode cX1_swapRows 54 = .ok (.iload_n 3, 1) := by decide +kernel
theorem dX1_swapRows_55 : decode cX1_swapRows 55 = .ok (.lload 4, 2) := by decide +kernel
theorem dX1_swapRows_57 : decode cX1_swapRows 57 = .ok (.invokevirtual 53, 3) := by decide +kernel
theorem dX1_swapRows_60 : decode cX1_swapRows 60 = .ok (.iinc 3 1, 3) := by decide +kernel
theorem dX1_swapRows_63 : decode cX1_swapRows 63 = .ok (.goto (-39), 3) := by decide +kernel
theorem dX1_swapRows_66 : decode cX1_swapRows 66 = .ok (.return_, 1) := by decide +kernel
set_option maxRecDepth 20000 in
theorem ggX1_sweep_X1_cell : GoodIn wsX1_sweep wsX1_cell := goodIn_r _ [8, 9, 10, 11, 12, 7, 13, 18, 19, 20, 21, 22, 23, 24] (by decide +kernel) (by decide +kernel)
set_option maxRecDepth 20000 in
theorem gX1_sweep_X1_cell : GoodIn wsX1_sweep (wsV RX1 49 RX1 yX1_cell wsX1_cell) := goodIn_app (goodIn_of _ (by decide +kernel)) ggX1_sweep_X1_cell
set_option maxRecDepth 20000 in
theorem ggX1_sweep_X1_write : GoodIn wsX1_sweep wsX1_write := goodIn_r _ [17, 9, 10, 11, 12, 7, 13, 18, 19, 20, 21, 22, 23, 24] (by decide +kernel) (by decide +kernel)
set_option maxRecDepth 20000 in
theorem gX1_sweep_X1_write : GoodIn wsX1_sweep (wsV RX1 53 RX1 yX1_write wsX1_write) := goodIn_app (goodIn_of _ (by decide +kernel)) ggX1_sweep_X1_write
theorem dX1_sweep_0 : decode cX1_sweep 0 = .ok (.aload_n 0, 1) := by decide +kernel
theorem dX1_sweep_1 : decode cX1_sweep 1 = .ok (.getfield 9, 3) := by decide +kernel
theorem dX1_sweep_4 : decode cX1_sweep 4 = .ok (.lconst 0, 1) := by decide +kernel
theorem dX1_sweep_5 : decode cX1_sweep 5 = .ok (.lcmp, 1) := by decide +kernel
theorem dX1_sweep_6 : decode cX1_sweep 6 = .ok (.ifCond .ne 4, 3) := by decide +kernel
theorem dX1_sweep_9 : decode cX1_sweep 9 = .ok (.return_, 1) := by decide +kernel
theorem dX1_sweep_10 : decode cX1_sweep 10 = .ok (.aload_n 0, 1) := by decide +kernel
theorem dX1_sweep_11 : decode cX1_sweep 11 = .ok (.iload_n 1, 1) := by decide +kernel
theorem dX1_sweep_12 : decode cX1_sweep 12 = .ok (.iload_n 2, 1) := by decide +kernel
theorem dX1_sweep_13 : decode cX1_sweep 13 = .ok (.invokevirtual 49, 3) := by decide +kernel
theorem dX1_sweep_16 : decode cX1_sweep 16 = .ok (.lstore_n 3, 1) := by decide +kernel
theorem dX1_sweep_17 : decode cX1_sweep 17 = .ok (.iconst 0, 1) := by decide +kernel
theorem dX1_sweep_18 : decode cX1_sweep 18 = .ok (.istore 5, 2) := by decide +kernel
theorem dX1_sweep_20 : decode cX1_sweep 20 = .ok (.iload 5, 2) := by decide +kernel
theorem dX1_sweep_22 : decode cX1_sweep 22 = .ok (.aload_n 0, 1) := by decide +kernel
theorem dX1_sweep_23 : decode cX1_sweep 23 = .ok (.getfield 32, 3) := by decide +kernel
theorem dX1_sweep_26 : decode cX1_sweep 26 = .ok (.if_icmp .ge 80, 3) := by decide +kernel
theorem dX1_sweep_29 : decode cX1_sweep 29 = .ok (.iload 5, 2) := by decide +kernel
theorem dX1_sweep_31 : decode cX1_sweep 31 = .ok (.iload_n 1, 1) := by decide +kernel
theorem dX1_sweep_32 : decode cX1_sweep 32 = .ok (.if_icmp .eq 68, 3) := by decide +kernel
theorem dX1_sweep_35 : decode cX1_sweep 35 = .ok (.aload_n 0, 1) := by decide +kernel
theorem dX1_sweep_36 : decode cX1_sweep 36 = .ok (.iload 5, 2) := by decide +kernel
theorem dX1_sweep_38 : decode cX1_sweep 38 = .ok (.iload_n 2, 1) := by decide +kernel
theorem dX1_sweep_39 : decode cX1_sweep 39 = .ok (.invokevirtual 49, 3) := by decide +kernel
theorem dX1_sweep_42 : decode cX1_sweep 42 = .ok (.lstore 6, 2) := by decide +kernel
theorem dX1_sweep_44 : decode cX1_sweep 44 = .ok (.iconst 0, 1) := by decide +kernel
theorem dX1_sweep_45 : decode cX1_sweep 45 = .ok (.istore 8, 2) := by decide +kernel
theorem dX1_sweep_47 : decode cX1_sweep 47 = .ok (.iload 8, 2) := by decide +kernel
theorem dX1_sweep_49 : decode cX1_sweep 49 = .ok (.aload_n 0, 1) := by decide +kernel
theorem dX1_sweep_50 : decode cX1_sweep 50 = .ok (.getfield 36, 3) := by decide +kernel
theorem dX1_sweep_53 : decode cX1_sweep 53 = .ok (.if_icmp .gt 47, 3) := by decide +kernel
theorem dX1_sweep_56 : decode cX1_sweep 56 = .ok (.aload_n 0, 1) := by decide +kernel
theorem dX1_sweep_57 : decode cX1_sweep 57 = .ok (.iload 5, 2) := by decide +kernel
theorem dX1_sweep_59 : decode cX1_sweep 59 = .ok (.iload 8, 2) := by decide +kernel
theorem dX1_sweep_61 : decode cX1_sweep 61 = .ok (.invokevirtual 49, 3) := by decide +kernel
theorem dX1_sweep_64 : decode cX1_sweep 64 = .ok (.lload_n 3, 1) := by decide +kernel
theorem dX1_sweep_65 : decode cX1_sweep 65 = .ok (.lmul, 1) := by decide +kernel
theorem dX1_sweep_66 : decode cX1_sweep 66 = .ok (.lload 6, 2) := by decide +kernel
theorem dX1_sweep_68 : decode cX1_sweep 68 = .ok (.aload_n 0, 1) := by decide +kernel
theorem dX1_sweep_69 : decode cX1_sweep 69 = .ok (.iload_n 1, 1) := by decide +kernel
theorem dX1_sweep_70 : decode cX1_sweep 70 = .ok (.iload 8, 2) := by decide +kernel
theorem dX1_sweep_72 : decode cX1_sweep 72 = .ok (.invokevirtual 49, 3) := by decide +kernel
theorem dX1_sweep_75 : decode cX1_sweep 75 = .ok (.lmul, 1) := by decide +kernel
theorem dX1_sweep_76 : decode cX1_sweep 76 = .ok (.lsub, 1) := by decide +kernel
theorem dX1_sweep_77 : decode cX1_sweep 77 = .ok (.lstore 9, 2) := by decide +kernel
theorem dX1_sweep_79 : decode cX1_sweep 79 = .ok (.aload_n 0, 1) := by decide +kernel
theorem dX1_sweep_80 : decode cX1_sweep 80 = .ok (.iload 5, 2) := by decide +kernel
theorem dX1_sweep_82 : decode cX1_sweep 82 = .ok (.iload 8, 2) := by decide +kernel
theorem dX1_sweep_84 : decode cX1_sweep 84 = .ok (.lload 9, 2) := by decide +kernel
theorem dX1_sweep_86 : decode cX1_sweep 86 = .ok (.aload_n 0, 1) := by decide +kernel
theorem dX1_sweep_87 : decode cX1_sweep 87 = .ok (.getfield 9, 3) := by decide +kernel
theorem dX1_sweep_90 : decode cX1_sweep 90 = .ok (.ldiv, 1) := by decide +kernel
theorem dX1_sweep_91 : decode cX1_sweep 91 = .ok (.invokevirtual 53, 3) := by decide +kernel
theorem dX1_sweep_94 : decode cX1_sweep 94 = .ok (.iinc 8 1, 3) := by decide +kernel
theorem dX1_sweep_97 : decode cX1_sweep 97 = .ok (.goto (-50), 3) := by decide +kernel
theorem dX1_sweep_100 : decode cX1_sweep 100 = .ok (.iinc 5 1, 3) := by decide +kernel
theorem dX1_sweep_103 : decode cX1_sweep 103 = .ok (.goto (-83), 3) := by decide +kernel
theorem dX1_sweep_106 : decode cX1_sweep 106 = .ok (.return_, 1) := by decide +kernel
set_option maxRecDepth 20000 in
theorem ggX1_isSolvable_X1_cell : GoodIn wsX1_isSolvable wsX1_cell := goodIn_r _ [8, 9, 10, 11, 12, 7, 13, 14, 15, 16, 17, 18, 19, 20] (by decide +kernel) (by decide +kernel)
set_option maxRecDepth 20000 in
theorem gX1_isSolvable_X1_cell : GoodIn wsX1_isSolvable (wsV RX1 49 RX1 yX1_cell wsX1_cell) := goodIn_app (goodIn_of _ (by decide +kernel)) ggX1_isSolvable_X1_cell
theorem dX1_isSolvable_0 : decode cX1_isSolvable 0 = .ok (.aload_n 0, 1) := by decide +kernel
theorem dX1_isSolvable_1 : decode cX1_isSolvable 1 = .ok (.getfield 61, 3) := by decide +kernel
theorem dX1_isSolvable_4 : decode cX1_isSolvable 4 = .ok (.istore_n 1, 1) := by decide +kernel
theorem dX1_isSolvable_5 : decode cX1_isSolvable 5 = .ok (.iload_n 1, 1) := by decide +kernel
theorem dX1_isSolvable_6 : decode cX1_isSolvable 6 = .ok (.aload_n 0, 1) := by decide +kernel
theorem dX1_isSolvable_7 : decode cX1_isSolvable 7 = .ok (.getfield 32, 3) := by decide +kernel
theorem dX1_isSolvable_10 : decode cX1_isSolvable 10 = .ok (.if_icmp .ge 25, 3) := by decide +kernel
theorem dX1_isSolvable_13 : decode cX1_isSolvable 13 = .ok (.aload_n 0, 1) := by decide +kernel
theorem dX1_isSolvable_14 : decode cX1_isSolvable 14 = .ok (.iload_n 1, 1) := by decide +kernel
theorem dX1_isSolvable_15 : decode cX1_isSolvable 15 = .ok (.aload_n 0, 1) := by decide +kernel
theorem dX1_isSolvable_16 : decode cX1_isSolvable 16 = .ok (.getfield 36, 3) := by decide +kernel
theorem dX1_isSolvable_19 : decode cX1_isSolvable 19 = .ok (.invokevirtual 49, 3) := by decide +kernel
theorem dX1_isSolvable_22 : decode cX1_isSolvable 22 = .ok (.lconst 0, 1) := by decide +kernel
theorem dX1_isSolvable_23 : decode cX1_isSolvable 23 = .ok (.lcmp, 1) := by decide +kernel
theorem dX1_isSolvable_24 : decode cX1_isSolvable 24 = .ok (.ifCond .eq 5, 3) := by decide +kernel
theorem dX1_isSolvable_27 : decode cX1_isSolvable 27 = .ok (.iconst 0, 1) := by decide +kernel
theorem dX1_isSolvable_28 : decode cX1_isSolvable 28 = .ok (.ireturn, 1) := by decide +kernel
theorem dX1_isSolvable_29 : decode cX1_isSolvable 29 = .ok (.iinc 1 1, 3) := by decide +kernel
theorem dX1_isSolvable_32 : decode cX1_isSolvable 32 = .ok (.goto (-27), 3) := by decide +kernel
theorem dX1_isSolvable_35 : decode cX1_isSolvable 35 = .ok (.iconst 1, 1) := by decide +kernel
theorem dX1_isSolvable_36 : decode cX1_isSolvable 36 = .ok (.ireturn, 1) := by decide +kernel
theorem dX1_isFree_0 : decode cX1_isFree 0 = .ok (.iload_n 1, 1) := by decide +kernel
theorem dX1_isFree_1 : decode cX1_isFree 1 = .ok (.ifCond .lt 30, 3) := by decide +kernel
theorem dX1_isFree_4 : decode cX1_isFree 4 = .ok (.iload_n 1, 1) := by decide +kernel
theorem dX1_isFree_5 : decode cX1_isFree 5 = .ok (.aload_n 0, 1) := by decide +kernel
theorem dX1_isFree_6 : decode cX1_isFree 6 = .ok (.getfield 36, 3) := by decide +kernel
theorem dX1_isFree_9 : decode cX1_isFree 9 = .ok (.if_icmp .ge 22, 3) := by decide +kernel
theorem dX1_isFree_12 : decode cX1_isFree 12 = .ok (.iload_n 1, 1) := by decide +kernel
theorem dX1_isFree_13 : decode cX1_isFree 13 = .ok (.bipush 10, 2) := by decide +kernel
theorem dX1_isFree_15 : decode cX1_isFree 15 = .ok (.if_icmp .ge 16, 3) := by decide +kernel
theorem dX1_isFree_18 : decode cX1_isFree 18 = .ok (.aload_n 0, 1) := by decide +kernel
theorem dX1_isFree_19 : decode cX1_isFree 19 = .ok (.getfield 19, 3) := by decide +kernel
theorem dX1_isFree_22 : decode cX1_isFree 22 = .ok (.iload_n 1, 1) := by decide +kernel
theorem dX1_isFree_23 : decode cX1_isFree 23 = .ok (.iaload, 1) := by decide +kernel
theorem dX1_isFree_24 : decode cX1_isFree 24 = .ok (.ifCond .ge 7, 3) := by decide +kernel
theorem dX1_isFree_27 : decode cX1_isFree 27 = .ok (.iconst 1, 1) := by decide +kernel
theorem dX1_isFree_28 : decode cX1_isFree 28 = .ok (.goto 4, 3) := by decide +kernel
theorem dX1_isFree_31 : decode cX1_isFree 31 = .ok (.iconst 0, 1) := by decide +kernel
theorem dX1_isFree_32 : decode cX1_isFree 32 = .ok (.ireturn, 1) := by decide +kernel
set_option maxRecDepth 20000 in
theorem ggX1_freeSet_X1_isFree : GoodIn wsX1_freeSet wsX1_isFree := goodIn_r _ [6, 1, 7, 8, 9, 10, 11, 12, 13, 14] (by decide +kernel) (by decide +kernel)
set_option maxRecDepth 20000 in
theorem gX1_freeSet_X1_isFree : GoodIn wsX1_freeSet (wsV RX1 78 RX1 yX1_isFree wsX1_isFree) := goodIn_app (goodIn_of _ (by decide +kernel)) ggX1_freeSet_X1_isFree
theorem dX1_freeSet_0 : decode cX1_freeSet 0 = .ok (.iconst 0, 1) := by decide +kernel
theorem dX1_freeSet_1 : decode cX1_freeSet 1 = .ok (.istore_n 1, 1) := by decide +kernel
theorem dX1_freeSet_2 : decode cX1_freeSet 2 = .ok (.iconst 0, 1) := by decide +kernel
theorem dX1_freeSet_3 : decode cX1_freeSet 3 = .ok (.istore_n 2, 1) := by decide +kernel
theorem dX1_freeSet_4 : decode cX1_freeSet 4 = .ok (.iload_n 2, 1) := by decide +kernel
theorem dX1_freeSet_5 : decode cX1_freeSet 5 = .ok (.aload_n 0, 1) := by decide +kernel
theorem dX1_freeSet_6 : decode cX1_freeSet 6 = .ok (.getfield 36, 3) := by decide +kernel
theorem dX1_freeSet_9 : decode cX1_freeSet 9 = .ok (.if_icmp .ge 27, 3) := by decide +kernel
theorem dX1_freeSet_12 : decode cX1_freeSet 12 = .ok (.iload_n 1, 1) := by decide +kernel
theorem dX1_freeSet_13 : decode cX1_freeSet 13 = .ok (.aload_n 0, 1) := by decide +kernel
theorem dX1_freeSet_14 : decode cX1_freeSet 14 = .ok (.iload_n 2, 1) := by decide +kernel
theorem dX1_freeSet_15 : decode cX1_freeSet 15 = .ok (.invokevirtual 78, 3) := by decide +kernel
theorem dX1_freeSet_18 : decode cX1_freeSet 18 = .ok (.ifCond .eq 9, 3) := by decide +kernel
theorem dX1_freeSet_21 : decode cX1_freeSet 21 = .ok (.iconst 1, 1) := by decide +kernel
theorem dX1_freeSet_22 : decode cX1_freeSet 22 = .ok (.iload_n 2, 1) := by decide +kernel
theorem dX1_freeSet_23 : decode cX1_freeSet 23 = .ok (.ishl, 1) := by decide +kernel
theorem dX1_freeSet_24 : decode cX1_freeSet 24 = .ok (.goto 4, 3) := by decide +kernel
theorem dX1_freeSet_27 : decode cX1_freeSet 27 = .ok (.iconst 0, 1) := by decide +kernel
theorem dX1_freeSet_28 : decode cX1_freeSet 28 = .ok (.ior, 1) := by decide +kernel
theorem dX1_freeSet_29 : decode cX1_freeSet 29 = .ok (.istore_n 1, 1) := by decide +kernel
theorem dX1_freeSet_30 : decode cX1_freeSet 30 = .ok (.iinc 2 1, 3) := by decide +kernel
theorem dX1_freeSet_33 : decode cX1_freeSet 33 = .ok (.goto (-29), 3) := by decide +kernel
theorem dX1_freeSet_36 : decode cX1_freeSet 36 = .ok (.iload_n 1, 1) := by decide +kernel
theorem dX1_freeSet_37 : decode cX1_freeSet 37 = .ok (.ireturn, 1) := by decide +kernel
theorem dX1_isPivot_0 : decode cX1_isPivot 0 = .ok (.iload_n 1, 1) := by decide +kernel
theorem dX1_isPivot_1 : decode cX1_isPivot 1 = .ok (.ifCond .lt 30, 3) := by decide +kernel
theorem dX1_isPivot_4 : decode cX1_isPivot 4 = .ok (.iload_n 1, 1) := by decide +kernel
theorem dX1_isPivot_5 : decode cX1_isPivot 5 = .ok (.aload_n 0, 1) := by decide +kernel
theorem dX1_isPivot_6 : decode cX1_isPivot 6 = .ok (.getfield 36, 3) := by decide +kernel
theorem dX1_isPivot_9 : decode cX1_isPivot 9 = .ok (.if_icmp .ge 22, 3) := by decide +kernel
theorem dX1_isPivot_12 : decode cX1_isPivot 12 = .ok (.iload_n 1, 1) := by decide +kernel
theorem dX1_isPivot_13 : decode cX1_isPivot 13 = .ok (.bipush 10, 2) := by decide +kernel
theorem dX1_isPivot_15 : decode cX1_isPivot 15 = .ok (.if_icmp .ge 16, 3) := by decide +kernel
theorem dX1_isPivot_18 : decode cX1_isPivot 18 = .ok (.aload_n 0, 1) := by decide +kernel
theorem dX1_isPivot_19 : decode cX1_isPivot 19 = .ok (.getfield 19, 3) := by decide +kernel
theorem dX1_isPivot_22 : decode cX1_isPivot 22 = .ok (.iload_n 1, 1) := by decide +kernel
theorem dX1_isPivot_23 : decode cX1_isPivot 23 = .ok (.iaload, 1) := by decide +kernel
theorem dX1_isPivot_24 : decode cX1_isPivot 24 = .ok (.ifCond .lt 7, 3) := by decide +kernel
theorem dX1_isPivot_27 : decode cX1_isPivot 27 = .ok (.iconst 1, 1) := by decide +kernel
theorem dX1_isPivot_28 : decode cX1_isPivot 28 = .ok (.goto 4, 3) := by decide +kernel
theorem dX1_isPivot_31 : decode cX1_isPivot 31 = .ok (.iconst 0, 1) := by decide +kernel
theorem dX1_isPivot_32 : decode cX1_isPivot 32 = .ok (.ireturn, 1) := by decide +kernel
set_option maxRecDepth 20000 in
theorem ggX1_solutionAbove_X1_isPivot : GoodIn wsX1_solutionAbove wsX1_isPivot := goodIn_r _ [7, 2, 1, 17, 18, 19, 20, 21, 22, 23] (by decide +kernel) (by decide +kernel)
set_option maxRecDepth 20000 in
theorem gX1_solutionAbove_X1_isPivot : GoodIn wsX1_solutionAbove (wsV RX1 82 RX1 yX1_isPivot wsX1_isPivot) := goodIn_app (goodIn_of _ (by decide +kernel)) ggX1_solutionAbove_X1_isPivot
set_option maxRecDepth 20000 in
theorem ggX1_solutionAbove_X1_cell : GoodIn wsX1_solutionAbove wsX1_cell := goodIn_r _ [11, 12, 13, 14, 15, 6, 16, 17, 18, 19, 20, 21, 22, 23] (by decide +kernel) (by decide +kernel)
set_option maxRecDepth 20000 in
theorem gX1_solutionAbove_X1_cell : GoodIn wsX1_solutionAbove (wsV RX1 49 RX1 yX1_cell wsX1_cell) := goodIn_app (goodIn_of _ (by decide +kernel)) ggX1_solutionAbove_X1_cell
theorem dX1_solutionAbove_0 : decode cX1_solutionAbove 0 = .ok (.aload_n 0, 1) := by decide +kernel
theorem dX1_solutionAbove_1 : decode cX1_solutionAbove 1 = .ok (.iload_n 1, 1) := by decide +kernel
theorem dX1_solutionAbove_2 : decode cX1_solutionAbove 2 = .ok (.invokevirtual 82, 3) := by decide +kernel
theorem dX1_solutionAbove_5 : decode cX1_solutionAbove 5 = .ok (.ifCond .eq 20, 3) := by decide +kernel
theorem dX1_solutionAbove_8 : decode cX1_solutionAbove 8 = .ok (.aload_n 0, 1) := by decide +kernel
theorem dX1_solutionAbove_9 : decode cX1_solutionAbove 9 = .ok (.aload_n 0, 1) := by decide +kernel
theorem dX1_solutionAbove_10 : decode cX1_solutionAbove 10 = .ok (.getfield 19, 3) := by decide +kernel
theorem dX1_solutionAbove_13 : decode cX1_solutionAbove 13 = .ok (.iload_n 1, 1) := by decide +kernel
theorem dX1_solutionAbove_14 : decode cX1_solutionAbove 14 = .ok (.iaload, 1) := by decide +kernel
theorem dX1_solutionAbove_15 : decode cX1_solutionAbove 15 = .ok (.aload_n 0, 1) := by decide +kernel
theorem dX1_solutionAbove_16 : decode cX1_solutionAbove 16 = .ok (.getfield 36, 3) := by decide +kernel
theorem dX1_solutionAbove_19 : decode cX1_solutionAbove 19 = .ok (.invokevirtual 49, 3) := by decide +kernel
theorem dX1_solutionAbove_22 : decode cX1_solutionAbove 22 = .ok (.goto 4, 3) := by decide +kernel
theorem dX1_solutionAbove_25 : decode cX1_solutionAbove 25 = .ok (.lconst 0, 1) := by decide +kernel
theorem dX1_solutionAbove_26 : decode cX1_solutionAbove 26 = .ok (.lreturn, 1) := by decide +kernel
set_option maxRecDepth 20000 in
theorem ggX1_baseAbove_X1_isPivot : GoodIn wsX1_baseAbove wsX1_isPivot := goodIn_r _ [7, 8, 2, 18, 19, 20, 21, 22, 23, 24] (by decide +kernel) (by decide +kernel)
set_option maxRecDepth 20000 in
theorem gX1_baseAbove_X1_isPivot : GoodIn wsX1_baseAbove (wsV RX1 82 RX1 yX1_isPivot wsX1_isPivot) := goodIn_app (goodIn_of _ (by decide +kernel)) ggX1_baseAbove_X1_isPivot
set_option maxRecDepth 20000 in
theorem ggX1_baseAbove_X1_cell : GoodIn wsX1_baseAbove wsX1_cell := goodIn_r _ [12, 13, 14, 15, 16, 6, 17, 18, 19, 20, 21, 22, 23, 24] (by decide +kernel) (by decide +kernel)
set_option maxRecDepth 20000 in
theorem gX1_baseAbove_X1_cell : GoodIn wsX1_baseAbove (wsV RX1 49 RX1 yX1_cell wsX1_cell) := goodIn_app (goodIn_of _ (by decide +kernel)) ggX1_baseAbove_X1_cell
theorem dX1_baseAbove_0 : decode cX1_baseAbove 0 = .ok (.iload_n 2, 1) := by decide +kernel
theorem dX1_baseAbove_1 : decode cX1_baseAbove 1 = .ok (.iload_n 1, 1) := by decide +kernel
theorem dX1_baseAbove_2 : decode cX1_baseAbove 2 = .ok (.if_icmp .ne 8, 3) := by decide +kernel
theorem dX1_baseAbove_5 : decode cX1_baseAbove 5 = .ok (.aload_n 0, 1) := by decide +kernel
theorem dX1_baseAbove_6 : decode cX1_baseAbove 6 = .ok (.getfield 9, 3) := by decide +kernel
theorem dX1_baseAbove_9 : decode cX1_baseAbove 9 = .ok (.lreturn, 1) := by decide +kernel
theorem dX1_baseAbove_10 : decode cX1_baseAbove 10 = .ok (.aload_n 0, 1) := by decide +kernel
theorem dX1_baseAbove_11 : decode cX1_baseAbove 11 = .ok (.iload_n 2, 1) := by decide +kernel
theorem dX1_baseAbove_12 : decode cX1_baseAbove 12 = .ok (.invokevirtual 82, 3) := by decide +kernel
theorem dX1_baseAbove_15 : decode cX1_baseAbove 15 = .ok (.ifCond .eq 18, 3) := by decide +kernel
theorem dX1_baseAbove_18 : decode cX1_baseAbove 18 = .ok (.aload_n 0, 1) := by decide +kernel
theorem dX1_baseAbove_19 : decode cX1_baseAbove 19 = .ok (.aload_n 0, 1) := by decide +kernel
theorem dX1_baseAbove_20 : decode cX1_baseAbove 20 = .ok (.getfield 19, 3) := by decide +kernel
theorem dX1_baseAbove_23 : decode cX1_baseAbove 23 = .ok (.iload_n 2, 1) := by decide +kernel
theorem dX1_baseAbove_24 : decode cX1_baseAbove 24 = .ok (.iaload, 1) := by decide +kernel
theorem dX1_baseAbove_25 : decode cX1_baseAbove 25 = .ok (.iload_n 1, 1) := by decide +kernel
theorem dX1_baseAbove_26 : decode cX1_baseAbove 26 = .ok (.invokevirtual 49, 3) := by decide +kernel
theorem dX1_baseAbove_29 : decode cX1_baseAbove 29 = .ok (.lneg, 1) := by decide +kernel
theorem dX1_baseAbove_30 : decode cX1_baseAbove 30 = .ok (.goto 4, 3) := by decide +kernel
theorem dX1_baseAbove_33 : decode cX1_baseAbove 33 = .ok (.lconst 0, 1) := by decide +kernel
theorem dX1_baseAbove_34 : decode cX1_baseAbove 34 = .ok (.lreturn, 1) := by decide +kernel
theorem dX1_determinant_0 : decode cX1_determinant 0 = .ok (.aload_n 0, 1) := by decide +kernel
theorem dX1_determinant_1 : decode cX1_determinant 1 = .ok (.getfield 61, 3) := by decide +kernel
theorem dX1_determinant_4 : decode cX1_determinant 4 = .ok (.aload_n 0, 1) := by decide +kernel
theorem dX1_determinant_5 : decode cX1_determinant 5 = .ok (.getfield 36, 3) := by decide +kernel
theorem dX1_determinant_8 : decode cX1_determinant 8 = .ok (.if_icmp .ge 5, 3) := by decide +kernel
theorem dX1_determinant_11 : decode cX1_determinant 11 = .ok (.lconst 0, 1) := by decide +kernel
theorem dX1_determinant_12 : decode cX1_determinant 12 = .ok (.lreturn, 1) := by decide +kernel
theorem dX1_determinant_13 : decode cX1_determinant 13 = .ok (.aload_n 0, 1) := by decide +kernel
theorem dX1_determinant_14 : decode cX1_determinant 14 = .ok (.getfield 64, 3) := by decide +kernel
theorem dX1_determinant_17 : decode cX1_determinant 17 = .ok (.ifCond .eq 11, 3) := by decide +kernel
theorem dX1_determinant_20 : decode cX1_determinant 20 = .ok (.aload_n 0, 1) := by decide +kernel
theorem dX1_determinant_21 : decode cX1_determinant 21 = .ok (.getfield 9, 3) := by decide +kernel
theorem dX1_determinant_24 : decode cX1_determinant 24 = .ok (.lneg, 1) := by decide +kernel
theorem dX1_determinant_25 : decode cX1_determinant 25 = .ok (.goto 7, 3) := by decide +kernel
theorem dX1_determinant_28 : decode cX1_determinant 28 = .ok (.aload_n 0, 1) := by decide +kernel
theorem dX1_determinant_29 : decode cX1_determinant 29 = .ok (.getfield 9, 3) := by decide +kernel
theorem dX1_determinant_32 : decode cX1_determinant 32 = .ok (.lreturn, 1) := by decide +kernel
theorem dX2_init_0 : decode cX2_init 0 = .ok (.aload_n 0, 1) := by decide +kernel
theorem dX2_init_1 : decode cX2_init 1 = .ok (.invokespecial 3, 3) := by decide +kernel
theorem dX2_init_4 : decode cX2_init 4 = .ok (.aload_n 0, 1) := by decide +kernel
theorem dX2_init_5 : decode cX2_init 5 = .ok (.iconst (-1), 1) := by decide +kernel
theorem dX2_init_6 : decode cX2_init 6 = .ok (.putfield 9, 3) := by decide +kernel
theorem dX2_init_9 : decode cX2_init 9 = .ok (.aload_n 0, 1) := by decide +kernel
theorem dX2_init_10 : decode cX2_init 10 = .ok (.bipush 40, 2) := by decide +kernel
theorem dX2_init_12 : decode cX2_init 12 = .ok (.newarray .long, 2) := by decide +kernel
theorem dX2_init_14 : decode cX2_init 14 = .ok (.putfield 15, 3) := by decide +kernel
theorem dX2_init_17 : decode cX2_init 17 = .ok (.return_, 1) := by decide +kernel
set_option maxRecDepth 20000 in
theorem ggX2_renew_J7_fill_d0a16 : GoodIn wsX2_renew wsJ7_fill_d0a16 := goodIn_r _ [14] (by decide +kernel) (by decide +kernel)
set_option maxRecDepth 20000 in
theorem gX2_renew_J7_fill_d0a16 : GoodIn wsX2_renew (va_wsS RX2 31 yJ7_fill_d0a16 wsJ7_fill_d0a16) := goodIn_app (goodIn_of _ (by decide +kernel)) ggX2_renew_J7_fill_d0a16
theorem dX2_renew_0 : decode cX2_renew 0 = .ok (.aload_n 0, 1) := by decide +kernel
theorem dX2_renew_1 : decode cX2_renew 1 = .ok (.iload_n 1, 1) := by decide +kernel
theorem dX2_renew_2 : decode cX2_renew 2 = .ok (.putfield 9, 3) := by decide +kernel
theorem dX2_renew_5 : decode cX2_renew 5 = .ok (.aload_n 0, 1) := by decide +kernel
theorem dX2_renew_6 : decode cX2_renew 6 = .ok (.iconst 0, 1) := by decide +kernel
theorem dX2_renew_7 : decode cX2_renew 7 = .ok (.iload_n 2, 1) := by decide +kernel
theorem dX2_renew_8 : decode cX2_renew 8 = .ok (.bipush 40, 2) := by decide +kernel
theorem dX2_renew_10 : decode cX2_renew 10 = .ok (.invokestatic 19, 3) := by decide +kernel
theorem dX2_renew_13 : decode cX2_renew 13 = .ok (.invokestatic 25, 3) := by decide +kernel
theorem dX2_renew_16 : decode cX2_renew 16 = .ok (.putfield 28, 3) := by decide +kernel
theorem dX2_renew_19 : decode cX2_renew 19 = .ok (.aload_n 0, 1) := by decide +kernel
theorem dX2_renew_20 : decode cX2_renew 20 = .ok (.getfield 15, 3) := by decide +kernel
theorem dX2_renew_23 : decode cX2_renew 23 = .ok (.lconst 0, 1) := by decide +kernel
theorem dX2_renew_24 : decode cX2_renew 24 = .ok (.invokestatic 31, 3) := by decide +kernel
theorem dX2_renew_27 : decode cX2_renew 27 = .ok (.return_, 1) := by decide +kernel
theorem dX2_read_0 : decode cX2_read 0 = .ok (.iload_n 1, 1) := by decide +kernel
theorem dX2_read_1 : decode cX2_read 1 = .ok (.ifCond .lt 26, 3) := by decide +kernel
theorem dX2_read_4 : decode cX2_read 4 = .ok (.iload_n 1, 1) := by decide +kernel
theorem dX2_read_5 : decode cX2_read 5 = .ok (.aload_n 0, 1) := by decide +kernel
theorem dX2_read_6 : decode cX2_read 6 = .ok (.getfield 28, 3) := by decide +kernel
theorem dX2_read_9 : decode cX2_read 9 = .ok (.if_icmp .ge 18, 3) := by decide +kernel
theorem dX2_read_12 : decode cX2_read 12 = .ok (.iload_n 1, 1) := by decide +kernel
theorem dX2_read_13 : decode cX2_read 13 = .ok (.bipush 40, 2) := by decide +kernel
theorem dX2_read_15 : decode cX2_read 15 = .ok (.if_icmp .ge 12, 3) := by decide +kernel
theorem dX2_read_18 : decode cX2_read 18 = .ok (.aload_n 0, 1) := by decide +kernel
theorem dX2_read_19 : decode cX2_read 19 = .ok (.getfield 15, 3) := by decide +kernel
theorem dX2_read_22 : decode cX2_read 22 = .ok (.iload_n 1, 1) := by decide +kernel
theorem dX2_read_23 : decode cX2_read 23 = .ok (.laload, 1) := by decide +kernel
theorem dX2_read_24 : decode cX2_read 24 = .ok (.goto 4, 3) := by decide +kernel
theorem dX2_read_27 : decode cX2_read 27 = .ok (.lconst 0, 1) := by decide +kernel
theorem dX2_read_28 : decode cX2_read 28 = .ok (.lreturn, 1) := by decide +kernel
set_option maxRecDepth 20000 in
theorem ggX2_write_X2_narrowed : GoodIn wsX2_write wsX2_narrowed := goodIn_r _ [7, 8, 9, 10, 11] (by decide +kernel) (by decide +kernel)
set_option maxRecDepth 20000 in
theorem gX2_write_X2_narrowed : GoodIn wsX2_write (wsV RX2 37 RX2 yX2_narrowed wsX2_narrowed) := goodIn_app (goodIn_of _ (by decide +kernel)) ggX2_write_X2_narrowed
theorem dX2_write_0 : decode cX2_write 0 = .ok (.iload_n 1, 1) := by decide +kernel
theorem dX2_write_1 : decode cX2_write 1 = .ok (.ifCond .lt 28, 3) := by decide +kernel
theorem dX2_write_4 : decode cX2_write 4 = .ok (.iload_n 1, 1) := by decide +kernel
theorem dX2_write_5 : decode cX2_write 5 = .ok (.aload_n 0, 1) := by decide +kernel
theorem dX2_write_6 : decode cX2_write 6 = .ok (.getfield 28, 3) := by decide +kernel
theorem dX2_write_9 : decode cX2_write 9 = .ok (.if_icmp .ge 20, 3) := by decide +kernel
theorem dX2_write_12 : decode cX2_write 12 = .ok (.iload_n 1, 1) := by decide +kernel
theorem dX2_write_13 : decode cX2_write 13 = .ok (.bipush 40, 2) := by decide +kernel
theorem dX2_write_15 : decode cX2_write 15 = .ok (.if_icmp .ge 14, 3) := by decide +kernel
theorem dX2_write_18 : decode cX2_write 18 = .ok (.aload_n 0, 1) := by decide +kernel
theorem dX2_write_19 : decode cX2_write 19 = .ok (.getfield 15, 3) := by decide +kernel
theorem dX2_write_22 : decode cX2_write 22 = .ok (.iload_n 1, 1) := by decide +kernel
theorem dX2_write_23 : decode cX2_write 23 = .ok (.aload_n 0, 1) := by decide +kernel
theorem dX2_write_24 : decode cX2_write 24 = .ok (.lload_n 2, 1) := by decide +kernel
theorem dX2_write_25 : decode cX2_write 25 = .ok (.invokevirtual 37, 3) := by decide +kernel
theorem dX2_write_28 : decode cX2_write 28 = .ok (.lastore, 1) := by decide +kernel
theorem dX2_write_29 : decode cX2_write 29 = .ok (.return_, 1) := by decide +kernel
theorem dX2_narrowed_0 : decode cX2_narrowed 0 = .ok (.aload_n 0, 1) := by decide +kernel
theorem dX2_narrowed_1 : decode cX2_narrowed 1 = .ok (.getfield 9, 3) := by decide +kernel
theorem dX2_narrowed_4 : decode cX2_narrowed 4 = .ok (.tableswitch 42 0 2 #[28, 33, 38], 28) := by decide +kernel
theorem dX2_narrowed_32 : decode cX2_narrowed 32 = .ok (.lload_n 1, 1) := by decide +kernel
theorem dX2_narrowed_33 : decode cX2_narrowed 33 = .ok (.l2i, 1) := by decide +kernel
theorem dX2_narrowed_34 : decode cX2_narrowed 34 = .ok (.i2b, 1) := by decide +kernel
theorem dX2_narrowed_35 : decode cX2_narrowed 35 = .ok (.i2l, 1) := by decide +kernel
theorem dX2_narrowed_36 : decode cX2_narrowed 36 = .ok (.lreturn, 1) := by decide +kernel
theorem dX2_narrowed_37 : decode cX2_narrowed 37 = .ok (.lload_n 1, 1) := by decide +kernel
theorem dX2_narrowed_38 : decode cX2_narrowed 38 = .ok (.l2i, 1) := by decide +kernel
theorem dX2_narrowed_39 : decode cX2_narrowed 39 = .ok (.i2s, 1) := by decide +kernel
theorem dX2_narrowed_40 : decode cX2_narrowed 40 = .ok (.i2l, 1) := by decide +kernel
theorem dX2_narrowed_41 : decode cX2_narrowed 41 = .ok (.lreturn, 1) := by decide +kernel
theorem dX2_narrowed_42 : decode cX2_narrowed 42 = .ok (.lload_n 1, 1) := by decide +kernel
theorem dX2_narrowed_43 : decode cX2_narrowed 43 = .ok (.l2i, 1) := by decide +kernel
theorem dX2_narrowed_44 : decode cX2_narrowed 44 = .ok (.i2l, 1) := by decide +kernel
theorem dX2_narrowed_45 : decode cX2_narrowed 45 = .ok (.lreturn, 1) := by decide +kernel
theorem dX2_narrowed_46 : decode cX2_narrowed 46 = .ok (.lload_n 1, 1) := by decide +kernel
theorem dX2_narrowed_47 : decode cX2_narrowed 47 = .ok (.lreturn, 1) := by decide +kernel
theorem dX2_hasStretch_0 : decode cX2_hasStretch 0 = .ok (.iload_n 2, 1) := by decide +kernel
theorem dX2_hasStretch_1 : decode cX2_hasStretch 1 = .ok (.ifCond .lt 29, 3) := by decide +kernel
theorem dX2_hasStretch_4 : decode cX2_hasStretch 4 = .ok (.iload_n 2, 1) := by decide +kernel
theorem dX2_hasStretch_5 : decode cX2_hasStretch 5 = .ok (.aload_n 0, 1) := by decide +kernel
theorem dX2_hasStretch_6 : decode cX2_hasStretch 6 = .ok (.getfield 28, 3) := by decide +kernel
theorem dX2_hasStretch_9 : decode cX2_hasStretch 9 = .ok (.if_icmp .gt 21, 3) := by decide +kernel
theorem dX2_hasStretch_12 : decode cX2_hasStretch 12 = .ok (.iload_n 1, 1) := by decide +kernel
theorem dX2_hasStretch_13 : decode cX2_hasStretch 13 = .ok (.ifCond .lt 17, 3) := by decide +kernel
theorem dX2_hasStretch_16 : decode cX2_hasStretch 16 = .ok (.iload_n 1, 1) := by decide +kernel
theorem dX2_hasStretch_17 : decode cX2_hasStretch 17 = .ok (.aload_n 0, 1) := by decide +kernel
theorem dX2_hasStretch_18 : decode cX2_hasStretch 18 = .ok (.getfield 28, 3) := by decide +kernel
theorem dX2_hasStretch_21 : decode cX2_hasStretch 21 = .ok (.iload_n 2, 1) := by decide +kernel
theorem dX2_hasStretch_22 : decode cX2_hasStretch 22 = .ok (.isub, 1) := by decide +kernel
theorem dX2_hasStretch_23 : decode cX2_hasStretch 23 = .ok (.if_icmp .gt 7, 3) := by decide +kernel
theorem dX2_hasStretch_26 : decode cX2_hasStretch 26 = .ok (.iconst 1, 1) := by decide +kernel
theorem dX2_hasStretch_27 : decode cX2_hasStretch 27 = .ok (.goto 4, 3) := by decide +kernel
theorem dX2_hasStretch_30 : decode cX2_hasStretch 30 = .ok (.iconst 0, 1) := by decide +kernel
theorem dX2_hasStretch_31 : decode cX2_hasStretch 31 = .ok (.ireturn, 1) := by decide +kernel
theorem dX3_init_0 : decode cX3_init 0 = .ok (.aload_n 0, 1) := by decide +kernel
theorem dX3_init_1 : decode cX3_init 1 = .ok (.invokespecial 3, 3) := by decide +kernel
theorem dX3_init_4 : decode cX3_init 4 = .ok (.aload_n 0, 1) := by decide +kernel
theorem dX3_init_5 : decode cX3_init 5 = .ok (.iconst 2, 1) := by decide +kernel
theorem dX3_init_6 : decode cX3_init 6 = .ok (.putfield 9, 3) := by decide +kernel
theorem dX3_init_9 : decode cX3_init 9 = .ok (.return_, 1) := by decide +kernel
theorem dX3_hold_0 : decode cX3_hold 0 = .ok (.aload_n 0, 1) := by decide +kernel
theorem dX3_hold_1 : decode cX3_hold 1 = .ok (.iload_n 1, 1) := by decide +kernel
theorem dX3_hold_2 : decode cX3_hold 2 = .ok (.putfield 9, 3) := by decide +kernel
theorem dX3_hold_5 : decode cX3_hold 5 = .ok (.aload_n 0, 1) := by decide +kernel
theorem dX3_hold_6 : decode cX3_hold 6 = .ok (.iload_n 2, 1) := by decide +kernel
theorem dX3_hold_7 : decode cX3_hold 7 = .ok (.putfield 15, 3) := by decide +kernel
theorem dX3_hold_10 : decode cX3_hold 10 = .ok (.aload_n 0, 1) := by decide +kernel
theorem dX3_hold_11 : decode cX3_hold 11 = .ok (.iload_n 3, 1) := by decide +kernel
theorem dX3_hold_12 : decode cX3_hold 12 = .ok (.putfield 18, 3) := by decide +kernel
theorem dX3_hold_15 : decode cX3_hold 15 = .ok (.return_, 1) := by decide +kernel
