theorem dX7_init_0 : decode cX7_init 0 = .ok (.aload_n 0, 1) := by decide +kernel
theorem dX7_init_1 : decode cX7_init 1 = .ok (.invokespecial 1, 3) := by decide +kernel
theorem dX7_init_4 : decode cX7_init 4 = .ok (.aload_n 0, 1) := by decide +kernel
theorem dX7_init_5 : decode cX7_init 5 = .ok (.sipush 2610, 3) := by decide +kernel
theorem dX7_init_8 : decode cX7_init 8 = .ok (.newarray .int, 2) := by decide +kernel
theorem dX7_init_10 : decode cX7_init 10 = .ok (.putfield 7, 3) := by decide +kernel
theorem dX7_init_13 : decode cX7_init 13 = .ok (.aload_n 0, 1) := by decide +kernel
theorem dX7_init_14 : decode cX7_init 14 = .ok (.iconst 2, 1) := by decide +kernel
theorem dX7_init_15 : decode cX7_init 15 = .ok (.newarray .boolean, 2) := by decide +kernel
theorem dX7_init_17 : decode cX7_init 17 = .ok (.putfield 13, 3) := by decide +kernel
theorem dX7_init_20 : decode cX7_init 20 = .ok (.aload_n 0, 1) := by decide +kernel
theorem dX7_init_21 : decode cX7_init 21 = .ok (.bipush 30, 2) := by decide +kernel
theorem dX7_init_23 : decode cX7_init 23 = .ok (.newarray .char, 2) := by decide +kernel
theorem dX7_init_25 : decode cX7_init 25 = .ok (.putfield 17, 3) := by decide +kernel
theorem dX7_init_28 : decode cX7_init 28 = .ok (.aload_n 0, 1) := by decide +kernel
theorem dX7_init_29 : decode cX7_init 29 = .ok (.bipush 10, 2) := by decide +kernel
theorem dX7_init_31 : decode cX7_init 31 = .ok (.newarray .int, 2) := by decide +kernel
theorem dX7_init_33 : decode cX7_init 33 = .ok (.putfield 21, 3) := by decide +kernel
theorem dX7_init_36 : decode cX7_init 36 = .ok (.aload_n 0, 1) := by decide +kernel
theorem dX7_init_37 : decode cX7_init 37 = .ok (.bipush 10, 2) := by decide +kernel
theorem dX7_init_39 : decode cX7_init 39 = .ok (.newarray .int, 2) := by decide +kernel
theorem dX7_init_41 : decode cX7_init 41 = .ok (.putfield 24, 3) := by decide +kernel
theorem dX7_init_44 : decode cX7_init 44 = .ok (.aload_n 0, 1) := by decide +kernel
theorem dX7_init_45 : decode cX7_init 45 = .ok (.getfield 7, 3) := by decide +kernel
theorem dX7_init_48 : decode cX7_init 48 = .ok (.iconst 4, 1) := by decide +kernel
theorem dX7_init_49 : decode cX7_init 49 = .ok (.iconst 5, 1) := by decide +kernel
theorem dX7_init_50 : decode cX7_init 50 = .ok (.iastore, 1) := by decide +kernel
theorem dX7_init_51 : decode cX7_init 51 = .ok (.aload_n 0, 1) := by decide +kernel
theorem dX7_init_52 : decode cX7_init 52 = .ok (.getfield 7, 3) := by decide +kernel
theorem dX7_init_55 : decode cX7_init 55 = .ok (.iconst 5, 1) := by decide +kernel
theorem dX7_init_56 : decode cX7_init 56 = .ok (.sipush 10000, 3) := by decide +kernel
theorem dX7_init_59 : decode cX7_init 59 = .ok (.iastore, 1) := by decide +kernel
theorem dX7_init_60 : decode cX7_init 60 = .ok (.iconst 0, 1) := by decide +kernel
theorem dX7_init_61 : decode cX7_init 61 = .ok (.istore_n 1, 1) := by decide +kernel
theorem dX7_init_62 : decode cX7_init 62 = .ok (.iload_n 1, 1) := by decide +kernel
theorem dX7_init_63 : decode cX7_init 63 = .ok (.bipush 10, 2) := by decide +kernel
theorem dX7_init_65 : decode cX7_init 65 = .ok (.if_icmp .ge 29, 3) := by decide +kernel
theorem dX7_init_68 : decode cX7_init 68 = .ok (.aload_n 0, 1) := by decide +kernel
theorem dX7_init_69 : decode cX7_init 69 = .ok (.getfield 7, 3) := by decide +kernel
theorem dX7_init_72 : decode cX7_init 72 = .ok (.bipush 46, 2) := by decide +kernel
theorem dX7_init_74 : decode cX7_init 74 = .ok (.iload_n 1, 1) := by decide +kernel
theorem dX7_init_75 : decode cX7_init 75 = .ok (.iadd, 1) := by decide +kernel
theorem dX7_init_76 : decode cX7_init 76 = .ok (.iconst (-1), 1) := by decide +kernel
theorem dX7_init_77 : decode cX7_init 77 = .ok (.iastore, 1) := by decide +kernel
theorem dX7_init_78 : decode cX7_init 78 = .ok (.aload_n 0, 1) := by decide +kernel
theorem dX7_init_79 : decode cX7_init 79 = .ok (.getfield 7, 3) := by decide +kernel
theorem dX7_init_82 : decode cX7_init 82 = .ok (.bipush 56, 2) := by decide +kernel
theorem dX7_init_84 : decode cX7_init 84 = .ok (.iload_n 1, 1) := by decide +kernel
theorem dX7_init_85 : decode cX7_init 85 = .ok (.iadd, 1) := by decide +kernel
theorem dX7_init_86 : decode cX7_init 86 = .ok (.iconst (-1), 1) := by decide +kernel
theorem dX7_init_87 : decode cX7_init 87 = .ok (.iastore, 1) := by decide +kernel
theorem dX7_init_88 : decode cX7_init 88 = .ok (.iinc 1 1, 3) := by decide +kernel
theorem dX7_init_91 : decode cX7_init 91 = .ok (.goto (-29), 3) := by decide +kernel
theorem dX7_init_94 : decode cX7_init 94 = .ok (.return_, 1) := by decide +kernel
theorem dX7_thrown_0 : decode cX7_thrown 0 = .ok (.aload_n 0, 1) := by decide +kernel
theorem dX7_thrown_1 : decode cX7_thrown 1 = .ok (.getfield 27, 3) := by decide +kernel
theorem dX7_thrown_4 : decode cX7_thrown 4 = .ok (.ireturn, 1) := by decide +kernel
theorem dX7_in_0 : decode cX7_in 0 = .ok (.iload_n 0, 1) := by decide +kernel
theorem dX7_in_1 : decode cX7_in 1 = .ok (.iload_n 1, 1) := by decide +kernel
theorem dX7_in_2 : decode cX7_in 2 = .ok (.if_icmp .lt 12, 3) := by decide +kernel
theorem dX7_in_5 : decode cX7_in 5 = .ok (.iload_n 0, 1) := by decide +kernel
theorem dX7_in_6 : decode cX7_in 6 = .ok (.iload_n 2, 1) := by decide +kernel
theorem dX7_in_7 : decode cX7_in 7 = .ok (.if_icmp .gt 7, 3) := by decide +kernel
theorem dX7_in_10 : decode cX7_in 10 = .ok (.iconst 1, 1) := by decide +kernel
theorem dX7_in_11 : decode cX7_in 11 = .ok (.goto 4, 3) := by decide +kernel
theorem dX7_in_14 : decode cX7_in 14 = .ok (.iconst 0, 1) := by decide +kernel
theorem dX7_in_15 : decode cX7_in 15 = .ok (.ireturn, 1) := by decide +kernel
theorem dX7_goes_0 : decode cX7_goes 0 = .ok (.aload_n 0, 1) := by decide +kernel
theorem dX7_goes_1 : decode cX7_goes 1 = .ok (.iload_n 1, 1) := by decide +kernel
theorem dX7_goes_2 : decode cX7_goes 2 = .ok (.ifCond .ne 7, 3) := by decide +kernel
theorem dX7_goes_5 : decode cX7_goes 5 = .ok (.iconst 1, 1) := by decide +kernel
theorem dX7_goes_6 : decode cX7_goes 6 = .ok (.goto 20, 3) := by decide +kernel
theorem dX7_goes_9 : decode cX7_goes 9 = .ok (.iload_n 2, 1) := by decide +kernel
theorem dX7_goes_10 : decode cX7_goes 10 = .ok (.ifCond .ne 7, 3) := by decide +kernel
theorem dX7_goes_13 : decode cX7_goes 13 = .ok (.iconst 2, 1) := by decide +kernel
theorem dX7_goes_14 : decode cX7_goes 14 = .ok (.goto 12, 3) := by decide +kernel
theorem dX7_goes_17 : decode cX7_goes 17 = .ok (.iload_n 3, 1) := by decide +kernel
theorem dX7_goes_18 : decode cX7_goes 18 = .ok (.ifCond .ne 7, 3) := by decide +kernel
theorem dX7_goes_21 : decode cX7_goes 21 = .ok (.iconst 3, 1) := by decide +kernel
theorem dX7_goes_22 : decode cX7_goes 22 = .ok (.goto 4, 3) := by decide +kernel
theorem dX7_goes_25 : decode cX7_goes 25 = .ok (.iconst 0, 1) := by decide +kernel
theorem dX7_goes_26 : decode cX7_goes 26 = .ok (.putfield 27, 3) := by decide +kernel
theorem dX7_goes_29 : decode cX7_goes 29 = .ok (.aload_n 0, 1) := by decide +kernel
theorem dX7_goes_30 : decode cX7_goes 30 = .ok (.getfield 27, 3) := by decide +kernel
theorem dX7_goes_33 : decode cX7_goes 33 = .ok (.ifCond .ne 7, 3) := by decide +kernel
theorem dX7_goes_36 : decode cX7_goes 36 = .ok (.iconst 1, 1) := by decide +kernel
theorem dX7_goes_37 : decode cX7_goes 37 = .ok (.goto 4, 3) := by decide +kernel
theorem dX7_goes_40 : decode cX7_goes 40 = .ok (.iconst 0, 1) := by decide +kernel
theorem dX7_goes_41 : decode cX7_goes 41 = .ok (.ireturn, 1) := by decide +kernel
theorem dX7_copies_0 : decode cX7_copies 0 = .ok (.iconst 0, 1) := by decide +kernel
theorem dX7_copies_1 : decode cX7_copies 1 = .ok (.istore_n 3, 1) := by decide +kernel
theorem dX7_copies_2 : decode cX7_copies 2 = .ok (.iload_n 3, 1) := by decide +kernel
theorem dX7_copies_3 : decode cX7_copies 3 = .ok (.sipush 290, 3) := by decide +kernel
theorem dX7_copies_6 : decode cX7_copies 6 = .ok (.if_icmp .ge 33, 3) := by decide +kernel
theorem dX7_copies_9 : decode cX7_copies 9 = .ok (.aload_n 0, 1) := by decide +kernel
theorem dX7_copies_10 : decode cX7_copies 10 = .ok (.getfield 7, 3) := by decide +kernel
theorem dX7_copies_13 : decode cX7_copies 13 = .ok (.sipush 290, 3) := by decide +kernel
theorem dX7_copies_16 : decode cX7_copies 16 = .ok (.iload_n 2, 1) := by decide +kernel
theorem dX7_copies_17 : decode cX7_copies 17 = .ok (.imul, 1) := by decide +kernel
theorem dX7_copies_18 : decode cX7_copies 18 = .ok (.iload_n 3, 1) := by decide +kernel
theorem dX7_copies_19 : decode cX7_copies 19 = .ok (.iadd, 1) := by decide +kernel
theorem dX7_copies_20 : decode cX7_copies 20 = .ok (.aload_n 0, 1) := by decide +kernel
theorem dX7_copies_21 : decode cX7_copies 21 = .ok (.getfield 7, 3) := by decide +kernel
theorem dX7_copies_24 : decode cX7_copies 24 = .ok (.sipush 290, 3) := by decide +kernel
theorem dX7_copies_27 : decode cX7_copies 27 = .ok (.iload_n 1, 1) := by decide +kernel
theorem dX7_copies_28 : decode cX7_copies 28 = .ok (.imul, 1) := by decide +kernel
theorem dX7_copies_29 : decode cX7_copies 29 = .ok (.iload_n 3, 1) := by decide +kernel
theorem dX7_copies_30 : decode cX7_copies 30 = .ok (.iadd, 1) := by decide +kernel
theorem dX7_copies_31 : decode cX7_copies 31 = .ok (.iaload, 1) := by decide +kernel
theorem dX7_copies_32 : decode cX7_copies 32 = .ok (.iastore, 1) := by decide +kernel
theorem dX7_copies_33 : decode cX7_copies 33 = .ok (.iinc 3 1, 3) := by decide +kernel
theorem dX7_copies_36 : decode cX7_copies 36 = .ok (.goto (-34), 3) := by decide +kernel
theorem dX7_copies_39 : decode cX7_copies 39 = .ok (.return_, 1) := by decide +kernel
set_option maxRecDepth 20000 in
theorem ggX7_saves_X7_copies : GoodIn wsX7_saves wsX7_copies := goodIn_r _ [6, 7, 8, 9, 10, 11, 12, 13, 14, 15, 16, 17] (by decide +kernel) (by decide +kernel)
set_option maxRecDepth 20000 in
theorem gX7_saves_X7_copies : GoodIn wsX7_saves (wsV RX7 34 RX7 yX7_copies wsX7_copies) := goodIn_app (goodIn_of _ (by decide +kernel)) ggX7_saves_X7_copies
theorem dX7_saves_0 : decode cX7_saves 0 = .ok (.aload_n 0, 1) := by decide +kernel
theorem dX7_saves_1 : decode cX7_saves 1 = .ok (.getfield 31, 3) := by decide +kernel
theorem dX7_saves_4 : decode cX7_saves 4 = .ok (.bipush 6, 2) := by decide +kernel
theorem dX7_saves_6 : decode cX7_saves 6 = .ok (.if_icmp .ne 35, 3) := by decide +kernel
theorem dX7_saves_9 : decode cX7_saves 9 = .ok (.iconst 1, 1) := by decide +kernel
theorem dX7_saves_10 : decode cX7_saves 10 = .ok (.istore_n 1, 1) := by decide +kernel
theorem dX7_saves_11 : decode cX7_saves 11 = .ok (.iload_n 1, 1) := by decide +kernel
theorem dX7_saves_12 : decode cX7_saves 12 = .ok (.bipush 6, 2) := by decide +kernel
theorem dX7_saves_14 : decode cX7_saves 14 = .ok (.if_icmp .ge 17, 3) := by decide +kernel
theorem dX7_saves_17 : decode cX7_saves 17 = .ok (.aload_n 0, 1) := by decide +kernel
theorem dX7_saves_18 : decode cX7_saves 18 = .ok (.iload_n 1, 1) := by decide +kernel
theorem dX7_saves_19 : decode cX7_saves 19 = .ok (.iconst 1, 1) := by decide +kernel
theorem dX7_saves_20 : decode cX7_saves 20 = .ok (.iadd, 1) := by decide +kernel
theorem dX7_saves_21 : decode cX7_saves 21 = .ok (.iload_n 1, 1) := by decide +kernel
theorem dX7_saves_22 : decode cX7_saves 22 = .ok (.invokevirtual 34, 3) := by decide +kernel
theorem dX7_saves_25 : decode cX7_saves 25 = .ok (.iinc 1 1, 3) := by decide +kernel
theorem dX7_saves_28 : decode cX7_saves 28 = .ok (.goto (-17), 3) := by decide +kernel
theorem dX7_saves_31 : decode cX7_saves 31 = .ok (.aload_n 0, 1) := by decide +kernel
theorem dX7_saves_32 : decode cX7_saves 32 = .ok (.dup, 1) := by decide +kernel
theorem dX7_saves_33 : decode cX7_saves 33 = .ok (.getfield 31, 3) := by decide +kernel
theorem dX7_saves_36 : decode cX7_saves 36 = .ok (.iconst 1, 1) := by decide +kernel
theorem dX7_saves_37 : decode cX7_saves 37 = .ok (.isub, 1) := by decide +kernel
theorem dX7_saves_38 : decode cX7_saves 38 = .ok (.putfield 31, 3) := by decide +kernel
theorem dX7_saves_41 : decode cX7_saves 41 = .ok (.aload_n 0, 1) := by decide +kernel
theorem dX7_saves_42 : decode cX7_saves 42 = .ok (.dup, 1) := by decide +kernel
theorem dX7_saves_43 : decode cX7_saves 43 = .ok (.getfield 31, 3) := by decide +kernel
theorem dX7_saves_46 : decode cX7_saves 46 = .ok (.iconst 1, 1) := by decide +kernel
theorem dX7_saves_47 : decode cX7_saves 47 = .ok (.iadd, 1) := by decide +kernel
theorem dX7_saves_48 : decode cX7_saves 48 = .ok (.putfield 31, 3) := by decide +kernel
theorem dX7_saves_51 : decode cX7_saves 51 = .ok (.aload_n 0, 1) := by decide +kernel
theorem dX7_saves_52 : decode cX7_saves 52 = .ok (.iconst 0, 1) := by decide +kernel
theorem dX7_saves_53 : decode cX7_saves 53 = .ok (.aload_n 0, 1) := by decide +kernel
theorem dX7_saves_54 : decode cX7_saves 54 = .ok (.getfield 31, 3) := by decide +kernel
theorem dX7_saves_57 : decode cX7_saves 57 = .ok (.invokevirtual 34, 3) := by decide +kernel
theorem dX7_saves_60 : decode cX7_saves 60 = .ok (.return_, 1) := by decide +kernel
set_option maxRecDepth 20000 in
theorem ggX7_isHorse_X7_in : GoodIn wsX7_isHorse wsX7_in := goodIn_r _ [5] (by decide +kernel) (by decide +kernel)
set_option maxRecDepth 20000 in
theorem gX7_isHorse_X7_in : GoodIn wsX7_isHorse (va_wsS RX7 38 yX7_in wsX7_in) := goodIn_app (goodIn_of _ (by decide +kernel)) ggX7_isHorse_X7_in
theorem dX7_isHorse_0 : decode cX7_isHorse 0 = .ok (.iload_n 1, 1) := by decide +kernel
theorem dX7_isHorse_1 : decode cX7_isHorse 1 = .ok (.iconst 0, 1) := by decide +kernel
theorem dX7_isHorse_2 : decode cX7_isHorse 2 = .ok (.aload_n 0, 1) := by decide +kernel
theorem dX7_isHorse_3 : decode cX7_isHorse 3 = .ok (.getfield 7, 3) := by decide +kernel
theorem dX7_isHorse_6 : decode cX7_isHorse 6 = .ok (.iconst 0, 1) := by decide +kernel
theorem dX7_isHorse_7 : decode cX7_isHorse 7 = .ok (.iaload, 1) := by decide +kernel
theorem dX7_isHorse_8 : decode cX7_isHorse 8 = .ok (.iconst 1, 1) := by decide +kernel
theorem dX7_isHorse_9 : decode cX7_isHorse 9 = .ok (.isub, 1) := by decide +kernel
theorem dX7_isHorse_10 : decode cX7_isHorse 10 = .ok (.invokestatic 38, 3) := by decide +kernel
theorem dX7_isHorse_13 : decode cX7_isHorse 13 = .ok (.ireturn, 1) := by decide +kernel
theorem dX7_isOpen_0 : decode cX7_isOpen 0 = .ok (.aload_n 0, 1) := by decide +kernel
theorem dX7_isOpen_1 : decode cX7_isOpen 1 = .ok (.getfield 7, 3) := by decide +kernel
theorem dX7_isOpen_4 : decode cX7_isOpen 4 = .ok (.iconst 3, 1) := by decide +kernel
theorem dX7_isOpen_5 : decode cX7_isOpen 5 = .ok (.iaload, 1) := by decide +kernel
theorem dX7_isOpen_6 : decode cX7_isOpen 6 = .ok (.ifCond .ne 7, 3) := by decide +kernel
theorem dX7_isOpen_9 : decode cX7_isOpen 9 = .ok (.iconst 1, 1) := by decide +kernel
theorem dX7_isOpen_10 : decode cX7_isOpen 10 = .ok (.goto 4, 3) := by decide +kernel
theorem dX7_isOpen_13 : decode cX7_isOpen 13 = .ok (.iconst 0, 1) := by decide +kernel
theorem dX7_isOpen_14 : decode cX7_isOpen 14 = .ok (.ireturn, 1) := by decide +kernel
set_option maxRecDepth 20000 in
theorem ggX7_runs_X7_isHorse : GoodIn wsX7_runs wsX7_isHorse := goodIn_r _ [6, 1, 7, 8, 5, 9, 10, 11, 12, 13, 14, 15, 16, 17, 18, 19] (by decide +kernel) (by decide +kernel)
set_option maxRecDepth 20000 in
theorem gX7_runs_X7_isHorse : GoodIn wsX7_runs (wsV RX7 42 RX7 yX7_isHorse wsX7_isHorse) := goodIn_app (goodIn_of _ (by decide +kernel)) ggX7_runs_X7_isHorse
theorem dX7_runs_0 : decode cX7_runs 0 = .ok (.aload_n 0, 1) := by decide +kernel
theorem dX7_runs_1 : decode cX7_runs 1 = .ok (.iload_n 1, 1) := by decide +kernel
theorem dX7_runs_2 : decode cX7_runs 2 = .ok (.invokevirtual 42, 3) := by decide +kernel
theorem dX7_runs_5 : decode cX7_runs 5 = .ok (.ifCond .eq 20, 3) := by decide +kernel
theorem dX7_runs_8 : decode cX7_runs 8 = .ok (.aload_n 0, 1) := by decide +kernel
theorem dX7_runs_9 : decode cX7_runs 9 = .ok (.getfield 7, 3) := by decide +kernel
theorem dX7_runs_12 : decode cX7_runs 12 = .ok (.bipush 26, 2) := by decide +kernel
theorem dX7_runs_14 : decode cX7_runs 14 = .ok (.iload_n 1, 1) := by decide +kernel
theorem dX7_runs_15 : decode cX7_runs 15 = .ok (.iadd, 1) := by decide +kernel
theorem dX7_runs_16 : decode cX7_runs 16 = .ok (.iaload, 1) := by decide +kernel
theorem dX7_runs_17 : decode cX7_runs 17 = .ok (.iconst 1, 1) := by decide +kernel
theorem dX7_runs_18 : decode cX7_runs 18 = .ok (.if_icmp .ne 7, 3) := by decide +kernel
theorem dX7_runs_21 : decode cX7_runs 21 = .ok (.iconst 1, 1) := by decide +kernel
theorem dX7_runs_22 : decode cX7_runs 22 = .ok (.goto 4, 3) := by decide +kernel
theorem dX7_runs_25 : decode cX7_runs 25 = .ok (.iconst 0, 1) := by decide +kernel
theorem dX7_runs_26 : decode cX7_runs 26 = .ok (.ireturn, 1) := by decide +kernel
set_option maxRecDepth 20000 in
theorem ggX7_isPrice_X7_in : GoodIn wsX7_isPrice wsX7_in := goodIn_r _ [4] (by decide +kernel) (by decide +kernel)
set_option maxRecDepth 20000 in
theorem gX7_isPrice_X7_in : GoodIn wsX7_isPrice (va_wsS RX7 38 yX7_in wsX7_in) := goodIn_app (goodIn_of _ (by decide +kernel)) ggX7_isPrice_X7_in
theorem dX7_isPrice_0 : decode cX7_isPrice 0 = .ok (.iload_n 0, 1) := by decide +kernel
theorem dX7_isPrice_1 : decode cX7_isPrice 1 = .ok (.iconst 1, 1) := by decide +kernel
theorem dX7_isPrice_2 : decode cX7_isPrice 2 = .ok (.bipush 100, 2) := by decide +kernel
theorem dX7_isPrice_4 : decode cX7_isPrice 4 = .ok (.invokestatic 38, 3) := by decide +kernel
theorem dX7_isPrice_7 : decode cX7_isPrice 7 = .ok (.ifCond .eq 17, 3) := by decide +kernel
theorem dX7_isPrice_10 : decode cX7_isPrice 10 = .ok (.iload_n 1, 1) := by decide +kernel
theorem dX7_isPrice_11 : decode cX7_isPrice 11 = .ok (.iconst 1, 1) := by decide +kernel
theorem dX7_isPrice_12 : decode cX7_isPrice 12 = .ok (.bipush 20, 2) := by decide +kernel
theorem dX7_isPrice_14 : decode cX7_isPrice 14 = .ok (.invokestatic 38, 3) := by decide +kernel
theorem dX7_isPrice_17 : decode cX7_isPrice 17 = .ok (.ifCond .eq 7, 3) := by decide +kernel
theorem dX7_isPrice_20 : decode cX7_isPrice 20 = .ok (.iconst 1, 1) := by decide +kernel
theorem dX7_isPrice_21 : decode cX7_isPrice 21 = .ok (.goto 4, 3) := by decide +kernel
theorem dX7_isPrice_24 : decode cX7_isPrice 24 = .ok (.iconst 0, 1) := by decide +kernel
theorem dX7_isPrice_25 : decode cX7_isPrice 25 = .ok (.ireturn, 1) := by decide +kernel
theorem dX7_of_0 : decode cX7_of 0 = .ok (.bipush 66, 2) := by decide +kernel
theorem dX7_of_2 : decode cX7_of 2 = .ok (.bipush 8, 2) := by decide +kernel
theorem dX7_of_4 : decode cX7_of 4 = .ok (.iload_n 0, 1) := by decide +kernel
theorem dX7_of_5 : decode cX7_of 5 = .ok (.imul, 1) := by decide +kernel
theorem dX7_of_6 : decode cX7_of 6 = .ok (.iadd, 1) := by decide +kernel
theorem dX7_of_7 : decode cX7_of 7 = .ok (.iload_n 1, 1) := by decide +kernel
theorem dX7_of_8 : decode cX7_of 8 = .ok (.iadd, 1) := by decide +kernel
theorem dX7_of_9 : decode cX7_of 9 = .ok (.ireturn, 1) := by decide +kernel
theorem dX7_off_0 : decode cX7_off 0 = .ok (.sipush 258, 3) := by decide +kernel
theorem dX7_off_3 : decode cX7_off 3 = .ok (.iconst 5, 1) := by decide +kernel
theorem dX7_off_4 : decode cX7_off 4 = .ok (.iload_n 0, 1) := by decide +kernel
theorem dX7_off_5 : decode cX7_off 5 = .ok (.imul, 1) := by decide +kernel
theorem dX7_off_6 : decode cX7_off 6 = .ok (.iadd, 1) := by decide +kernel
theorem dX7_off_7 : decode cX7_off 7 = .ok (.iload_n 1, 1) := by decide +kernel
theorem dX7_off_8 : decode cX7_off 8 = .ok (.iadd, 1) := by decide +kernel
theorem dX7_off_9 : decode cX7_off 9 = .ok (.ireturn, 1) := by decide +kernel
theorem dX7_field_0 : decode cX7_field 0 = .ok (.iconst 0, 1) := by decide +kernel
theorem dX7_field_1 : decode cX7_field 1 = .ok (.istore_n 1, 1) := by decide +kernel
theorem dX7_field_2 : decode cX7_field 2 = .ok (.iconst 0, 1) := by decide +kernel
theorem dX7_field_3 : decode cX7_field 3 = .ok (.istore_n 2, 1) := by decide +kernel
theorem dX7_field_4 : decode cX7_field 4 = .ok (.iload_n 2, 1) := by decide +kernel
theorem dX7_field_5 : decode cX7_field 5 = .ok (.aload_n 0, 1) := by decide +kernel
theorem dX7_field_6 : decode cX7_field 6 = .ok (.getfield 7, 3) := by decide +kernel
theorem dX7_field_9 : decode cX7_field 9 = .ok (.iconst 0, 1) := by decide +kernel
theorem dX7_field_10 : decode cX7_field 10 = .ok (.iaload, 1) := by decide +kernel
theorem dX7_field_11 : decode cX7_field 11 = .ok (.if_icmp .ge 21, 3) := by decide +kernel
theorem dX7_field_14 : decode cX7_field 14 = .ok (.iload_n 1, 1) := by decide +kernel
theorem dX7_field_15 : decode cX7_field 15 = .ok (.aload_n 0, 1) := by decide +kernel
theorem dX7_field_16 : decode cX7_field 16 = .ok (.getfield 7, 3) := by decide +kernel
theorem dX7_field_19 : decode cX7_field 19 = .ok (.bipush 26, 2) := by decide +kernel
theorem dX7_field_21 : decode cX7_field 21 = .ok (.iload_n 2, 1) := by decide +kernel
theorem dX7_field_22 : decode cX7_field 22 = .ok (.iadd, 1) := by decide +kernel
theorem dX7_field_23 : decode cX7_field 23 = .ok (.iaload, 1) := by decide +kernel
theorem dX7_field_24 : decode cX7_field 24 = .ok (.iadd, 1) := by decide +kernel
theorem dX7_field_25 : decode cX7_field 25 = .ok (.istore_n 1, 1) := by decide +kernel
theorem dX7_field_26 : decode cX7_field 26 = .ok (.iinc 2 1, 3) := by decide +kernel
theorem dX7_field_29 : decode cX7_field 29 = .ok (.goto (-25), 3) := by decide +kernel
theorem dX7_field_32 : decode cX7_field 32 = .ok (.iload_n 1, 1) := by decide +kernel
theorem dX7_field_33 : decode cX7_field 33 = .ok (.ireturn, 1) := by decide +kernel
set_option maxRecDepth 20000 in
theorem ggX7_places_X7_field : GoodIn wsX7_places wsX7_field := goodIn_r _ [5, 6, 7, 8, 9, 10, 11, 12, 13, 14, 15, 16] (by decide +kernel) (by decide +kernel)
set_option maxRecDepth 20000 in
theorem gX7_places_X7_field : GoodIn wsX7_places (wsV RX7 46 RX7 yX7_field wsX7_field) := goodIn_app (goodIn_of _ (by decide +kernel)) ggX7_places_X7_field
theorem dX7_places_0 : decode cX7_places 0 = .ok (.aload_n 0, 1) := by decide +kernel
theorem dX7_places_1 : decode cX7_places 1 = .ok (.invokevirtual 46, 3) := by decide +kernel
theorem dX7_places_4 : decode cX7_places 4 = .ok (.istore_n 1, 1) := by decide +kernel
theorem dX7_places_5 : decode cX7_places 5 = .ok (.iload_n 1, 1) := by decide +kernel
theorem dX7_places_6 : decode cX7_places 6 = .ok (.iconst 5, 1) := by decide +kernel
theorem dX7_places_7 : decode cX7_places 7 = .ok (.if_icmp .ge 7, 3) := by decide +kernel
theorem dX7_places_10 : decode cX7_places 10 = .ok (.iconst 0, 1) := by decide +kernel
theorem dX7_places_11 : decode cX7_places 11 = .ok (.goto 14, 3) := by decide +kernel
theorem dX7_places_14 : decode cX7_places 14 = .ok (.iload_n 1, 1) := by decide +kernel
theorem dX7_places_15 : decode cX7_places 15 = .ok (.bipush 8, 2) := by decide +kernel
theorem dX7_places_17 : decode cX7_places 17 = .ok (.if_icmp .ge 7, 3) := by decide +kernel
theorem dX7_places_20 : decode cX7_places 20 = .ok (.iconst 2, 1) := by decide +kernel
theorem dX7_places_21 : decode cX7_places 21 = .ok (.goto 4, 3) := by decide +kernel
theorem dX7_places_24 : decode cX7_places 24 = .ok (.iconst 3, 1) := by decide +kernel
theorem dX7_places_25 : decode cX7_places 25 = .ok (.ireturn, 1) := by decide +kernel
theorem dX7_won_0 : decode cX7_won 0 = .ok (.iload_n 1, 1) := by decide +kernel
theorem dX7_won_1 : decode cX7_won 1 = .ok (.iload_n 1, 1) := by decide +kernel
theorem dX7_won_2 : decode cX7_won 2 = .ok (.iload_n 2, 1) := by decide +kernel
theorem dX7_won_3 : decode cX7_won 3 = .ok (.imul, 1) := by decide +kernel
theorem dX7_won_4 : decode cX7_won 4 = .ok (.iload_n 3, 1) := by decide +kernel
theorem dX7_won_5 : decode cX7_won 5 = .ok (.idiv, 1) := by decide +kernel
theorem dX7_won_6 : decode cX7_won 6 = .ok (.bipush 100, 2) := by decide +kernel
theorem dX7_won_8 : decode cX7_won 8 = .ok (.iload 4, 2) := by decide +kernel
theorem dX7_won_10 : decode cX7_won 10 = .ok (.isub, 1) := by decide +kernel
theorem dX7_won_11 : decode cX7_won 11 = .ok (.imul, 1) := by decide +kernel
theorem dX7_won_12 : decode cX7_won 12 = .ok (.bipush 100, 2) := by decide +kernel
theorem dX7_won_14 : decode cX7_won 14 = .ok (.idiv, 1) := by decide +kernel
theorem dX7_won_15 : decode cX7_won 15 = .ok (.iadd, 1) := by decide +kernel
theorem dX7_won_16 : decode cX7_won 16 = .ok (.ireturn, 1) := by decide +kernel
set_option maxRecDepth 20000 in
theorem ggX7_forWin_X7_won : GoodIn wsX7_forWin wsX7_won := goodIn_r _ [7] (by decide +kernel) (by decide +kernel)
set_option maxRecDepth 20000 in
theorem gX7_forWin_X7_won : GoodIn wsX7_forWin (wsV RX7 50 RX7 yX7_won wsX7_won) := goodIn_app (goodIn_of _ (by decide +kernel)) ggX7_forWin_X7_won
theorem dX7_forWin_0 : decode cX7_forWin 0 = .ok (.aload_n 0, 1) := by decide +kernel
theorem dX7_forWin_1 : decode cX7_forWin 1 = .ok (.getfield 21, 3) := by decide +kernel
theorem dX7_forWin_4 : decode cX7_forWin 4 = .ok (.iload_n 1, 1) := by decide +kernel
theorem dX7_forWin_5 : decode cX7_forWin 5 = .ok (.iaload, 1) := by decide +kernel
theorem dX7_forWin_6 : decode cX7_forWin 6 = .ok (.iconst 1, 1) := by decide +kernel
theorem dX7_forWin_7 : decode cX7_forWin 7 = .ok (.if_icmp .ne 23, 3) := by decide +kernel
theorem dX7_forWin_10 : decode cX7_forWin 10 = .ok (.aload_n 0, 1) := by decide +kernel
theorem dX7_forWin_11 : decode cX7_forWin 11 = .ok (.iload_n 2, 1) := by decide +kernel
theorem dX7_forWin_12 : decode cX7_forWin 12 = .ok (.aload_n 0, 1) := by decide +kernel
theorem dX7_forWin_13 : decode cX7_forWin 13 = .ok (.getfield 24, 3) := by decide +kernel
theorem dX7_forWin_16 : decode cX7_forWin 16 = .ok (.iload_n 1, 1) := by decide +kernel
theorem dX7_forWin_17 : decode cX7_forWin 17 = .ok (.iaload, 1) := by decide +kernel
theorem dX7_forWin_18 : decode cX7_forWin 18 = .ok (.idiv, 1) := by decide +kernel
theorem dX7_forWin_19 : decode cX7_forWin 19 = .ok (.iload_n 3, 1) := by decide +kernel
theorem dX7_forWin_20 : decode cX7_forWin 20 = .ok (.iload 4, 2) := by decide +kernel
theorem dX7_forWin_22 : decode cX7_forWin 22 = .ok (.iload 5, 2) := by decide +kernel
theorem dX7_forWin_24 : decode cX7_forWin 24 = .ok (.invokevirtual 50, 3) := by decide +kernel
theorem dX7_forWin_27 : decode cX7_forWin 27 = .ok (.goto 4, 3) := by decide +kernel
theorem dX7_forWin_30 : decode cX7_forWin 30 = .ok (.iconst 0, 1) := by decide +kernel
theorem dX7_forWin_31 : decode cX7_forWin 31 = .ok (.ireturn, 1) := by decide +kernel
set_option maxRecDepth 20000 in
theorem ggX7_forPlace_X7_of : GoodIn wsX7_forPlace wsX7_of := goodIn_r _ [7] (by decide +kernel) (by decide +kernel)
set_option maxRecDepth 20000 in
theorem gX7_forPlace_X7_of : GoodIn wsX7_forPlace (va_wsS RX7 54 yX7_of wsX7_of) := goodIn_app (goodIn_of _ (by decide +kernel)) ggX7_forPlace_X7_of
set_option maxRecDepth 20000 in
theorem ggX7_forPlace_X7_places : GoodIn wsX7_forPlace wsX7_places := goodIn_r _ [11, 12, 13, 14, 6, 15, 1, 20, 21, 22, 23, 24, 25, 26, 27, 28, 29] (by decide +kernel) (by decide +kernel)
set_option maxRecDepth 20000 in
theorem gX7_forPlace_X7_places : GoodIn wsX7_forPlace (wsV RX7 58 RX7 yX7_places wsX7_places) := goodIn_app (goodIn_of _ (by decide +kernel)) ggX7_forPlace_X7_places
set_option maxRecDepth 20000 in
theorem ggX7_forPlace_X7_won : GoodIn wsX7_forPlace wsX7_won := goodIn_r _ [19] (by decide +kernel) (by decide +kernel)
set_option maxRecDepth 20000 in
theorem gX7_forPlace_X7_won : GoodIn wsX7_forPlace (wsV RX7 50 RX7 yX7_won wsX7_won) := goodIn_app (goodIn_of _ (by decide +kernel)) ggX7_forPlace_X7_won
theorem dX7_forPlace_0 : decode cX7_forPlace 0 = .ok (.aload_n 0, 1) := by decide +kernel
theorem dX7_forPlace_1 : decode cX7_forPlace 1 = .ok (.getfield 7, 3) := by decide +kernel
theorem dX7_forPlace_4 : decode cX7_forPlace 4 = .ok (.iload_n 1, 1) := by decide +kernel
theorem dX7_forPlace_5 : decode cX7_forPlace 5 = .ok (.iconst 0, 1) := by decide +kernel
theorem dX7_forPlace_6 : decode cX7_forPlace 6 = .ok (.invokestatic 54, 3) := by decide +kernel
theorem dX7_forPlace_9 : decode cX7_forPlace 9 = .ok (.iaload, 1) := by decide +kernel
theorem dX7_forPlace_10 : decode cX7_forPlace 10 = .ok (.istore_n 2, 1) := by decide +kernel
theorem dX7_forPlace_11 : decode cX7_forPlace 11 = .ok (.aload_n 0, 1) := by decide +kernel
theorem dX7_forPlace_12 : decode cX7_forPlace 12 = .ok (.invokevirtual 58, 3) := by decide +kernel
theorem dX7_forPlace_15 : decode cX7_forPlace 15 = .ok (.istore_n 3, 1) := by decide +kernel
theorem dX7_forPlace_16 : decode cX7_forPlace 16 = .ok (.iload_n 3, 1) := by decide +kernel
theorem dX7_forPlace_17 : decode cX7_forPlace 17 = .ok (.ifCond .ne 14, 3) := by decide +kernel
theorem dX7_forPlace_20 : decode cX7_forPlace 20 = .ok (.aload_n 0, 1) := by decide +kernel
theorem dX7_forPlace_21 : decode cX7_forPlace 21 = .ok (.getfield 7, 3) := by decide +kernel
theorem dX7_forPlace_24 : decode cX7_forPlace 24 = .ok (.iload_n 1, 1) := by decide +kernel
theorem dX7_forPlace_25 : decode cX7_forPlace 25 = .ok (.iconst 1, 1) := by decide +kernel
theorem dX7_forPlace_26 : decode cX7_forPlace 26 = .ok (.invokestatic 54, 3) := by decide +kernel
theorem dX7_forPlace_29 : decode cX7_forPlace 29 = .ok (.iaload, 1) := by decide +kernel
theorem dX7_forPlace_30 : decode cX7_forPlace 30 = .ok (.ireturn, 1) := by decide +kernel
theorem dX7_forPlace_31 : decode cX7_forPlace 31 = .ok (.aload_n 0, 1) := by decide +kernel
theorem dX7_forPlace_32 : decode cX7_forPlace 32 = .ok (.getfield 21, 3) := by decide +kernel
theorem dX7_forPlace_35 : decode cX7_forPlace 35 = .ok (.iload_n 2, 1) := by decide +kernel
theorem dX7_forPlace_36 : decode cX7_forPlace 36 = .ok (.iaload, 1) := by decide +kernel
theorem dX7_forPlace_37 : decode cX7_forPlace 37 = .ok (.ifCond .lt 13, 3) := by decide +kernel
theorem dX7_forPlace_40 : decode cX7_forPlace 40 = .ok (.aload_n 0, 1) := by decide +kernel
theorem dX7_forPlace_41 : decode cX7_forPlace 41 = .ok (.getfield 21, 3) := by decide +kernel
theorem dX7_forPlace_44 : decode cX7_forPlace 44 = .ok (.iload_n 2, 1) := by decide +kernel
theorem dX7_forPlace_45 : decode cX7_forPlace 45 = .ok (.iaload, 1) := by decide +kernel
theorem dX7_forPlace_46 : decode cX7_forPlace 46 = .ok (.iload_n 3, 1) := by decide +kernel
theorem dX7_forPlace_47 : decode cX7_forPlace 47 = .ok (.if_icmp .le 5, 3) := by decide +kernel
theorem dX7_forPlace_50 : decode cX7_forPlace 50 = .ok (.iconst 0, 1) := by decide +kernel
theorem dX7_forPlace_51 : decode cX7_forPlace 51 = .ok (.ireturn, 1) := by decide +kernel
theorem dX7_forPlace_52 : decode cX7_forPlace 52 = .ok (.iload_n 3, 1) := by decide +kernel
theorem dX7_forPlace_53 : decode cX7_forPlace 53 = .ok (.aload_n 0, 1) := by decide +kernel
theorem dX7_forPlace_54 : decode cX7_forPlace 54 = .ok (.getfield 21, 3) := by decide +kernel
theorem dX7_forPlace_57 : decode cX7_forPlace 57 = .ok (.iload_n 2, 1) := by decide +kernel
theorem dX7_forPlace_58 : decode cX7_forPlace 58 = .ok (.iaload, 1) := by decide +kernel
theorem dX7_forPlace_59 : decode cX7_forPlace 59 = .ok (.isub, 1) := by decide +kernel
theorem dX7_forPlace_60 : decode cX7_forPlace 60 = .ok (.iconst 1, 1) := by decide +kernel
theorem dX7_forPlace_61 : decode cX7_forPlace 61 = .ok (.iadd, 1) := by decide +kernel
theorem dX7_forPlace_62 : decode cX7_forPlace 62 = .ok (.istore 4, 2) := by decide +kernel
theorem dX7_forPlace_64 : decode cX7_forPlace 64 = .ok (.iload 4, 2) := by decide +kernel
theorem dX7_forPlace_66 : decode cX7_forPlace 66 = .ok (.aload_n 0, 1) := by decide +kernel
theorem dX7_forPlace_67 : decode cX7_forPlace 67 = .ok (.getfield 24, 3) := by decide +kernel
theorem dX7_forPlace_70 : decode cX7_forPlace 70 = .ok (.iload_n 2, 1) := by decide +kernel
theorem dX7_forPlace_71 : decode cX7_forPlace 71 = .ok (.iaload, 1) := by decide +kernel
theorem dX7_forPlace_72 : decode cX7_forPlace 72 = .ok (.if_icmp .ge 8, 3) := by decide +kernel
theorem dX7_forPlace_75 : decode cX7_forPlace 75 = .ok (.iload 4, 2) := by decide +kernel
theorem dX7_forPlace_77 : decode cX7_forPlace 77 = .ok (.goto 9, 3) := by decide +kernel
theorem dX7_forPlace_80 : decode cX7_forPlace 80 = .ok (.aload_n 0, 1) := by decide +kernel
theorem dX7_forPlace_81 : decode cX7_forPlace 81 = .ok (.getfield 24, 3) := by decide +kernel
theorem dX7_forPlace_84 : decode cX7_forPlace 84 = .ok (.iload_n 2, 1) := by decide +kernel
theorem dX7_forPlace_85 : decode cX7_forPlace 85 = .ok (.iaload, 1) := by decide +kernel
theorem dX7_forPlace_86 : decode cX7_forPlace 86 = .ok (.istore 5, 2) := by decide +kernel
theorem dX7_forPlace_88 : decode cX7_forPlace 88 = .ok (.aload_n 0, 1) := by decide +kernel
theorem dX7_forPlace_89 : decode cX7_forPlace 89 = .ok (.aload_n 0, 1) := by decide +kernel
theorem dX7_forPlace_90 : decode cX7_forPlace 90 = .ok (.getfield 7, 3) := by decide +kernel
theorem dX7_forPlace_93 : decode cX7_forPlace 93 = .ok (.iload_n 1, 1) := by decide +kernel
theorem dX7_forPlace_94 : decode cX7_forPlace 94 = .ok (.iconst 1, 1) := by decide +kernel
theorem dX7_forPlace_95 : decode cX7_forPlace 95 = .ok (.invokestatic 54, 3) := by decide +kernel
theorem dX7_forPlace_98 : decode cX7_forPlace 98 = .ok (.iaload, 1) := by decide +kernel
theorem dX7_forPlace_99 : decode cX7_forPlace 99 = .ok (.iload 5, 2) := by decide +kernel
theorem dX7_forPlace_101 : decode cX7_forPlace 101 = .ok (.imul, 1) := by decide +kernel
theorem dX7_forPlace_102 : decode cX7_forPlace 102 = .ok (.aload_n 0, 1) := by decide +kernel
theorem dX7_forPlace_103 : decode cX7_forPlace 103 = .ok (.getfield 24, 3) := by decide +kernel
theorem dX7_forPlace_106 : decode cX7_forPlace 106 = .ok (.iload_n 2, 1) := by decide +kernel
theorem dX7_forPlace_107 : decode cX7_forPlace 107 = .ok (.iaload, 1) := by decide +kernel
theorem dX7_forPlace_108 : decode cX7_forPlace 108 = .ok (.idiv, 1) := by decide +kernel
theorem dX7_forPlace_109 : decode cX7_forPlace 109 = .ok (.aload_n 0, 1) := by decide +kernel
theorem dX7_forPlace_110 : decode cX7_forPlace 110 = .ok (.getfield 7, 3) := by decide +kernel
theorem dX7_forPlace_113 : decode cX7_forPlace 113 = .ok (.iload_n 1, 1) := by decide +kernel
theorem dX7_forPlace_114 : decode cX7_forPlace 114 = .ok (.iconst 3, 1) := by decide +kernel
theorem dX7_forPlace_115 : decode cX7_forPlace 115 = .ok (.invokestatic 54, 3) := by decide +kernel
theorem dX7_forPlace_118 : decode cX7_forPlace 118 = .ok (.iaload, 1) := by decide +kernel
theorem dX7_forPlace_119 : decode cX7_forPlace 119 = .ok (.aload_n 0, 1) := by decide +kernel
theorem dX7_forPlace_120 : decode cX7_forPlace 120 = .ok (.getfield 7, 3) := by decide +kernel
theorem dX7_forPlace_123 : decode cX7_forPlace 123 = .ok (.iload_n 1, 1) := by decide +kernel
theorem dX7_forPlace_124 : decode cX7_forPlace 124 = .ok (.iconst 4, 1) := by decide +kernel
theorem dX7_forPlace_125 : decode cX7_forPlace 125 = .ok (.invokestatic 54, 3) := by decide +kernel
theorem dX7_forPlace_128 : decode cX7_forPlace 128 = .ok (.iaload, 1) := by decide +kernel
theorem dX7_forPlace_129 : decode cX7_forPlace 129 = .ok (.aload_n 0, 1) := by decide +kernel
theorem dX7_forPlace_130 : decode cX7_forPlace 130 = .ok (.getfield 7, 3) := by decide +kernel
theorem dX7_forPlace_133 : decode cX7_forPlace 133 = .ok (.iconst 4, 1) := by decide +kernel
theorem dX7_forPlace_134 : decode cX7_forPlace 134 = .ok (.iaload, 1) := by decide +kernel
theorem dX7_forPlace_135 : decode cX7_forPlace 135 = .ok (.imul, 1) := by decide +kernel
theorem dX7_forPlace_136 : decode cX7_forPlace 136 = .ok (.aload_n 0, 1) := by decide +kernel
theorem dX7_forPlace_137 : decode cX7_forPlace 137 = .ok (.getfield 7, 3) := by decide +kernel
theorem dX7_forPlace_140 : decode cX7_forPlace 140 = .ok (.iload_n 1, 1) := by decide +kernel
theorem dX7_forPlace_141 : decode cX7_forPlace 141 = .ok (.iconst 5, 1) := by decide +kernel
theorem dX7_forPlace_142 : decode cX7_forPlace 142 = .ok (.invokestatic 54, 3) := by decide +kernel
theorem dX7_forPlace_145 : decode cX7_forPlace 145 = .ok (.iaload, 1) := by decide +kernel
theorem dX7_forPlace_146 : decode cX7_forPlace 146 = .ok (.invokevirtual 50, 3) := by decide +kernel
theorem dX7_forPlace_149 : decode cX7_forPlace 149 = .ok (.ireturn, 1) := by decide +kernel
set_option maxRecDepth 20000 in
theorem ggX7_staked_X7_of : GoodIn wsX7_staked wsX7_of := goodIn_r _ [5] (by decide +kernel) (by decide +kernel)
set_option maxRecDepth 20000 in
theorem gX7_staked_X7_of : GoodIn wsX7_staked (va_wsS RX7 54 yX7_of wsX7_of) := goodIn_app (goodIn_of _ (by decide +kernel)) ggX7_staked_X7_of
theorem dX7_staked_0 : decode cX7_staked 0 = .ok (.aload_n 0, 1) := by decide +kernel
theorem dX7_staked_1 : decode cX7_staked 1 = .ok (.getfield 7, 3) := by decide +kernel
theorem dX7_staked_4 : decode cX7_staked 4 = .ok (.iload_n 1, 1) := by decide +kernel
theorem dX7_staked_5 : decode cX7_staked 5 = .ok (.iconst 1, 1) := by decide +kernel
theorem dX7_staked_6 : decode cX7_staked 6 = .ok (.invokestatic 54, 3) := by decide +kernel
theorem dX7_staked_9 : decode cX7_staked 9 = .ok (.iaload, 1) := by decide +kernel
theorem dX7_staked_10 : decode cX7_staked 10 = .ok (.iconst 1, 1) := by decide +kernel
theorem dX7_staked_11 : decode cX7_staked 11 = .ok (.aload_n 0, 1) := by decide +kernel
theorem dX7_staked_12 : decode cX7_staked 12 = .ok (.getfield 7, 3) := by decide +kernel
theorem dX7_staked_15 : decode cX7_staked 15 = .ok (.iload_n 1, 1) := by decide +kernel
theorem dX7_staked_16 : decode cX7_staked 16 = .ok (.iconst 2, 1) := by decide +kernel
theorem dX7_staked_17 : decode cX7_staked 17 = .ok (.invokestatic 54, 3) := by decide +kernel
theorem dX7_staked_20 : decode cX7_staked 20 = .ok (.iaload, 1) := by decide +kernel
theorem dX7_staked_21 : decode cX7_staked 21 = .ok (.iadd, 1) := by decide +kernel
theorem dX7_staked_22 : decode cX7_staked 22 = .ok (.imul, 1) := by decide +kernel
theorem dX7_staked_23 : decode cX7_staked 23 = .ok (.ireturn, 1) := by decide +kernel
set_option maxRecDepth 20000 in
theorem ggX7_returns_X7_of : GoodIn wsX7_returns wsX7_of := goodIn_r _ [6] (by decide +kernel) (by decide +kernel)
set_option maxRecDepth 20000 in
theorem gX7_returns_X7_of : GoodIn wsX7_returns (va_wsS RX7 54 yX7_of wsX7_of) := goodIn_app (goodIn_of _ (by decide +kernel)) ggX7_returns_X7_of
set_option maxRecDepth 20000 in
theorem ggX7_returns_X7_staked : GoodIn wsX7_returns wsX7_staked := goodIn_r _ [10, 1, 3, 4, 5, 6, 33, 34, 35, 36, 37, 38, 39, 40, 41, 42] (by decide +kernel) (by decide +kernel)
set_option maxRecDepth 20000 in
theorem gX7_returns_X7_staked : GoodIn wsX7_returns (wsV RX7 64 RX7 yX7_staked wsX7_staked) := goodIn_app (goodIn_of _ (by decide +kernel)) ggX7_returns_X7_staked
set_option maxRecDepth 20000 in
theorem ggX7_returns_X7_forWin : GoodIn wsX7_returns wsX7_forWin := goodIn_r _ [14, 15, 16, 17, 18, 19, 5, 20, 33, 34, 35, 36, 37, 38, 39, 40, 41, 42] (by decide +kernel) (by decide +kernel)
set_option maxRecDepth 20000 in
theorem gX7_returns_X7_forWin : GoodIn wsX7_returns (wsV RX7 68 RX7 yX7_forWin wsX7_forWin) := goodIn_app (goodIn_of _ (by decide +kernel)) ggX7_returns_X7_forWin
set_option maxRecDepth 20000 in
theorem ggX7_returns_X7_forPlace : GoodIn wsX7_returns wsX7_forPlace := goodIn_r _ [24, 1, 15, 16, 3, 4, 5, 6, 25, 26, 27, 28, 29, 30, 31, 32, 17, 18, 19, 20, 33, 34, 35, 36, 37, 38, 39, 40, 41, 42] (by decide +kernel) (by decide +kernel)
set_option maxRecDepth 20000 in
theorem gX7_returns_X7_forPlace : GoodIn wsX7_returns (wsV RX7 72 RX7 yX7_forPlace wsX7_forPlace) := goodIn_app (goodIn_of _ (by decide +kernel)) ggX7_returns_X7_forPlace
set_option maxRecDepth 20000 in
theorem ggX7_returns_X7_places : GoodIn wsX7_returns wsX7_places := goodIn_r _ [28, 29, 30, 31, 5, 32, 1, 33, 34, 35, 36, 37, 38, 39, 40, 41, 42] (by decide +kernel) (by decide +kernel)
set_option maxRecDepth 20000 in
theorem gX7_returns_X7_places : GoodIn wsX7_returns (wsV RX7 58 RX7 yX7_places wsX7_places) := goodIn_app (goodIn_of _ (by decide +kernel)) ggX7_returns_X7_places
theorem dX7_returns_0 : decode cX7_returns 0 = .ok (.aload_n 0, 1) := by decide +kernel
theorem dX7_returns_1 : decode cX7_returns 1 = .ok (.getfield 7, 3) := by decide +kernel
theorem dX7_returns_4 : decode cX7_returns 4 = .ok (.iload_n 1, 1) := by decide +kernel
theorem dX7_returns_5 : decode cX7_returns 5 = .ok (.iconst 0, 1) := by decide +kernel
theorem dX7_returns_6 : decode cX7_returns 6 = .ok (.invokestatic 54, 3) := by decide +kernel
theorem dX7_returns_9 : decode cX7_returns 9 = .ok (.iaload, 1) := by decide +kernel
theorem dX7_returns_10 : decode cX7_returns 10 = .ok (.istore_n 2, 1) := by decide +kernel
theorem dX7_returns_11 : decode cX7_returns 11 = .ok (.aload_n 0, 1) := by decide +kernel
theorem dX7_returns_12 : decode cX7_returns 12 = .ok (.getfield 7, 3) := by decide +kernel
theorem dX7_returns_15 : decode cX7_returns 15 = .ok (.bipush 26, 2) := by decide +kernel
theorem dX7_returns_17 : decode cX7_returns 17 = .ok (.iload_n 2, 1) := by decide +kernel
theorem dX7_returns_18 : decode cX7_returns 18 = .ok (.iadd, 1) := by decide +kernel
theorem dX7_returns_19 : decode cX7_returns 19 = .ok (.iaload, 1) := by decide +kernel
theorem dX7_returns_20 : decode cX7_returns 20 = .ok (.ifCond .ne 14, 3) := by decide +kernel
theorem dX7_returns_23 : decode cX7_returns 23 = .ok (.aload_n 0, 1) := by decide +kernel
theorem dX7_returns_24 : decode cX7_returns 24 = .ok (.iconst 1, 1) := by decide +kernel
theorem dX7_returns_25 : decode cX7_returns 25 = .ok (.putfield 61, 3) := by decide +kernel
theorem dX7_returns_28 : decode cX7_returns 28 = .ok (.aload_n 0, 1) := by decide +kernel
theorem dX7_returns_29 : decode cX7_returns 29 = .ok (.iload_n 1, 1) := by decide +kernel
theorem dX7_returns_30 : decode cX7_returns 30 = .ok (.invokevirtual 64, 3) := by decide +kernel
theorem dX7_returns_33 : decode cX7_returns 33 = .ok (.ireturn, 1) := by decide +kernel
theorem dX7_returns_34 : decode cX7_returns 34 = .ok (.aload_n 0, 1) := by decide +kernel
theorem dX7_returns_35 : decode cX7_returns 35 = .ok (.iload_n 2, 1) := by decide +kernel
theorem dX7_returns_36 : decode cX7_returns 36 = .ok (.aload_n 0, 1) := by decide +kernel
theorem dX7_returns_37 : decode cX7_returns 37 = .ok (.getfield 7, 3) := by decide +kernel
theorem dX7_returns_40 : decode cX7_returns 40 = .ok (.iload_n 1, 1) := by decide +kernel
theorem dX7_returns_41 : decode cX7_returns 41 = .ok (.iconst 1, 1) := by decide +kernel
theorem dX7_returns_42 : decode cX7_returns 42 = .ok (.invokestatic 54, 3) := by decide +kernel
theorem dX7_returns_45 : decode cX7_returns 45 = .ok (.iaload, 1) := by decide +kernel
theorem dX7_returns_46 : decode cX7_returns 46 = .ok (.aload_n 0, 1) := by decide +kernel
theorem dX7_returns_47 : decode cX7_returns 47 = .ok (.getfield 7, 3) := by decide +kernel
theorem dX7_returns_50 : decode cX7_returns 50 = .ok (.iload_n 1, 1) := by decide +kernel
theorem dX7_returns_51 : decode cX7_returns 51 = .ok (.iconst 3, 1) := by decide +kernel
theorem dX7_returns_52 : decode cX7_returns 52 = .ok (.invokestatic 54, 3) := by decide +kernel
theorem dX7_returns_55 : decode cX7_returns 55 = .ok (.iaload, 1) := by decide +kernel
theorem dX7_returns_56 : decode cX7_returns 56 = .ok (.aload_n 0, 1) := by decide +kernel
theorem dX7_returns_57 : decode cX7_returns 57 = .ok (.getfield 7, 3) := by decide +kernel
theorem dX7_returns_60 : decode cX7_returns 60 = .ok (.iload_n 1, 1) := by decide +kernel
theorem dX7_returns_61 : decode cX7_returns 61 = .ok (.iconst 4, 1) := by decide +kernel
theorem dX7_returns_62 : decode cX7_returns 62 = .ok (.invokestatic 54, 3) := by decide +kernel
theorem dX7_returns_65 : decode cX7_returns 65 = .ok (.iaload, 1) := by decide +kernel
theorem dX7_returns_66 : decode cX7_returns 66 = .ok (.aload_n 0, 1) := by decide +kernel
theorem dX7_returns_67 : decode cX7_returns 67 = .ok (.getfield 7, 3) := by decide +kernel
theorem dX7_returns_70 : decode cX7_returns 70 = .ok (.iload_n 1, 1) := by decide +kernel
theorem dX7_returns_71 : decode cX7_returns 71 = .ok (.iconst 5, 1) := by decide +kernel
theorem dX7_returns_72 : decode cX7_returns 72 = .ok (.invokestatic 54, 3) := by decide +kernel
theorem dX7_returns_75 : decode cX7_returns 75 = .ok (.iaload, 1) := by decide +kernel
theorem dX7_returns_76 : decode cX7_returns 76 = .ok (.invokevirtual 68, 3) := by decide +kernel
theorem dX7_returns_79 : decode cX7_returns 79 = .ok (.istore_n 3, 1) := by decide +kernel
theorem dX7_returns_80 : decode cX7_returns 80 = .ok (.aload_n 0, 1) := by decide +kernel
theorem dX7_returns_81 : decode cX7_returns 81 = .ok (.getfield 7, 3) := by decide +kernel
theorem dX7_returns_84 : decode cX7_returns 84 = .ok (.iload_n 1, 1) := by decide +kernel
theorem dX7_returns_85 : decode cX7_returns 85 = .ok (.iconst 2, 1) := by decide +kernel
theorem dX7_returns_86 : decode cX7_returns 86 = .ok (.invokestatic 54, 3) := by decide +kernel
theorem dX7_returns_89 : decode cX7_returns 89 = .ok (.iaload, 1) := by decide +kernel
theorem dX7_returns_90 : decode cX7_returns 90 = .ok (.iconst 1, 1) := by decide +kernel
theorem dX7_returns_91 : decode cX7_returns 91 = .ok (.if_icmp .ne 11, 3) := by decide +kernel
theorem dX7_returns_94 : decode cX7_returns 94 = .ok (.aload_n 0, 1) := by decide +kernel
theorem dX7_returns_95 : decode cX7_returns 95 = .ok (.iload_n 1, 1) := by decide +kernel
theorem dX7_returns_96 : decode cX7_returns 96 = .ok (.invokevirtual 72, 3) := by decide +kernel
theorem dX7_returns_99 : decode cX7_returns 99 = .ok (.goto 4, 3) := by decide +kernel
theorem dX7_returns_102 : decode cX7_returns 102 = .ok (.iconst 0, 1) := by decide +kernel
theorem dX7_returns_103 : decode cX7_returns 103 = .ok (.istore 4, 2) := by decide +kernel
theorem dX7_returns_105 : decode cX7_returns 105 = .ok (.aload_n 0, 1) := by decide +kernel
theorem dX7_returns_106 : decode cX7_returns 106 = .ok (.iload_n 3, 1) := by decide +kernel
theorem dX7_returns_107 : decode cX7_returns 107 = .ok (.ifCond .le 7, 3) := by decide +kernel
theorem dX7_returns_110 : decode cX7_returns 110 = .ok (.iconst 2, 1) := by decide +kernel
theorem dX7_returns_111 : decode cX7_returns 111 = .ok (.goto 24, 3) := by decide +kernel
theorem dX7_returns_114 : decode cX7_returns 114 = .ok (.iload 4, 2) := by decide +kernel
theorem dX7_returns_116 : decode cX7_returns 116 = .ok (.ifCond .ne 7, 3) := by decide +kernel
theorem dX7_returns_119 : decode cX7_returns 119 = .ok (.iconst 0, 1) := by decide +kernel
theorem dX7_returns_120 : decode cX7_returns 120 = .ok (.goto 15, 3) := by decide +kernel
theorem dX7_returns_123 : decode cX7_returns 123 = .ok (.aload_n 0, 1) := by decide +kernel
theorem dX7_returns_124 : decode cX7_returns 124 = .ok (.invokevirtual 58, 3) := by decide +kernel
theorem dX7_returns_127 : decode cX7_returns 127 = .ok (.ifCond .ne 7, 3) := by decide +kernel
theorem dX7_returns_130 : decode cX7_returns 130 = .ok (.iconst 4, 1) := by decide +kernel
theorem dX7_returns_131 : decode cX7_returns 131 = .ok (.goto 4, 3) := by decide +kernel
theorem dX7_returns_134 : decode cX7_returns 134 = .ok (.iconst 3, 1) := by decide +kernel
theorem dX7_returns_135 : decode cX7_returns 135 = .ok (.putfield 61, 3) := by decide +kernel
theorem dX7_returns_138 : decode cX7_returns 138 = .ok (.iload_n 3, 1) := by decide +kernel
theorem dX7_returns_139 : decode cX7_returns 139 = .ok (.iload 4, 2) := by decide +kernel
theorem dX7_returns_141 : decode cX7_returns 141 = .ok (.iadd, 1) := by decide +kernel
theorem dX7_returns_142 : decode cX7_returns 142 = .ok (.ireturn, 1) := by decide +kernel
set_option maxRecDepth 20000 in
theorem ggX7_returnsOff_X7_off : GoodIn wsX7_returnsOff wsX7_off := goodIn_r _ [5] (by decide +kernel) (by decide +kernel)
set_option maxRecDepth 20000 in
theorem gX7_returnsOff_X7_off : GoodIn wsX7_returnsOff (va_wsS RX7 75 yX7_off wsX7_off) := goodIn_app (goodIn_of _ (by decide +kernel)) ggX7_returnsOff_X7_off
set_option maxRecDepth 20000 in
theorem ggX7_returnsOff_X7_forWin : GoodIn wsX7_returnsOff wsX7_forWin := goodIn_r _ [9, 10, 11, 12, 13, 14, 4, 15, 16, 17, 18, 19, 20, 21, 22, 23, 24, 25] (by decide +kernel) (by decide +kernel)
set_option maxRecDepth 20000 in
theorem gX7_returnsOff_X7_forWin : GoodIn wsX7_returnsOff (wsV RX7 68 RX7 yX7_forWin wsX7_forWin) := goodIn_app (goodIn_of _ (by decide +kernel)) ggX7_returnsOff_X7_forWin
theorem dX7_returnsOff_0 : decode cX7_returnsOff 0 = .ok (.aload_n 0, 1) := by decide +kernel
theorem dX7_returnsOff_1 : decode cX7_returnsOff 1 = .ok (.getfield 7, 3) := by decide +kernel
theorem dX7_returnsOff_4 : decode cX7_returnsOff 4 = .ok (.iload_n 1, 1) := by decide +kernel
theorem dX7_returnsOff_5 : decode cX7_returnsOff 5 = .ok (.iconst 0, 1) := by decide +kernel
theorem dX7_returnsOff_6 : decode cX7_returnsOff 6 = .ok (.invokestatic 75, 3) := by decide +kernel
theorem dX7_returnsOff_9 : decode cX7_returnsOff 9 = .ok (.iaload, 1) := by decide +kernel
theorem dX7_returnsOff_10 : decode cX7_returnsOff 10 = .ok (.istore_n 2, 1) := by decide +kernel
theorem dX7_returnsOff_11 : decode cX7_returnsOff 11 = .ok (.aload_n 0, 1) := by decide +kernel
theorem dX7_returnsOff_12 : decode cX7_returnsOff 12 = .ok (.getfield 7, 3) := by decide +kernel
theorem dX7_returnsOff_15 : decode cX7_returnsOff 15 = .ok (.bipush 26, 2) := by decide +kernel
theorem dX7_returnsOff_17 : decode cX7_returnsOff 17 = .ok (.iload_n 2, 1) := by decide +kernel
theorem dX7_returnsOff_18 : decode cX7_returnsOff 18 = .ok (.iadd, 1) := by decide +kernel
theorem dX7_returnsOff_19 : decode cX7_returnsOff 19 = .ok (.iaload, 1) := by decide +kernel
theorem dX7_returnsOff_20 : decode cX7_returnsOff 20 = .ok (.ifCond .ne 16, 3) := by decide +kernel
theorem dX7_returnsOff_23 : decode cX7_returnsOff 23 = .ok (.aload_n 0, 1) := by decide +kernel
theorem dX7_returnsOff_24 : decode cX7_returnsOff 24 = .ok (.getfield 7, 3) := by decide +kernel
theorem dX7_returnsOff_27 : decode cX7_returnsOff 27 = .ok (.iload_n 1, 1) := by decide +kernel
theorem dX7_returnsOff_28 : decode cX7_returnsOff 28 = .ok (.iconst 1, 1) := by decide +kernel
theorem dX7_returnsOff_29 : decode cX7_returnsOff 29 = .ok (.invokestatic 75, 3) := by decide +kernel
theorem dX7_returnsOff_32 : decode cX7_returnsOff 32 = .ok (.iaload, 1) := by decide +kernel
theorem dX7_returnsOff_33 : decode cX7_returnsOff 33 = .ok (.goto 39, 3) := by decide +kernel
theorem dX7_returnsOff_36 : decode cX7_returnsOff 36 = .ok (.aload_n 0, 1) := by decide +kernel
theorem dX7_returnsOff_37 : decode cX7_returnsOff 37 = .ok (.iload_n 2, 1) := by decide +kernel
theorem dX7_returnsOff_38 : decode cX7_returnsOff 38 = .ok (.aload_n 0, 1) := by decide +kernel
theorem dX7_returnsOff_39 : decode cX7_returnsOff 39 = .ok (.getfield 7, 3) := by decide +kernel
theorem dX7_returnsOff_42 : decode cX7_returnsOff 42 = .ok (.iload_n 1, 1) := by decide +kernel
theorem dX7_returnsOff_43 : decode cX7_returnsOff 43 = .ok (.iconst 1, 1) := by decide +kernel
theorem dX7_returnsOff_44 : decode cX7_returnsOff 44 = .ok (.invokestatic 75, 3) := by decide +kernel
theorem dX7_returnsOff_47 : decode cX7_returnsOff 47 = .ok (.iaload, 1) := by decide +kernel
theorem dX7_returnsOff_48 : decode cX7_returnsOff 48 = .ok (.aload_n 0, 1) := by decide +kernel
theorem dX7_returnsOff_49 : decode cX7_returnsOff 49 = .ok (.getfield 7, 3) := by decide +kernel
theorem dX7_returnsOff_52 : decode cX7_returnsOff 52 = .ok (.iload_n 1, 1) := by decide +kernel
theorem dX7_returnsOff_53 : decode cX7_returnsOff 53 = .ok (.iconst 2, 1) := by decide +kernel
theorem dX7_returnsOff_54 : decode cX7_returnsOff 54 = .ok (.invokestatic 75, 3) := by decide +kernel
theorem dX7_returnsOff_57 : decode cX7_returnsOff 57 = .ok (.iaload, 1) := by decide +kernel
theorem dX7_returnsOff_58 : decode cX7_returnsOff 58 = .ok (.aload_n 0, 1) := by decide +kernel
theorem dX7_returnsOff_59 : decode cX7_returnsOff 59 = .ok (.getfield 7, 3) := by decide +kernel
theorem dX7_returnsOff_62 : decode cX7_returnsOff 62 = .ok (.iload_n 1, 1) := by decide +kernel
theorem dX7_returnsOff_63 : decode cX7_returnsOff 63 = .ok (.iconst 3, 1) := by decide +kernel
theorem dX7_returnsOff_64 : decode cX7_returnsOff 64 = .ok (.invokestatic 75, 3) := by decide +kernel
theorem dX7_returnsOff_67 : decode cX7_returnsOff 67 = .ok (.iaload, 1) := by decide +kernel
theorem dX7_returnsOff_68 : decode cX7_returnsOff 68 = .ok (.iconst 0, 1) := by decide +kernel
theorem dX7_returnsOff_69 : decode cX7_returnsOff 69 = .ok (.invokevirtual 68, 3) := by decide +kernel
theorem dX7_returnsOff_72 : decode cX7_returnsOff 72 = .ok (.ireturn, 1) := by decide +kernel
set_option maxRecDepth 20000 in
theorem ggX7_wins_X7_staked : GoodIn wsX7_wins wsX7_staked := goodIn_r _ [6, 1, 7, 8, 5, 9, 44, 45, 46, 47, 48, 49, 50, 51, 52, 53] (by decide +kernel) (by decide +kernel)
set_option maxRecDepth 20000 in
theorem gX7_wins_X7_staked : GoodIn wsX7_wins (wsV RX7 64 RX7 yX7_staked wsX7_staked) := goodIn_app (goodIn_of _ (by decide +kernel)) ggX7_wins_X7_staked
set_option maxRecDepth 20000 in
theorem ggX7_wins_X7_returns : GoodIn wsX7_wins wsX7_returns := goodIn_r _ [13, 1, 14, 7, 8, 5, 9, 2, 3, 4, 6, 15, 16, 17, 18, 19, 20, 21, 22, 23, 24, 25, 26, 27, 28, 29, 30, 31, 32, 33, 34, 35, 36, 44, 45, 46, 47, 48, 49, 50, 51, 52, 53] (by decide +kernel) (by decide +kernel)
set_option maxRecDepth 20000 in
theorem gX7_wins_X7_returns : GoodIn wsX7_wins (wsV RX7 78 RX7 yX7_returns wsX7_returns) := goodIn_app (goodIn_of _ (by decide +kernel)) ggX7_wins_X7_returns
set_option maxRecDepth 20000 in
theorem ggX7_wins_X7_returnsOff : GoodIn wsX7_wins wsX7_returnsOff := goodIn_r _ [40, 1, 41, 42, 5, 43, 15, 16, 17, 18, 19, 20, 21, 22, 23, 24, 44, 45, 46, 47, 48, 49, 50, 51, 52, 53] (by decide +kernel) (by decide +kernel)
set_option maxRecDepth 20000 in
theorem gX7_wins_X7_returnsOff : GoodIn wsX7_wins (wsV RX7 81 RX7 yX7_returnsOff wsX7_returnsOff) := goodIn_app (goodIn_of _ (by decide +kernel)) ggX7_wins_X7_returnsOff
set_option maxRecDepth 20000 in
theorem ggX7_wins_X7_off : GoodIn wsX7_wins wsX7_off := goodIn_r _ [43] (by decide +kernel) (by decide +kernel)
set_option maxRecDepth 20000 in
theorem gX7_wins_X7_off : GoodIn wsX7_wins (va_wsS RX7 75 yX7_off wsX7_off) := goodIn_app (goodIn_of _ (by decide +kernel)) ggX7_wins_X7_off
theorem dX7_wins_0 : decode cX7_wins 0 = .ok (.iconst 0, 1) := by decide +kernel
theorem dX7_wins_1 : decode cX7_wins 1 = .ok (.istore_n 1, 1) := by decide +kernel
theorem dX7_wins_2 : decode cX7_wins 2 = .ok (.iconst 0, 1) := by decide +kernel
theorem dX7_wins_3 : decode cX7_wins 3 = .ok (.istore_n 2, 1) := by decide +kernel
theorem dX7_wins_4 : decode cX7_wins 4 = .ok (.iload_n 2, 1) := by decide +kernel
theorem dX7_wins_5 : decode cX7_wins 5 = .ok (.aload_n 0, 1) := by decide +kernel
theorem dX7_wins_6 : decode cX7_wins 6 = .ok (.getfield 7, 3) := by decide +kernel
theorem dX7_wins_9 : decode cX7_wins 9 = .ok (.iconst 1, 1) := by decide +kernel
theorem dX7_wins_10 : decode cX7_wins 10 = .ok (.iaload, 1) := by decide +kernel
theorem dX7_wins_11 : decode cX7_wins 11 = .ok (.if_icmp .ge 23, 3) := by decide +kernel
theorem dX7_wins_14 : decode cX7_wins 14 = .ok (.iload_n 1, 1) := by decide +kernel
theorem dX7_wins_15 : decode cX7_wins 15 = .ok (.aload_n 0, 1) := by decide +kernel
theorem dX7_wins_16 : decode cX7_wins 16 = .ok (.iload_n 2, 1) := by decide +kernel
theorem dX7_wins_17 : decode cX7_wins 17 = .ok (.invokevirtual 64, 3) := by decide +kernel
theorem dX7_wins_20 : decode cX7_wins 20 = .ok (.aload_n 0, 1) := by decide +kernel
theorem dX7_wins_21 : decode cX7_wins 21 = .ok (.iload_n 2, 1) := by decide +kernel
theorem dX7_wins_22 : decode cX7_wins 22 = .ok (.invokevirtual 78, 3) := by decide +kernel
theorem dX7_wins_25 : decode cX7_wins 25 = .ok (.isub, 1) := by decide +kernel
theorem dX7_wins_26 : decode cX7_wins 26 = .ok (.iadd, 1) := by decide +kernel
theorem dX7_wins_27 : decode cX7_wins 27 = .ok (.istore_n 1, 1) := by decide +kernel
theorem dX7_wins_28 : decode cX7_wins 28 = .ok (.iinc 2 1, 3) := by decide +kernel
theorem dX7_wins_31 : decode cX7_wins 31 = .ok (.goto (-27), 3) := by decide +kernel
theorem dX7_wins_34 : decode cX7_wins 34 = .ok (.iconst 0, 1) := by decide +kernel
theorem dX7_wins_35 : decode cX7_wins 35 = .ok (.istore_n 2, 1) := by decide +kernel
theorem dX7_wins_36 : decode cX7_wins 36 = .ok (.iload_n 2, 1) := by decide +kernel
theorem dX7_wins_37 : decode cX7_wins 37 = .ok (.aload_n 0, 1) := by decide +kernel
theorem dX7_wins_38 : decode cX7_wins 38 = .ok (.getfield 7, 3) := by decide +kernel
theorem dX7_wins_41 : decode cX7_wins 41 = .ok (.iconst 2, 1) := by decide +kernel
theorem dX7_wins_42 : decode cX7_wins 42 = .ok (.iaload, 1) := by decide +kernel
theorem dX7_wins_43 : decode cX7_wins 43 = .ok (.if_icmp .ge 28, 3) := by decide +kernel
theorem dX7_wins_46 : decode cX7_wins 46 = .ok (.iload_n 1, 1) := by decide +kernel
theorem dX7_wins_47 : decode cX7_wins 47 = .ok (.aload_n 0, 1) := by decide +kernel
theorem dX7_wins_48 : decode cX7_wins 48 = .ok (.iload_n 2, 1) := by decide +kernel
theorem dX7_wins_49 : decode cX7_wins 49 = .ok (.invokevirtual 81, 3) := by decide +kernel
theorem dX7_wins_52 : decode cX7_wins 52 = .ok (.aload_n 0, 1) := by decide +kernel
theorem dX7_wins_53 : decode cX7_wins 53 = .ok (.getfield 7, 3) := by decide +kernel
theorem dX7_wins_56 : decode cX7_wins 56 = .ok (.iload_n 2, 1) := by decide +kernel
theorem dX7_wins_57 : decode cX7_wins 57 = .ok (.iconst 1, 1) := by decide +kernel
theorem dX7_wins_58 : decode cX7_wins 58 = .ok (.invokestatic 75, 3) := by decide +kernel
theorem dX7_wins_61 : decode cX7_wins 61 = .ok (.iaload, 1) := by decide +kernel
theorem dX7_wins_62 : decode cX7_wins 62 = .ok (.isub, 1) := by decide +kernel
theorem dX7_wins_63 : decode cX7_wins 63 = .ok (.iadd, 1) := by decide +kernel
theorem dX7_wins_64 : decode cX7_wins 64 = .ok (.istore_n 1, 1) := by decide +kernel
theorem dX7_wins_65 : decode cX7_wins 65 = .ok (.iinc 2 1, 3) := by decide +kernel
theorem dX7_wins_68 : decode cX7_wins 68 = .ok (.goto (-32), 3) := by decide +kernel
theorem dX7_wins_71 : decode cX7_wins 71 = .ok (.iload_n 1, 1) := by decide +kernel
theorem dX7_wins_72 : decode cX7_wins 72 = .ok (.ireturn, 1) := by decide +kernel
theorem dX7_forgets_0 : decode cX7_forgets 0 = .ok (.iconst 0, 1) := by decide +kernel
theorem dX7_forgets_1 : decode cX7_forgets 1 = .ok (.istore_n 1, 1) := by decide +kernel
theorem dX7_forgets_2 : decode cX7_forgets 2 = .ok (.iload_n 1, 1) := by decide +kernel
theorem dX7_forgets_3 : decode cX7_forgets 3 = .ok (.bipush 10, 2) := by decide +kernel
theorem dX7_forgets_5 : decode cX7_forgets 5 = .ok (.if_icmp .ge 23, 3) := by decide +kernel
theorem dX7_forgets_8 : decode cX7_forgets 8 = .ok (.aload_n 0, 1) := by decide +kernel
theorem dX7_forgets_9 : decode cX7_forgets 9 = .ok (.getfield 21, 3) := by decide +kernel
theorem dX7_forgets_12 : decode cX7_forgets 12 = .ok (.iload_n 1, 1) := by decide +kernel
theorem dX7_forgets_13 : decode cX7_forgets 13 = .ok (.iconst (-1), 1) := by decide +kernel
theorem dX7_forgets_14 : decode cX7_forgets 14 = .ok (.iastore, 1) := by decide +kernel
theorem dX7_forgets_15 : decode cX7_forgets 15 = .ok (.aload_n 0, 1) := by decide +kernel
theorem dX7_forgets_16 : decode cX7_forgets 16 = .ok (.getfield 24, 3) := by decide +kernel
theorem dX7_forgets_19 : decode cX7_forgets 19 = .ok (.iload_n 1, 1) := by decide +kernel
theorem dX7_forgets_20 : decode cX7_forgets 20 = .ok (.iconst (-1), 1) := by decide +kernel
theorem dX7_forgets_21 : decode cX7_forgets 21 = .ok (.iastore, 1) := by decide +kernel
theorem dX7_forgets_22 : decode cX7_forgets 22 = .ok (.iinc 1 1, 3) := by decide +kernel
theorem dX7_forgets_25 : decode cX7_forgets 25 = .ok (.goto (-23), 3) := by decide +kernel
theorem dX7_forgets_28 : decode cX7_forgets 28 = .ok (.return_, 1) := by decide +kernel
set_option maxRecDepth 20000 in
theorem ggX7_isArrival_X7_in : GoodIn wsX7_isArrival wsX7_in := goodIn_r _ [7] (by decide +kernel) (by decide +kernel)
set_option maxRecDepth 20000 in
theorem gX7_isArrival_X7_in : GoodIn wsX7_isArrival (va_wsS RX7 38 yX7_in wsX7_in) := goodIn_app (goodIn_of _ (by decide +kernel)) ggX7_isArrival_X7_in
theorem dX7_isArrival_0 : decode cX7_isArrival 0 = .ok (.iconst 0, 1) := by decide +kernel
theorem dX7_isArrival_1 : decode cX7_isArrival 1 = .ok (.istore_n 1, 1) := by decide +kernel
theorem dX7_isArrival_2 : decode cX7_isArrival 2 = .ok (.iconst 0, 1) := by decide +kernel
theorem dX7_isArrival_3 : decode cX7_isArrival 3 = .ok (.istore_n 2, 1) := by decide +kernel
theorem dX7_isArrival_4 : decode cX7_isArrival 4 = .ok (.iconst 1, 1) := by decide +kernel
theorem dX7_isArrival_5 : decode cX7_isArrival 5 = .ok (.istore_n 3, 1) := by decide +kernel
theorem dX7_isArrival_6 : decode cX7_isArrival 6 = .ok (.aload_n 0, 1) := by decide +kernel
theorem dX7_isArrival_7 : decode cX7_isArrival 7 = .ok (.iconst 0, 1) := by decide +kernel
theorem dX7_isArrival_8 : decode cX7_isArrival 8 = .ok (.putfield 84, 3) := by decide +kernel
theorem dX7_isArrival_11 : decode cX7_isArrival 11 = .ok (.iconst 1, 1) := by decide +kernel
theorem dX7_isArrival_12 : decode cX7_isArrival 12 = .ok (.istore 4, 2) := by decide +kernel
theorem dX7_isArrival_14 : decode cX7_isArrival 14 = .ok (.aload_n 0, 1) := by decide +kernel
theorem dX7_isArrival_15 : decode cX7_isArrival 15 = .ok (.getfield 84, 3) := by decide +kernel
theorem dX7_isArrival_18 : decode cX7_isArrival 18 = .ok (.aload_n 0, 1) := by decide +kernel
theorem dX7_isArrival_19 : decode cX7_isArrival 19 = .ok (.getfield 87, 3) := by decide +kernel
theorem dX7_isArrival_22 : decode cX7_isArrival 22 = .ok (.if_icmp .ge 148, 3) := by decide +kernel
theorem dX7_isArrival_25 : decode cX7_isArrival 25 = .ok (.iload 4, 2) := by decide +kernel
theorem dX7_isArrival_27 : decode cX7_isArrival 27 = .ok (.ifCond .eq 143, 3) := by decide +kernel
theorem dX7_isArrival_30 : decode cX7_isArrival 30 = .ok (.aload_n 0, 1) := by decide +kernel
theorem dX7_isArrival_31 : decode cX7_isArrival 31 = .ok (.getfield 17, 3) := by decide +kernel
theorem dX7_isArrival_34 : decode cX7_isArrival 34 = .ok (.aload_n 0, 1) := by decide +kernel
theorem dX7_isArrival_35 : decode cX7_isArrival 35 = .ok (.getfield 84, 3) := by decide +kernel
theorem dX7_isArrival_38 : decode cX7_isArrival 38 = .ok (.caload, 1) := by decide +kernel
theorem dX7_isArrival_39 : decode cX7_isArrival 39 = .ok (.istore 5, 2) := by decide +kernel
theorem dX7_isArrival_41 : decode cX7_isArrival 41 = .ok (.iload_n 3, 1) := by decide +kernel
theorem dX7_isArrival_42 : decode cX7_isArrival 42 = .ok (.ifCond .eq 69, 3) := by decide +kernel
theorem dX7_isArrival_45 : decode cX7_isArrival 45 = .ok (.iload 5, 2) := by decide +kernel
theorem dX7_isArrival_47 : decode cX7_isArrival 47 = .ok (.bipush 97, 2) := by decide +kernel
theorem dX7_isArrival_49 : decode cX7_isArrival 49 = .ok (.bipush 106, 2) := by decide +kernel
theorem dX7_isArrival_51 : decode cX7_isArrival 51 = .ok (.invokestatic 38, 3) := by decide +kernel
theorem dX7_isArrival_54 : decode cX7_isArrival 54 = .ok (.ifCond .eq 19, 3) := by decide +kernel
theorem dX7_isArrival_57 : decode cX7_isArrival 57 = .ok (.iload_n 1, 1) := by decide +kernel
theorem dX7_isArrival_58 : decode cX7_isArrival 58 = .ok (.iload 5, 2) := by decide +kernel
theorem dX7_isArrival_60 : decode cX7_isArrival 60 = .ok (.bipush 97, 2) := by decide +kernel
theorem dX7_isArrival_62 : decode cX7_isArrival 62 = .ok (.isub, 1) := by decide +kernel
theorem dX7_isArrival_63 : decode cX7_isArrival 63 = .ok (.ishr, 1) := by decide +kernel
theorem dX7_isArrival_64 : decode cX7_isArrival 64 = .ok (.iconst 1, 1) := by decide +kernel
theorem dX7_isArrival_65 : decode cX7_isArrival 65 = .ok (.iand, 1) := by decide +kernel
theorem dX7_isArrival_66 : decode cX7_isArrival 66 = .ok (.ifCond .ne 7, 3) := by decide +kernel
theorem dX7_isArrival_69 : decode cX7_isArrival 69 = .ok (.iconst 1, 1) := by decide +kernel
theorem dX7_isArrival_70 : decode cX7_isArrival 70 = .ok (.goto 4, 3) := by decide +kernel
theorem dX7_isArrival_73 : decode cX7_isArrival 73 = .ok (.iconst 0, 1) := by decide +kernel
theorem dX7_isArrival_74 : decode cX7_isArrival 74 = .ok (.istore 4, 2) := by decide +kernel
theorem dX7_isArrival_76 : decode cX7_isArrival 76 = .ok (.iload_n 1, 1) := by decide +kernel
theorem dX7_isArrival_77 : decode cX7_isArrival 77 = .ok (.iload 4, 2) := by decide +kernel
theorem dX7_isArrival_79 : decode cX7_isArrival 79 = .ok (.ifCond .eq 13, 3) := by decide +kernel
theorem dX7_isArrival_82 : decode cX7_isArrival 82 = .ok (.iconst 1, 1) := by decide +kernel
theorem dX7_isArrival_83 : decode cX7_isArrival 83 = .ok (.iload 5, 2) := by decide +kernel
theorem dX7_isArrival_85 : decode cX7_isArrival 85 = .ok (.bipush 97, 2) := by decide +kernel
theorem dX7_isArrival_87 : decode cX7_isArrival 87 = .ok (.isub, 1) := by decide +kernel
theorem dX7_isArrival_88 : decode cX7_isArrival 88 = .ok (.ishl, 1) := by decide +kernel
theorem dX7_isArrival_89 : decode cX7_isArrival 89 = .ok (.goto 4, 3) := by decide +kernel
theorem dX7_isArrival_92 : decode cX7_isArrival 92 = .ok (.iconst 0, 1) := by decide +kernel
theorem dX7_isArrival_93 : decode cX7_isArrival 93 = .ok (.ior, 1) := by decide +kernel
theorem dX7_isArrival_94 : decode cX7_isArrival 94 = .ok (.istore_n 1, 1) := by decide +kernel
theorem dX7_isArrival_95 : decode cX7_isArrival 95 = .ok (.iload_n 2, 1) := by decide +kernel
theorem dX7_isArrival_96 : decode cX7_isArrival 96 = .ok (.iload 4, 2) := by decide +kernel
theorem dX7_isArrival_98 : decode cX7_isArrival 98 = .ok (.ifCond .eq 7, 3) := by decide +kernel
theorem dX7_isArrival_101 : decode cX7_isArrival 101 = .ok (.iconst 1, 1) := by decide +kernel
theorem dX7_isArrival_102 : decode cX7_isArrival 102 = .ok (.goto 4, 3) := by decide +kernel
theorem dX7_isArrival_105 : decode cX7_isArrival 105 = .ok (.iconst 0, 1) := by decide +kernel
theorem dX7_isArrival_106 : decode cX7_isArrival 106 = .ok (.iadd, 1) := by decide +kernel
theorem dX7_isArrival_107 : decode cX7_isArrival 107 = .ok (.istore_n 2, 1) := by decide +kernel
theorem dX7_isArrival_108 : decode cX7_isArrival 108 = .ok (.goto 30, 3) := by decide +kernel
theorem dX7_isArrival_111 : decode cX7_isArrival 111 = .ok (.iload 5, 2) := by decide +kernel
theorem dX7_isArrival_113 : decode cX7_isArrival 113 = .ok (.bipush 62, 2) := by decide +kernel
theorem dX7_isArrival_115 : decode cX7_isArrival 115 = .ok (.if_icmp .eq 10, 3) := by decide +kernel
theorem dX7_isArrival_118 : decode cX7_isArrival 118 = .ok (.iload 5, 2) := by decide +kernel
theorem dX7_isArrival_120 : decode cX7_isArrival 120 = .ok (.bipush 61, 2) := by decide +kernel
theorem dX7_isArrival_122 : decode cX7_isArrival 122 = .ok (.if_icmp .ne 13, 3) := by decide +kernel
theorem dX7_isArrival_125 : decode cX7_isArrival 125 = .ok (.iload_n 2, 1) := by decide +kernel
theorem dX7_isArrival_126 : decode cX7_isArrival 126 = .ok (.bipush 10, 2) := by decide +kernel
theorem dX7_isArrival_128 : decode cX7_isArrival 128 = .ok (.if_icmp .ge 7, 3) := by decide +kernel
theorem dX7_isArrival_131 : decode cX7_isArrival 131 = .ok (.iconst 1, 1) := by decide +kernel
theorem dX7_isArrival_132 : decode cX7_isArrival 132 = .ok (.goto 4, 3) := by decide +kernel
theorem dX7_isArrival_135 : decode cX7_isArrival 135 = .ok (.iconst 0, 1) := by decide +kernel
theorem dX7_isArrival_136 : decode cX7_isArrival 136 = .ok (.istore 4, 2) := by decide +kernel
theorem dX7_isArrival_138 : decode cX7_isArrival 138 = .ok (.iload_n 3, 1) := by decide +kernel
theorem dX7_isArrival_139 : decode cX7_isArrival 139 = .ok (.ifCond .ne 7, 3) := by decide +kernel
theorem dX7_isArrival_142 : decode cX7_isArrival 142 = .ok (.iconst 1, 1) := by decide +kernel
theorem dX7_isArrival_143 : decode cX7_isArrival 143 = .ok (.goto 4, 3) := by decide +kernel
theorem dX7_isArrival_146 : decode cX7_isArrival 146 = .ok (.iconst 0, 1) := by decide +kernel
theorem dX7_isArrival_147 : decode cX7_isArrival 147 = .ok (.istore_n 3, 1) := by decide +kernel
theorem dX7_isArrival_148 : decode cX7_isArrival 148 = .ok (.aload_n 0, 1) := by decide +kernel
theorem dX7_isArrival_149 : decode cX7_isArrival 149 = .ok (.dup, 1) := by decide +kernel
theorem dX7_isArrival_150 : decode cX7_isArrival 150 = .ok (.getfield 84, 3) := by decide +kernel
theorem dX7_isArrival_153 : decode cX7_isArrival 153 = .ok (.iload 4, 2) := by decide +kernel
theorem dX7_isArrival_155 : decode cX7_isArrival 155 = .ok (.ifCond .eq 7, 3) := by decide +kernel
theorem dX7_isArrival_158 : decode cX7_isArrival 158 = .ok (.iconst 1, 1) := by decide +kernel
theorem dX7_isArrival_159 : decode cX7_isArrival 159 = .ok (.goto 4, 3) := by decide +kernel
theorem dX7_isArrival_162 : decode cX7_isArrival 162 = .ok (.iconst 0, 1) := by decide +kernel
theorem dX7_isArrival_163 : decode cX7_isArrival 163 = .ok (.iadd, 1) := by decide +kernel
theorem dX7_isArrival_164 : decode cX7_isArrival 164 = .ok (.putfield 84, 3) := by decide +kernel
theorem dX7_isArrival_167 : decode cX7_isArrival 167 = .ok (.goto (-153), 3) := by decide +kernel
theorem dX7_isArrival_170 : decode cX7_isArrival 170 = .ok (.iload 4, 2) := by decide +kernel
theorem dX7_isArrival_172 : decode cX7_isArrival 172 = .ok (.ifCond .eq 11, 3) := by decide +kernel
theorem dX7_isArrival_175 : decode cX7_isArrival 175 = .ok (.iload_n 3, 1) := by decide +kernel
theorem dX7_isArrival_176 : decode cX7_isArrival 176 = .ok (.ifCond .ne 7, 3) := by decide +kernel
theorem dX7_isArrival_179 : decode cX7_isArrival 179 = .ok (.iconst 1, 1) := by decide +kernel
theorem dX7_isArrival_180 : decode cX7_isArrival 180 = .ok (.goto 4, 3) := by decide +kernel
theorem dX7_isArrival_183 : decode cX7_isArrival 183 = .ok (.iconst 0, 1) := by decide +kernel
theorem dX7_isArrival_184 : decode cX7_isArrival 184 = .ok (.ireturn, 1) := by decide +kernel
set_option maxRecDepth 20000 in
theorem ggX7_lays_X7_forgets : GoodIn wsX7_lays wsX7_forgets := goodIn_r _ [9, 3, 4, 22, 23, 24, 25, 26, 27, 28, 29, 30, 31] (by decide +kernel) (by decide +kernel)
set_option maxRecDepth 20000 in
theorem gX7_lays_X7_forgets : GoodIn wsX7_lays (wsV RX7 90 RX7 yX7_forgets wsX7_forgets) := goodIn_app (goodIn_of _ (by decide +kernel)) ggX7_lays_X7_forgets
set_option maxRecDepth 20000 in
theorem ggX7_lays_X7_runs : GoodIn wsX7_lays wsX7_runs := goodIn_r _ [13, 14, 15, 16, 17, 8, 18, 19, 20, 21, 22, 23, 24, 25, 26, 27, 28, 29, 30, 31] (by decide +kernel) (by decide +kernel)
set_option maxRecDepth 20000 in
theorem gX7_lays_X7_runs : GoodIn wsX7_lays (wsV RX7 93 RX7 yX7_runs wsX7_runs) := goodIn_app (goodIn_of _ (by decide +kernel)) ggX7_lays_X7_runs
theorem dX7_lays_0 : decode cX7_lays 0 = .ok (.aload_n 0, 1) := by decide +kernel
theorem dX7_lays_1 : decode cX7_lays 1 = .ok (.invokevirtual 90, 3) := by decide +kernel
theorem dX7_lays_4 : decode cX7_lays 4 = .ok (.iconst 1, 1) := by decide +kernel
theorem dX7_lays_5 : decode cX7_lays 5 = .ok (.istore_n 1, 1) := by decide +kernel
theorem dX7_lays_6 : decode cX7_lays 6 = .ok (.iconst 0, 1) := by decide +kernel
theorem dX7_lays_7 : decode cX7_lays 7 = .ok (.istore_n 2, 1) := by decide +kernel
theorem dX7_lays_8 : decode cX7_lays 8 = .ok (.iconst 0, 1) := by decide +kernel
theorem dX7_lays_9 : decode cX7_lays 9 = .ok (.istore_n 3, 1) := by decide +kernel
theorem dX7_lays_10 : decode cX7_lays 10 = .ok (.iload_n 2, 1) := by decide +kernel
theorem dX7_lays_11 : decode cX7_lays 11 = .ok (.aload_n 0, 1) := by decide +kernel
theorem dX7_lays_12 : decode cX7_lays 12 = .ok (.getfield 87, 3) := by decide +kernel
theorem dX7_lays_15 : decode cX7_lays 15 = .ok (.if_icmp .ge 138, 3) := by decide +kernel
theorem dX7_lays_18 : decode cX7_lays 18 = .ok (.iload_n 2, 1) := by decide +kernel
theorem dX7_lays_19 : decode cX7_lays 19 = .ok (.istore 4, 2) := by decide +kernel
theorem dX7_lays_21 : decode cX7_lays 21 = .ok (.iload 4, 2) := by decide +kernel
theorem dX7_lays_23 : decode cX7_lays 23 = .ok (.iconst 1, 1) := by decide +kernel
theorem dX7_lays_24 : decode cX7_lays 24 = .ok (.iadd, 1) := by decide +kernel
theorem dX7_lays_25 : decode cX7_lays 25 = .ok (.aload_n 0, 1) := by decide +kernel
theorem dX7_lays_26 : decode cX7_lays 26 = .ok (.getfield 87, 3) := by decide +kernel
theorem dX7_lays_29 : decode cX7_lays 29 = .ok (.if_icmp .ge 23, 3) := by decide +kernel
theorem dX7_lays_32 : decode cX7_lays 32 = .ok (.aload_n 0, 1) := by decide +kernel
theorem dX7_lays_33 : decode cX7_lays 33 = .ok (.getfield 17, 3) := by decide +kernel
theorem dX7_lays_36 : decode cX7_lays 36 = .ok (.iload 4, 2) := by decide +kernel
theorem dX7_lays_38 : decode cX7_lays 38 = .ok (.iconst 1, 1) := by decide +kernel
theorem dX7_lays_39 : decode cX7_lays 39 = .ok (.iadd, 1) := by decide +kernel
theorem dX7_lays_40 : decode cX7_lays 40 = .ok (.caload, 1) := by decide +kernel
theorem dX7_lays_41 : decode cX7_lays 41 = .ok (.bipush 61, 2) := by decide +kernel
theorem dX7_lays_43 : decode cX7_lays 43 = .ok (.if_icmp .ne 9, 3) := by decide +kernel
theorem dX7_lays_46 : decode cX7_lays 46 = .ok (.iinc 4 2, 3) := by decide +kernel
theorem dX7_lays_49 : decode cX7_lays 49 = .ok (.goto (-28), 3) := by decide +kernel
theorem dX7_lays_52 : decode cX7_lays 52 = .ok (.iload 4, 2) := by decide +kernel
theorem dX7_lays_54 : decode cX7_lays 54 = .ok (.iload_n 2, 1) := by decide +kernel
theorem dX7_lays_55 : decode cX7_lays 55 = .ok (.isub, 1) := by decide +kernel
theorem dX7_lays_56 : decode cX7_lays 56 = .ok (.iconst 2, 1) := by decide +kernel
theorem dX7_lays_57 : decode cX7_lays 57 = .ok (.idiv, 1) := by decide +kernel
theorem dX7_lays_58 : decode cX7_lays 58 = .ok (.iconst 1, 1) := by decide +kernel
theorem dX7_lays_59 : decode cX7_lays 59 = .ok (.iadd, 1) := by decide +kernel
theorem dX7_lays_60 : decode cX7_lays 60 = .ok (.istore 5, 2) := by decide +kernel
theorem dX7_lays_62 : decode cX7_lays 62 = .ok (.iload_n 2, 1) := by decide +kernel
theorem dX7_lays_63 : decode cX7_lays 63 = .ok (.istore 6, 2) := by decide +kernel
theorem dX7_lays_65 : decode cX7_lays 65 = .ok (.iload 6, 2) := by decide +kernel
theorem dX7_lays_67 : decode cX7_lays 67 = .ok (.iload 4, 2) := by decide +kernel
theorem dX7_lays_69 : decode cX7_lays 69 = .ok (.if_icmp .gt 71, 3) := by decide +kernel
theorem dX7_lays_72 : decode cX7_lays 72 = .ok (.aload_n 0, 1) := by decide +kernel
theorem dX7_lays_73 : decode cX7_lays 73 = .ok (.getfield 21, 3) := by decide +kernel
theorem dX7_lays_76 : decode cX7_lays 76 = .ok (.aload_n 0, 1) := by decide +kernel
theorem dX7_lays_77 : decode cX7_lays 77 = .ok (.getfield 17, 3) := by decide +kernel
theorem dX7_lays_80 : decode cX7_lays 80 = .ok (.iload 6, 2) := by decide +kernel
theorem dX7_lays_82 : decode cX7_lays 82 = .ok (.caload, 1) := by decide +kernel
theorem dX7_lays_83 : decode cX7_lays 83 = .ok (.bipush 97, 2) := by decide +kernel
theorem dX7_lays_85 : decode cX7_lays 85 = .ok (.isub, 1) := by decide +kernel
theorem dX7_lays_86 : decode cX7_lays 86 = .ok (.iload_n 3, 1) := by decide +kernel
theorem dX7_lays_87 : decode cX7_lays 87 = .ok (.iconst 1, 1) := by decide +kernel
theorem dX7_lays_88 : decode cX7_lays 88 = .ok (.iadd, 1) := by decide +kernel
theorem dX7_lays_89 : decode cX7_lays 89 = .ok (.iastore, 1) := by decide +kernel
theorem dX7_lays_90 : decode cX7_lays 90 = .ok (.aload_n 0, 1) := by decide +kernel
theorem dX7_lays_91 : decode cX7_lays 91 = .ok (.getfield 24, 3) := by decide +kernel
theorem dX7_lays_94 : decode cX7_lays 94 = .ok (.aload_n 0, 1) := by decide +kernel
theorem dX7_lays_95 : decode cX7_lays 95 = .ok (.getfield 17, 3) := by decide +kernel
theorem dX7_lays_98 : decode cX7_lays 98 = .ok (.iload 6, 2) := by decide +kernel
theorem dX7_lays_100 : decode cX7_lays 100 = .ok (.caload, 1) := by decide +kernel
theorem dX7_lays_101 : decode cX7_lays 101 = .ok (.bipush 97, 2) := by decide +kernel
theorem dX7_lays_103 : decode cX7_lays 103 = .ok (.isub, 1) := by decide +kernel
theorem dX7_lays_104 : decode cX7_lays 104 = .ok (.iload 5, 2) := by decide +kernel
theorem dX7_lays_106 : decode cX7_lays 106 = .ok (.iastore, 1) := by decide +kernel
theorem dX7_lays_107 : decode cX7_lays 107 = .ok (.iload_n 1, 1) := by decide +kernel
theorem dX7_lays_108 : decode cX7_lays 108 = .ok (.ifCond .eq 24, 3) := by decide +kernel
theorem dX7_lays_111 : decode cX7_lays 111 = .ok (.aload_n 0, 1) := by decide +kernel
theorem dX7_lays_112 : decode cX7_lays 112 = .ok (.aload_n 0, 1) := by decide +kernel
theorem dX7_lays_113 : decode cX7_lays 113 = .ok (.getfield 17, 3) := by decide +kernel
theorem dX7_lays_116 : decode cX7_lays 116 = .ok (.iload 6, 2) := by decide +kernel
theorem dX7_lays_118 : decode cX7_lays 118 = .ok (.caload, 1) := by decide +kernel
theorem dX7_lays_119 : decode cX7_lays 119 = .ok (.bipush 97, 2) := by decide +kernel
theorem dX7_lays_121 : decode cX7_lays 121 = .ok (.isub, 1) := by decide +kernel
theorem dX7_lays_122 : decode cX7_lays 122 = .ok (.invokevirtual 93, 3) := by decide +kernel
theorem dX7_lays_125 : decode cX7_lays 125 = .ok (.ifCond .eq 7, 3) := by decide +kernel
theorem dX7_lays_128 : decode cX7_lays 128 = .ok (.iconst 1, 1) := by decide +kernel
theorem dX7_lays_129 : decode cX7_lays 129 = .ok (.goto 4, 3) := by decide +kernel
theorem dX7_lays_132 : decode cX7_lays 132 = .ok (.iconst 0, 1) := by decide +kernel
theorem dX7_lays_133 : decode cX7_lays 133 = .ok (.istore_n 1, 1) := by decide +kernel
theorem dX7_lays_134 : decode cX7_lays 134 = .ok (.iinc 6 2, 3) := by decide +kernel
theorem dX7_lays_137 : decode cX7_lays 137 = .ok (.goto (-72), 3) := by decide +kernel
theorem dX7_lays_140 : decode cX7_lays 140 = .ok (.iload_n 3, 1) := by decide +kernel
theorem dX7_lays_141 : decode cX7_lays 141 = .ok (.iload 5, 2) := by decide +kernel
theorem dX7_lays_143 : decode cX7_lays 143 = .ok (.iadd, 1) := by decide +kernel
theorem dX7_lays_144 : decode cX7_lays 144 = .ok (.istore_n 3, 1) := by decide +kernel
theorem dX7_lays_145 : decode cX7_lays 145 = .ok (.iload 4, 2) := by decide +kernel
theorem dX7_lays_147 : decode cX7_lays 147 = .ok (.iconst 2, 1) := by decide +kernel
theorem dX7_lays_148 : decode cX7_lays 148 = .ok (.iadd, 1) := by decide +kernel
theorem dX7_lays_149 : decode cX7_lays 149 = .ok (.istore_n 2, 1) := by decide +kernel
theorem dX7_lays_150 : decode cX7_lays 150 = .ok (.goto (-140), 3) := by decide +kernel
theorem dX7_lays_153 : decode cX7_lays 153 = .ok (.iload_n 1, 1) := by decide +kernel
theorem dX7_lays_154 : decode cX7_lays 154 = .ok (.ireturn, 1) := by decide +kernel
set_option maxRecDepth 20000 in
theorem ggX7_horse_X7_isPrice : GoodIn wsX7_horse wsX7_isPrice := goodIn_r _ [5, 6, 7, 4, 8] (by decide +kernel) (by decide +kernel)
set_option maxRecDepth 20000 in
theorem gX7_horse_X7_isPrice : GoodIn wsX7_horse (va_wsS RX7 96 yX7_isPrice wsX7_isPrice) := goodIn_app (goodIn_of _ (by decide +kernel)) ggX7_horse_X7_isPrice
set_option maxRecDepth 20000 in
theorem ggX7_horse_X7_isOpen : GoodIn wsX7_horse wsX7_isOpen := goodIn_r _ [12, 1, 27, 28, 29, 30, 31, 32, 33, 34, 35, 36] (by decide +kernel) (by decide +kernel)
set_option maxRecDepth 20000 in
theorem gX7_horse_X7_isOpen : GoodIn wsX7_horse (wsV RX7 100 RX7 yX7_isOpen wsX7_isOpen) := goodIn_app (goodIn_of _ (by decide +kernel)) ggX7_horse_X7_isOpen
set_option maxRecDepth 20000 in
theorem ggX7_horse_X7_goes : GoodIn wsX7_horse wsX7_goes := goodIn_r _ [16, 17, 27, 28, 29, 30, 31, 32, 33, 34, 35, 36] (by decide +kernel) (by decide +kernel)
set_option maxRecDepth 20000 in
theorem gX7_horse_X7_goes : GoodIn wsX7_horse (wsV RX7 104 RX7 yX7_goes wsX7_goes) := goodIn_app (goodIn_of _ (by decide +kernel)) ggX7_horse_X7_goes
set_option maxRecDepth 20000 in
theorem ggX7_horse_X7_saves : GoodIn wsX7_horse wsX7_saves := goodIn_r _ [21, 22, 23, 24, 25, 4, 26, 1, 27, 28, 29, 30, 31, 32, 33, 34, 35, 36] (by decide +kernel) (by decide +kernel)
set_option maxRecDepth 20000 in
theorem gX7_horse_X7_saves : GoodIn wsX7_horse (wsV RX7 108 RX7 yX7_saves wsX7_saves) := goodIn_app (goodIn_of _ (by decide +kernel)) ggX7_horse_X7_saves
theorem dX7_horse_0 : decode cX7_horse 0 = .ok (.aload_n 0, 1) := by decide +kernel
theorem dX7_horse_1 : decode cX7_horse 1 = .ok (.iload_n 1, 1) := by decide +kernel
theorem dX7_horse_2 : decode cX7_horse 2 = .ok (.iload_n 2, 1) := by decide +kernel
theorem dX7_horse_3 : decode cX7_horse 3 = .ok (.invokestatic 96, 3) := by decide +kernel
theorem dX7_horse_6 : decode cX7_horse 6 = .ok (.aload_n 0, 1) := by decide +kernel
theorem dX7_horse_7 : decode cX7_horse 7 = .ok (.getfield 7, 3) := by decide +kernel
theorem dX7_horse_10 : decode cX7_horse 10 = .ok (.iconst 0, 1) := by decide +kernel
theorem dX7_horse_11 : decode cX7_horse 11 = .ok (.iaload, 1) := by decide +kernel
theorem dX7_horse_12 : decode cX7_horse 12 = .ok (.bipush 10, 2) := by decide +kernel
theorem dX7_horse_14 : decode cX7_horse 14 = .ok (.if_icmp .ge 14, 3) := by decide +kernel
theorem dX7_horse_17 : decode cX7_horse 17 = .ok (.aload_n 0, 1) := by decide +kernel
theorem dX7_horse_18 : decode cX7_horse 18 = .ok (.invokevirtual 100, 3) := by decide +kernel
theorem dX7_horse_21 : decode cX7_horse 21 = .ok (.ifCond .eq 7, 3) := by decide +kernel
theorem dX7_horse_24 : decode cX7_horse 24 = .ok (.iconst 1, 1) := by decide +kernel
theorem dX7_horse_25 : decode cX7_horse 25 = .ok (.goto 4, 3) := by decide +kernel
theorem dX7_horse_28 : decode cX7_horse 28 = .ok (.iconst 0, 1) := by decide +kernel
theorem dX7_horse_29 : decode cX7_horse 29 = .ok (.iconst 1, 1) := by decide +kernel
theorem dX7_horse_30 : decode cX7_horse 30 = .ok (.invokevirtual 104, 3) := by decide +kernel
theorem dX7_horse_33 : decode cX7_horse 33 = .ok (.ifCond .ne 5, 3) := by decide +kernel
theorem dX7_horse_36 : decode cX7_horse 36 = .ok (.iconst 0, 1) := by decide +kernel
theorem dX7_horse_37 : decode cX7_horse 37 = .ok (.ireturn, 1) := by decide +kernel
theorem dX7_horse_38 : decode cX7_horse 38 = .ok (.aload_n 0, 1) := by decide +kernel
theorem dX7_horse_39 : decode cX7_horse 39 = .ok (.invokevirtual 108, 3) := by decide +kernel
theorem dX7_horse_42 : decode cX7_horse 42 = .ok (.aload_n 0, 1) := by decide +kernel
theorem dX7_horse_43 : decode cX7_horse 43 = .ok (.getfield 7, 3) := by decide +kernel
theorem dX7_horse_46 : decode cX7_horse 46 = .ok (.iconst 0, 1) := by decide +kernel
theorem dX7_horse_47 : decode cX7_horse 47 = .ok (.iaload, 1) := by decide +kernel
theorem dX7_horse_48 : decode cX7_horse 48 = .ok (.istore_n 3, 1) := by decide +kernel
theorem dX7_horse_49 : decode cX7_horse 49 = .ok (.aload_n 0, 1) := by decide +kernel
theorem dX7_horse_50 : decode cX7_horse 50 = .ok (.getfield 7, 3) := by decide +kernel
theorem dX7_horse_53 : decode cX7_horse 53 = .ok (.bipush 6, 2) := by decide +kernel
theorem dX7_horse_55 : decode cX7_horse 55 = .ok (.iload_n 3, 1) := by decide +kernel
theorem dX7_horse_56 : decode cX7_horse 56 = .ok (.iadd, 1) := by decide +kernel
theorem dX7_horse_57 : decode cX7_horse 57 = .ok (.iload_n 1, 1) := by decide +kernel
theorem dX7_horse_58 : decode cX7_horse 58 = .ok (.iastore, 1) := by decide +kernel
theorem dX7_horse_59 : decode cX7_horse 59 = .ok (.aload_n 0, 1) := by decide +kernel
theorem dX7_horse_60 : decode cX7_horse 60 = .ok (.getfield 7, 3) := by decide +kernel
theorem dX7_horse_63 : decode cX7_horse 63 = .ok (.bipush 16, 2) := by decide +kernel
theorem dX7_horse_65 : decode cX7_horse 65 = .ok (.iload_n 3, 1) := by decide +kernel
theorem dX7_horse_66 : decode cX7_horse 66 = .ok (.iadd, 1) := by decide +kernel
theorem dX7_horse_67 : decode cX7_horse 67 = .ok (.iload_n 2, 1) := by decide +kernel
theorem dX7_horse_68 : decode cX7_horse 68 = .ok (.iastore, 1) := by decide +kernel
theorem dX7_horse_69 : decode cX7_horse 69 = .ok (.aload_n 0, 1) := by decide +kernel
theorem dX7_horse_70 : decode cX7_horse 70 = .ok (.getfield 7, 3) := by decide +kernel
theorem dX7_horse_73 : decode cX7_horse 73 = .ok (.bipush 26, 2) := by decide +kernel
theorem dX7_horse_75 : decode cX7_horse 75 = .ok (.iload_n 3, 1) := by decide +kernel
theorem dX7_horse_76 : decode cX7_horse 76 = .ok (.iadd, 1) := by decide +kernel
theorem dX7_horse_77 : decode cX7_horse 77 = .ok (.iconst 1, 1) := by decide +kernel
theorem dX7_horse_78 : decode cX7_horse 78 = .ok (.iastore, 1) := by decide +kernel
theorem dX7_horse_79 : decode cX7_horse 79 = .ok (.aload_n 0, 1) := by decide +kernel
theorem dX7_horse_80 : decode cX7_horse 80 = .ok (.getfield 7, 3) := by decide +kernel
theorem dX7_horse_83 : decode cX7_horse 83 = .ok (.iconst 0, 1) := by decide +kernel
theorem dX7_horse_84 : decode cX7_horse 84 = .ok (.dup2, 1) := by decide +kernel
theorem dX7_horse_85 : decode cX7_horse 85 = .ok (.iaload, 1) := by decide +kernel
theorem dX7_horse_86 : decode cX7_horse 86 = .ok (.iconst 1, 1) := by decide +kernel
theorem dX7_horse_87 : decode cX7_horse 87 = .ok (.iadd, 1) := by decide +kernel
theorem dX7_horse_88 : decode cX7_horse 88 = .ok (.iastore, 1) := by decide +kernel
theorem dX7_horse_89 : decode cX7_horse 89 = .ok (.iload_n 3, 1) := by decide +kernel
theorem dX7_horse_90 : decode cX7_horse 90 = .ok (.ireturn, 1) := by decide +kernel
set_option maxRecDepth 20000 in
theorem ggX7_betsOn_X7_of : GoodIn wsX7_betsOn wsX7_of := goodIn_r _ [5] (by decide +kernel) (by decide +kernel)
set_option maxRecDepth 20000 in
theorem gX7_betsOn_X7_of : GoodIn wsX7_betsOn (va_wsS RX7 54 yX7_of wsX7_of) := goodIn_app (goodIn_of _ (by decide +kernel)) ggX7_betsOn_X7_of
theorem dX7_betsOn_0 : decode cX7_betsOn 0 = .ok (.iconst 0, 1) := by decide +kernel
theorem dX7_betsOn_1 : decode cX7_betsOn 1 = .ok (.istore_n 2, 1) := by decide +kernel
theorem dX7_betsOn_2 : decode cX7_betsOn 2 = .ok (.iconst 0, 1) := by decide +kernel
theorem dX7_betsOn_3 : decode cX7_betsOn 3 = .ok (.istore_n 3, 1) := by decide +kernel
theorem dX7_betsOn_4 : decode cX7_betsOn 4 = .ok (.iload_n 3, 1) := by decide +kernel
theorem dX7_betsOn_5 : decode cX7_betsOn 5 = .ok (.aload_n 0, 1) := by decide +kernel
theorem dX7_betsOn_6 : decode cX7_betsOn 6 = .ok (.getfield 7, 3) := by decide +kernel
theorem dX7_betsOn_9 : decode cX7_betsOn 9 = .ok (.iconst 1, 1) := by decide +kernel
theorem dX7_betsOn_10 : decode cX7_betsOn 10 = .ok (.iaload, 1) := by decide +kernel
theorem dX7_betsOn_11 : decode cX7_betsOn 11 = .ok (.if_icmp .ge 31, 3) := by decide +kernel
theorem dX7_betsOn_14 : decode cX7_betsOn 14 = .ok (.iload_n 2, 1) := by decide +kernel
theorem dX7_betsOn_15 : decode cX7_betsOn 15 = .ok (.aload_n 0, 1) := by decide +kernel
theorem dX7_betsOn_16 : decode cX7_betsOn 16 = .ok (.getfield 7, 3) := by decide +kernel
theorem dX7_betsOn_19 : decode cX7_betsOn 19 = .ok (.iload_n 3, 1) := by decide +kernel
theorem dX7_betsOn_20 : decode cX7_betsOn 20 = .ok (.iconst 0, 1) := by decide +kernel
theorem dX7_betsOn_21 : decode cX7_betsOn 21 = .ok (.invokestatic 54, 3) := by decide +kernel
theorem dX7_betsOn_24 : decode cX7_betsOn 24 = .ok (.iaload, 1) := by decide +kernel
theorem dX7_betsOn_25 : decode cX7_betsOn 25 = .ok (.iload_n 1, 1) := by decide +kernel
theorem dX7_betsOn_26 : decode cX7_betsOn 26 = .ok (.if_icmp .ne 7, 3) := by decide +kernel
theorem dX7_betsOn_29 : decode cX7_betsOn 29 = .ok (.iconst 1, 1) := by decide +kernel
theorem dX7_betsOn_30 : decode cX7_betsOn 30 = .ok (.goto 4, 3) := by decide +kernel
theorem dX7_betsOn_33 : decode cX7_betsOn 33 = .ok (.iconst 0, 1) := by decide +kernel
theorem dX7_betsOn_34 : decode cX7_betsOn 34 = .ok (.iadd, 1) := by decide +kernel
theorem dX7_betsOn_35 : decode cX7_betsOn 35 = .ok (.istore_n 2, 1) := by decide +kernel
theorem dX7_betsOn_36 : decode cX7_betsOn 36 = .ok (.iinc 3 1, 3) := by decide +kernel
theorem dX7_betsOn_39 : decode cX7_betsOn 39 = .ok (.goto (-35), 3) := by decide +kernel
theorem dX7_betsOn_42 : decode cX7_betsOn 42 = .ok (.iload_n 2, 1) := by decide +kernel
theorem dX7_betsOn_43 : decode cX7_betsOn 43 = .ok (.ireturn, 1) := by decide +kernel
set_option maxRecDepth 20000 in
theorem ggX7_price_X7_isHorse : GoodIn wsX7_price wsX7_isHorse := goodIn_r _ [6, 1, 7, 8, 5, 9, 42, 43, 44, 45, 46, 47, 48, 49, 50, 51] (by decide +kernel) (by decide +kernel)
set_option maxRecDepth 20000 in
theorem gX7_price_X7_isHorse : GoodIn wsX7_price (wsV RX7 42 RX7 yX7_isHorse wsX7_isHorse) := goodIn_app (goodIn_of _ (by decide +kernel)) ggX7_price_X7_isHorse
set_option maxRecDepth 20000 in
theorem ggX7_price_X7_isPrice : GoodIn wsX7_price wsX7_isPrice := goodIn_r _ [12, 7, 8, 5, 9] (by decide +kernel) (by decide +kernel)
set_option maxRecDepth 20000 in
theorem gX7_price_X7_isPrice : GoodIn wsX7_price (va_wsS RX7 96 yX7_isPrice wsX7_isPrice) := goodIn_app (goodIn_of _ (by decide +kernel)) ggX7_price_X7_isPrice
set_option maxRecDepth 20000 in
theorem ggX7_price_X7_runs : GoodIn wsX7_price wsX7_runs := goodIn_r _ [16, 1, 2, 3, 4, 5, 6, 7, 8, 9, 42, 43, 44, 45, 46, 47, 48, 49, 50, 51] (by decide +kernel) (by decide +kernel)
set_option maxRecDepth 20000 in
theorem gX7_price_X7_runs : GoodIn wsX7_price (wsV RX7 93 RX7 yX7_runs wsX7_runs) := goodIn_app (goodIn_of _ (by decide +kernel)) ggX7_price_X7_runs
set_option maxRecDepth 20000 in
theorem ggX7_price_X7_isOpen : GoodIn wsX7_price wsX7_isOpen := goodIn_r _ [20, 1, 42, 43, 44, 45, 46, 47, 48, 49, 50, 51] (by decide +kernel) (by decide +kernel)
set_option maxRecDepth 20000 in
theorem gX7_price_X7_isOpen : GoodIn wsX7_price (wsV RX7 100 RX7 yX7_isOpen wsX7_isOpen) := goodIn_app (goodIn_of _ (by decide +kernel)) ggX7_price_X7_isOpen
set_option maxRecDepth 20000 in
theorem ggX7_price_X7_goes : GoodIn wsX7_price wsX7_goes := goodIn_r _ [24, 25, 42, 43, 44, 45, 46, 47, 48, 49, 50, 51] (by decide +kernel) (by decide +kernel)
set_option maxRecDepth 20000 in
theorem gX7_price_X7_goes : GoodIn wsX7_price (wsV RX7 104 RX7 yX7_goes wsX7_goes) := goodIn_app (goodIn_of _ (by decide +kernel)) ggX7_price_X7_goes
set_option maxRecDepth 20000 in
theorem ggX7_price_X7_saves : GoodIn wsX7_price wsX7_saves := goodIn_r _ [29, 30, 31, 32, 33, 5, 34, 1, 42, 43, 44, 45, 46, 47, 48, 49, 50, 51] (by decide +kernel) (by decide +kernel)
set_option maxRecDepth 20000 in
theorem gX7_price_X7_saves : GoodIn wsX7_price (wsV RX7 108 RX7 yX7_saves wsX7_saves) := goodIn_app (goodIn_of _ (by decide +kernel)) ggX7_price_X7_saves
set_option maxRecDepth 20000 in
theorem ggX7_price_X7_betsOn : GoodIn wsX7_price wsX7_betsOn := goodIn_r _ [38, 1, 39, 40, 5, 41, 42, 43, 44, 45, 46, 47, 48, 49, 50, 51] (by decide +kernel) (by decide +kernel)
set_option maxRecDepth 20000 in
theorem gX7_price_X7_betsOn : GoodIn wsX7_price (wsV RX7 111 RX7 yX7_betsOn wsX7_betsOn) := goodIn_app (goodIn_of _ (by decide +kernel)) ggX7_price_X7_betsOn
theorem dX7_price_0 : decode cX7_price 0 = .ok (.aload_n 0, 1) := by decide +kernel
theorem dX7_price_1 : decode cX7_price 1 = .ok (.aload_n 0, 1) := by decide +kernel
theorem dX7_price_2 : decode cX7_price 2 = .ok (.iload_n 1, 1) := by decide +kernel
theorem dX7_price_3 : decode cX7_price 3 = .ok (.invokevirtual 42, 3) := by decide +kernel
theorem dX7_price_6 : decode cX7_price 6 = .ok (.iload_n 2, 1) := by decide +kernel
theorem dX7_price_7 : decode cX7_price 7 = .ok (.iload_n 3, 1) := by decide +kernel
theorem dX7_price_8 : decode cX7_price 8 = .ok (.invokestatic 96, 3) := by decide +kernel
theorem dX7_price_11 : decode cX7_price 11 = .ok (.aload_n 0, 1) := by decide +kernel
theorem dX7_price_12 : decode cX7_price 12 = .ok (.iload_n 1, 1) := by decide +kernel
theorem dX7_price_13 : decode cX7_price 13 = .ok (.invokevirtual 93, 3) := by decide +kernel
theorem dX7_price_16 : decode cX7_price 16 = .ok (.ifCond .eq 14, 3) := by decide +kernel
theorem dX7_price_19 : decode cX7_price 19 = .ok (.aload_n 0, 1) := by decide +kernel
theorem dX7_price_20 : decode cX7_price 20 = .ok (.invokevirtual 100, 3) := by decide +kernel
theorem dX7_price_23 : decode cX7_price 23 = .ok (.ifCond .eq 7, 3) := by decide +kernel
theorem dX7_price_26 : decode cX7_price 26 = .ok (.iconst 1, 1) := by decide +kernel
theorem dX7_price_27 : decode cX7_price 27 = .ok (.goto 4, 3) := by decide +kernel
theorem dX7_price_30 : decode cX7_price 30 = .ok (.iconst 0, 1) := by decide +kernel
theorem dX7_price_31 : decode cX7_price 31 = .ok (.invokevirtual 104, 3) := by decide +kernel
theorem dX7_price_34 : decode cX7_price 34 = .ok (.ifCond .ne 5, 3) := by decide +kernel
theorem dX7_price_37 : decode cX7_price 37 = .ok (.iconst 0, 1) := by decide +kernel
theorem dX7_price_38 : decode cX7_price 38 = .ok (.ireturn, 1) := by decide +kernel
theorem dX7_price_39 : decode cX7_price 39 = .ok (.aload_n 0, 1) := by decide +kernel
theorem dX7_price_40 : decode cX7_price 40 = .ok (.invokevirtual 108, 3) := by decide +kernel
theorem dX7_price_43 : decode cX7_price 43 = .ok (.aload_n 0, 1) := by decide +kernel
theorem dX7_price_44 : decode cX7_price 44 = .ok (.getfield 7, 3) := by decide +kernel
theorem dX7_price_47 : decode cX7_price 47 = .ok (.bipush 6, 2) := by decide +kernel
theorem dX7_price_49 : decode cX7_price 49 = .ok (.iload_n 1, 1) := by decide +kernel
theorem dX7_price_50 : decode cX7_price 50 = .ok (.iadd, 1) := by decide +kernel
theorem dX7_price_51 : decode cX7_price 51 = .ok (.iload_n 2, 1) := by decide +kernel
theorem dX7_price_52 : decode cX7_price 52 = .ok (.iastore, 1) := by decide +kernel
theorem dX7_price_53 : decode cX7_price 53 = .ok (.aload_n 0, 1) := by decide +kernel
theorem dX7_price_54 : decode cX7_price 54 = .ok (.getfield 7, 3) := by decide +kernel
theorem dX7_price_57 : decode cX7_price 57 = .ok (.bipush 16, 2) := by decide +kernel
theorem dX7_price_59 : decode cX7_price 59 = .ok (.iload_n 1, 1) := by decide +kernel
theorem dX7_price_60 : decode cX7_price 60 = .ok (.iadd, 1) := by decide +kernel
theorem dX7_price_61 : decode cX7_price 61 = .ok (.iload_n 3, 1) := by decide +kernel
theorem dX7_price_62 : decode cX7_price 62 = .ok (.iastore, 1) := by decide +kernel
theorem dX7_price_63 : decode cX7_price 63 = .ok (.aload_n 0, 1) := by decide +kernel
theorem dX7_price_64 : decode cX7_price 64 = .ok (.iload_n 1, 1) := by decide +kernel
theorem dX7_price_65 : decode cX7_price 65 = .ok (.invokevirtual 111, 3) := by decide +kernel
theorem dX7_price_68 : decode cX7_price 68 = .ok (.ireturn, 1) := by decide +kernel
set_option maxRecDepth 20000 in
theorem ggX7_take_X7_isHorse : GoodIn wsX7_take wsX7_isHorse := goodIn_r _ [6, 1, 7, 8, 5, 9, 35, 36, 37, 38, 39, 40, 41, 42, 43, 44] (by decide +kernel) (by decide +kernel)
set_option maxRecDepth 20000 in
theorem gX7_take_X7_isHorse : GoodIn wsX7_take (wsV RX7 42 RX7 yX7_isHorse wsX7_isHorse) := goodIn_app (goodIn_of _ (by decide +kernel)) ggX7_take_X7_isHorse
set_option maxRecDepth 20000 in
theorem ggX7_take_X7_in : GoodIn wsX7_take wsX7_in := goodIn_r _ [9] (by decide +kernel) (by decide +kernel)
set_option maxRecDepth 20000 in
theorem gX7_take_X7_in : GoodIn wsX7_take (va_wsS RX7 38 yX7_in wsX7_in) := goodIn_app (goodIn_of _ (by decide +kernel)) ggX7_take_X7_in
set_option maxRecDepth 20000 in
theorem ggX7_take_X7_runs : GoodIn wsX7_take wsX7_runs := goodIn_r _ [13, 1, 2, 3, 4, 5, 6, 7, 8, 9, 35, 36, 37, 38, 39, 40, 41, 42, 43, 44] (by decide +kernel) (by decide +kernel)
set_option maxRecDepth 20000 in
theorem gX7_take_X7_runs : GoodIn wsX7_take (wsV RX7 93 RX7 yX7_runs wsX7_runs) := goodIn_app (goodIn_of _ (by decide +kernel)) ggX7_take_X7_runs
set_option maxRecDepth 20000 in
theorem ggX7_take_X7_isOpen : GoodIn wsX7_take wsX7_isOpen := goodIn_r _ [17, 1, 35, 36, 37, 38, 39, 40, 41, 42, 43, 44] (by decide +kernel) (by decide +kernel)
set_option maxRecDepth 20000 in
theorem gX7_take_X7_isOpen : GoodIn wsX7_take (wsV RX7 100 RX7 yX7_isOpen wsX7_isOpen) := goodIn_app (goodIn_of _ (by decide +kernel)) ggX7_take_X7_isOpen
set_option maxRecDepth 20000 in
theorem ggX7_take_X7_goes : GoodIn wsX7_take wsX7_goes := goodIn_r _ [21, 22, 35, 36, 37, 38, 39, 40, 41, 42, 43, 44] (by decide +kernel) (by decide +kernel)
set_option maxRecDepth 20000 in
theorem gX7_take_X7_goes : GoodIn wsX7_take (wsV RX7 104 RX7 yX7_goes wsX7_goes) := goodIn_app (goodIn_of _ (by decide +kernel)) ggX7_take_X7_goes
set_option maxRecDepth 20000 in
theorem ggX7_take_X7_saves : GoodIn wsX7_take wsX7_saves := goodIn_r _ [26, 27, 28, 29, 30, 5, 31, 1, 35, 36, 37, 38, 39, 40, 41, 42, 43, 44] (by decide +kernel) (by decide +kernel)
set_option maxRecDepth 20000 in
theorem gX7_take_X7_saves : GoodIn wsX7_take (wsV RX7 108 RX7 yX7_saves wsX7_saves) := goodIn_app (goodIn_of _ (by decide +kernel)) ggX7_take_X7_saves
set_option maxRecDepth 20000 in
theorem ggX7_take_X7_of : GoodIn wsX7_take wsX7_of := goodIn_r _ [34] (by decide +kernel) (by decide +kernel)
set_option maxRecDepth 20000 in
theorem gX7_take_X7_of : GoodIn wsX7_take (va_wsS RX7 54 yX7_of wsX7_of) := goodIn_app (goodIn_of _ (by decide +kernel)) ggX7_take_X7_of
theorem dX7_take_0 : decode cX7_take 0 = .ok (.aload_n 0, 1) := by decide +kernel
theorem dX7_take_1 : decode cX7_take 1 = .ok (.aload_n 0, 1) := by decide +kernel
theorem dX7_take_2 : decode cX7_take 2 = .ok (.iload_n 1, 1) := by decide +kernel
theorem dX7_take_3 : decode cX7_take 3 = .ok (.invokevirtual 42, 3) := by decide +kernel
theorem dX7_take_6 : decode cX7_take 6 = .ok (.iload_n 2, 1) := by decide +kernel
theorem dX7_take_7 : decode cX7_take 7 = .ok (.iconst 1, 1) := by decide +kernel
theorem dX7_take_8 : decode cX7_take 8 = .ok (.sipush 9999, 3) := by decide +kernel
theorem dX7_take_11 : decode cX7_take 11 = .ok (.invokestatic 38, 3) := by decide +kernel
theorem dX7_take_14 : decode cX7_take 14 = .ok (.aload_n 0, 1) := by decide +kernel
theorem dX7_take_15 : decode cX7_take 15 = .ok (.iload_n 1, 1) := by decide +kernel
theorem dX7_take_16 : decode cX7_take 16 = .ok (.invokevirtual 93, 3) := by decide +kernel
theorem dX7_take_19 : decode cX7_take 19 = .ok (.ifCond .eq 25, 3) := by decide +kernel
theorem dX7_take_22 : decode cX7_take 22 = .ok (.aload_n 0, 1) := by decide +kernel
theorem dX7_take_23 : decode cX7_take 23 = .ok (.getfield 7, 3) := by decide +kernel
theorem dX7_take_26 : decode cX7_take 26 = .ok (.iconst 1, 1) := by decide +kernel
theorem dX7_take_27 : decode cX7_take 27 = .ok (.iaload, 1) := by decide +kernel
theorem dX7_take_28 : decode cX7_take 28 = .ok (.bipush 24, 2) := by decide +kernel
theorem dX7_take_30 : decode cX7_take 30 = .ok (.if_icmp .ge 14, 3) := by decide +kernel
theorem dX7_take_33 : decode cX7_take 33 = .ok (.aload_n 0, 1) := by decide +kernel
theorem dX7_take_34 : decode cX7_take 34 = .ok (.invokevirtual 100, 3) := by decide +kernel
theorem dX7_take_37 : decode cX7_take 37 = .ok (.ifCond .eq 7, 3) := by decide +kernel
theorem dX7_take_40 : decode cX7_take 40 = .ok (.iconst 1, 1) := by decide +kernel
theorem dX7_take_41 : decode cX7_take 41 = .ok (.goto 4, 3) := by decide +kernel
theorem dX7_take_44 : decode cX7_take 44 = .ok (.iconst 0, 1) := by decide +kernel
theorem dX7_take_45 : decode cX7_take 45 = .ok (.invokevirtual 104, 3) := by decide +kernel
theorem dX7_take_48 : decode cX7_take 48 = .ok (.ifCond .ne 5, 3) := by decide +kernel
theorem dX7_take_51 : decode cX7_take 51 = .ok (.iconst 0, 1) := by decide +kernel
theorem dX7_take_52 : decode cX7_take 52 = .ok (.ireturn, 1) := by decide +kernel
theorem dX7_take_53 : decode cX7_take 53 = .ok (.aload_n 0, 1) := by decide +kernel
theorem dX7_take_54 : decode cX7_take 54 = .ok (.invokevirtual 108, 3) := by decide +kernel
theorem dX7_take_57 : decode cX7_take 57 = .ok (.aload_n 0, 1) := by decide +kernel
theorem dX7_take_58 : decode cX7_take 58 = .ok (.getfield 7, 3) := by decide +kernel
theorem dX7_take_61 : decode cX7_take 61 = .ok (.iconst 1, 1) := by decide +kernel
theorem dX7_take_62 : decode cX7_take 62 = .ok (.iaload, 1) := by decide +kernel
theorem dX7_take_63 : decode cX7_take 63 = .ok (.istore 4, 2) := by decide +kernel
theorem dX7_take_65 : decode cX7_take 65 = .ok (.aload_n 0, 1) := by decide +kernel
theorem dX7_take_66 : decode cX7_take 66 = .ok (.getfield 7, 3) := by decide +kernel
theorem dX7_take_69 : decode cX7_take 69 = .ok (.iload 4, 2) := by decide +kernel
theorem dX7_take_71 : decode cX7_take 71 = .ok (.iconst 0, 1) := by decide +kernel
theorem dX7_take_72 : decode cX7_take 72 = .ok (.invokestatic 54, 3) := by decide +kernel
theorem dX7_take_75 : decode cX7_take 75 = .ok (.iload_n 1, 1) := by decide +kernel
theorem dX7_take_76 : decode cX7_take 76 = .ok (.iastore, 1) := by decide +kernel
theorem dX7_take_77 : decode cX7_take 77 = .ok (.aload_n 0, 1) := by decide +kernel
theorem dX7_take_78 : decode cX7_take 78 = .ok (.getfield 7, 3) := by decide +kernel
theorem dX7_take_81 : decode cX7_take 81 = .ok (.iload 4, 2) := by decide +kernel
theorem dX7_take_83 : decode cX7_take 83 = .ok (.iconst 1, 1) := by decide +kernel
theorem dX7_take_84 : decode cX7_take 84 = .ok (.invokestatic 54, 3) := by decide +kernel
theorem dX7_take_87 : decode cX7_take 87 = .ok (.iload_n 2, 1) := by decide +kernel
theorem dX7_take_88 : decode cX7_take 88 = .ok (.iastore, 1) := by decide +kernel
theorem dX7_take_89 : decode cX7_take 89 = .ok (.aload_n 0, 1) := by decide +kernel
theorem dX7_take_90 : decode cX7_take 90 = .ok (.getfield 7, 3) := by decide +kernel
theorem dX7_take_93 : decode cX7_take 93 = .ok (.iload 4, 2) := by decide +kernel
theorem dX7_take_95 : decode cX7_take 95 = .ok (.iconst 2, 1) := by decide +kernel
theorem dX7_take_96 : decode cX7_take 96 = .ok (.invokestatic 54, 3) := by decide +kernel
theorem dX7_take_99 : decode cX7_take 99 = .ok (.iload_n 3, 1) := by decide +kernel
theorem dX7_take_100 : decode cX7_take 100 = .ok (.ifCond .eq 7, 3) := by decide +kernel
theorem dX7_take_103 : decode cX7_take 103 = .ok (.iconst 1, 1) := by decide +kernel
theorem dX7_take_104 : decode cX7_take 104 = .ok (.goto 4, 3) := by decide +kernel
theorem dX7_take_107 : decode cX7_take 107 = .ok (.iconst 0, 1) := by decide +kernel
theorem dX7_take_108 : decode cX7_take 108 = .ok (.iastore, 1) := by decide +kernel
theorem dX7_take_109 : decode cX7_take 109 = .ok (.aload_n 0, 1) := by decide +kernel
theorem dX7_take_110 : decode cX7_take 110 = .ok (.getfield 7, 3) := by decide +kernel
theorem dX7_take_113 : decode cX7_take 113 = .ok (.iload 4, 2) := by decide +kernel
theorem dX7_take_115 : decode cX7_take 115 = .ok (.iconst 3, 1) := by decide +kernel
theorem dX7_take_116 : decode cX7_take 116 = .ok (.invokestatic 54, 3) := by decide +kernel
theorem dX7_take_119 : decode cX7_take 119 = .ok (.aload_n 0, 1) := by decide +kernel
theorem dX7_take_120 : decode cX7_take 120 = .ok (.getfield 7, 3) := by decide +kernel
theorem dX7_take_123 : decode cX7_take 123 = .ok (.bipush 6, 2) := by decide +kernel
theorem dX7_take_125 : decode cX7_take 125 = .ok (.iload_n 1, 1) := by decide +kernel
theorem dX7_take_126 : decode cX7_take 126 = .ok (.iadd, 1) := by decide +kernel
theorem dX7_take_127 : decode cX7_take 127 = .ok (.iaload, 1) := by decide +kernel
theorem dX7_take_128 : decode cX7_take 128 = .ok (.iastore, 1) := by decide +kernel
theorem dX7_take_129 : decode cX7_take 129 = .ok (.aload_n 0, 1) := by decide +kernel
theorem dX7_take_130 : decode cX7_take 130 = .ok (.getfield 7, 3) := by decide +kernel
theorem dX7_take_133 : decode cX7_take 133 = .ok (.iload 4, 2) := by decide +kernel
theorem dX7_take_135 : decode cX7_take 135 = .ok (.iconst 4, 1) := by decide +kernel
theorem dX7_take_136 : decode cX7_take 136 = .ok (.invokestatic 54, 3) := by decide +kernel
theorem dX7_take_139 : decode cX7_take 139 = .ok (.aload_n 0, 1) := by decide +kernel
theorem dX7_take_140 : decode cX7_take 140 = .ok (.getfield 7, 3) := by decide +kernel
theorem dX7_take_143 : decode cX7_take 143 = .ok (.bipush 16, 2) := by decide +kernel
theorem dX7_take_145 : decode cX7_take 145 = .ok (.iload_n 1, 1) := by decide +kernel
theorem dX7_take_146 : decode cX7_take 146 = .ok (.iadd, 1) := by decide +kernel
theorem dX7_take_147 : decode cX7_take 147 = .ok (.iaload, 1) := by decide +kernel
theorem dX7_take_148 : decode cX7_take 148 = .ok (.iastore, 1) := by decide +kernel
theorem dX7_take_149 : decode cX7_take 149 = .ok (.aload_n 0, 1) := by decide +kernel
theorem dX7_take_150 : decode cX7_take 150 = .ok (.getfield 7, 3) := by decide +kernel
theorem dX7_take_153 : decode cX7_take 153 = .ok (.iload 4, 2) := by decide +kernel
theorem dX7_take_155 : decode cX7_take 155 = .ok (.iconst 5, 1) := by decide +kernel
theorem dX7_take_156 : decode cX7_take 156 = .ok (.invokestatic 54, 3) := by decide +kernel
theorem dX7_take_159 : decode cX7_take 159 = .ok (.iconst 0, 1) := by decide +kernel
theorem dX7_take_160 : decode cX7_take 160 = .ok (.iastore, 1) := by decide +kernel
theorem dX7_take_161 : decode cX7_take 161 = .ok (.aload_n 0, 1) := by decide +kernel
theorem dX7_take_162 : decode cX7_take 162 = .ok (.getfield 7, 3) := by decide +kernel
theorem dX7_take_165 : decode cX7_take 165 = .ok (.iload 4, 2) := by decide +kernel
theorem dX7_take_167 : decode cX7_take 167 = .ok (.bipush 6, 2) := by decide +kernel
theorem dX7_take_169 : decode cX7_take 169 = .ok (.invokestatic 54, 3) := by decide +kernel
theorem dX7_take_172 : decode cX7_take 172 = .ok (.iconst (-1), 1) := by decide +kernel
theorem dX7_take_173 : decode cX7_take 173 = .ok (.iastore, 1) := by decide +kernel
theorem dX7_take_174 : decode cX7_take 174 = .ok (.aload_n 0, 1) := by decide +kernel
theorem dX7_take_175 : decode cX7_take 175 = .ok (.getfield 7, 3) := by decide +kernel
theorem dX7_take_178 : decode cX7_take 178 = .ok (.iload 4, 2) := by decide +kernel
theorem dX7_take_180 : decode cX7_take 180 = .ok (.bipush 7, 2) := by decide +kernel
theorem dX7_take_182 : decode cX7_take 182 = .ok (.invokestatic 54, 3) := by decide +kernel
theorem dX7_take_185 : decode cX7_take 185 = .ok (.iconst (-1), 1) := by decide +kernel
theorem dX7_take_186 : decode cX7_take 186 = .ok (.iastore, 1) := by decide +kernel
theorem dX7_take_187 : decode cX7_take 187 = .ok (.aload_n 0, 1) := by decide +kernel
theorem dX7_take_188 : decode cX7_take 188 = .ok (.getfield 7, 3) := by decide +kernel
theorem dX7_take_191 : decode cX7_take 191 = .ok (.iconst 1, 1) := by decide +kernel
theorem dX7_take_192 : decode cX7_take 192 = .ok (.dup2, 1) := by decide +kernel
theorem dX7_take_193 : decode cX7_take 193 = .ok (.iaload, 1) := by decide +kernel
theorem dX7_take_194 : decode cX7_take 194 = .ok (.iconst 1, 1) := by decide +kernel
theorem dX7_take_195 : decode cX7_take 195 = .ok (.iadd, 1) := by decide +kernel
theorem dX7_take_196 : decode cX7_take 196 = .ok (.iastore, 1) := by decide +kernel
theorem dX7_take_197 : decode cX7_take 197 = .ok (.iload 4, 2) := by decide +kernel
theorem dX7_take_199 : decode cX7_take 199 = .ok (.ireturn, 1) := by decide +kernel
set_option maxRecDepth 20000 in
theorem ggX7_layOff_X7_isHorse : GoodIn wsX7_layOff wsX7_isHorse := goodIn_r _ [6, 1, 7, 8, 5, 9, 38, 39, 40, 41, 42, 43, 44, 45, 46, 47] (by decide +kernel) (by decide +kernel)
set_option maxRecDepth 20000 in
theorem gX7_layOff_X7_isHorse : GoodIn wsX7_layOff (wsV RX7 42 RX7 yX7_isHorse wsX7_isHorse) := goodIn_app (goodIn_of _ (by decide +kernel)) ggX7_layOff_X7_isHorse
set_option maxRecDepth 20000 in
theorem ggX7_layOff_X7_in : GoodIn wsX7_layOff wsX7_in := goodIn_r _ [9] (by decide +kernel) (by decide +kernel)
set_option maxRecDepth 20000 in
theorem gX7_layOff_X7_in : GoodIn wsX7_layOff (va_wsS RX7 38 yX7_in wsX7_in) := goodIn_app (goodIn_of _ (by decide +kernel)) ggX7_layOff_X7_in
set_option maxRecDepth 20000 in
theorem ggX7_layOff_X7_isPrice : GoodIn wsX7_layOff wsX7_isPrice := goodIn_r _ [12, 7, 8, 5, 9] (by decide +kernel) (by decide +kernel)
set_option maxRecDepth 20000 in
theorem gX7_layOff_X7_isPrice : GoodIn wsX7_layOff (va_wsS RX7 96 yX7_isPrice wsX7_isPrice) := goodIn_app (goodIn_of _ (by decide +kernel)) ggX7_layOff_X7_isPrice
set_option maxRecDepth 20000 in
theorem ggX7_layOff_X7_runs : GoodIn wsX7_layOff wsX7_runs := goodIn_r _ [16, 1, 2, 3, 4, 5, 6, 7, 8, 9, 38, 39, 40, 41, 42, 43, 44, 45, 46, 47] (by decide +kernel) (by decide +kernel)
set_option maxRecDepth 20000 in
theorem gX7_layOff_X7_runs : GoodIn wsX7_layOff (wsV RX7 93 RX7 yX7_runs wsX7_runs) := goodIn_app (goodIn_of _ (by decide +kernel)) ggX7_layOff_X7_runs
set_option maxRecDepth 20000 in
theorem ggX7_layOff_X7_isOpen : GoodIn wsX7_layOff wsX7_isOpen := goodIn_r _ [20, 1, 38, 39, 40, 41, 42, 43, 44, 45, 46, 47] (by decide +kernel) (by decide +kernel)
set_option maxRecDepth 20000 in
theorem gX7_layOff_X7_isOpen : GoodIn wsX7_layOff (wsV RX7 100 RX7 yX7_isOpen wsX7_isOpen) := goodIn_app (goodIn_of _ (by decide +kernel)) ggX7_layOff_X7_isOpen
set_option maxRecDepth 20000 in
theorem ggX7_layOff_X7_goes : GoodIn wsX7_layOff wsX7_goes := goodIn_r _ [24, 25, 38, 39, 40, 41, 42, 43, 44, 45, 46, 47] (by decide +kernel) (by decide +kernel)
set_option maxRecDepth 20000 in
theorem gX7_layOff_X7_goes : GoodIn wsX7_layOff (wsV RX7 104 RX7 yX7_goes wsX7_goes) := goodIn_app (goodIn_of _ (by decide +kernel)) ggX7_layOff_X7_goes
set_option maxRecDepth 20000 in
theorem ggX7_layOff_X7_saves : GoodIn wsX7_layOff wsX7_saves := goodIn_r _ [29, 30, 31, 32, 33, 5, 34, 1, 38, 39, 40, 41, 42, 43, 44, 45, 46, 47] (by decide +kernel) (by decide +kernel)
set_option maxRecDepth 20000 in
theorem gX7_layOff_X7_saves : GoodIn wsX7_layOff (wsV RX7 108 RX7 yX7_saves wsX7_saves) := goodIn_app (goodIn_of _ (by decide +kernel)) ggX7_layOff_X7_saves
set_option maxRecDepth 20000 in
theorem ggX7_layOff_X7_off : GoodIn wsX7_layOff wsX7_off := goodIn_r _ [37] (by decide +kernel) (by decide +kernel)
set_option maxRecDepth 20000 in
theorem gX7_layOff_X7_off : GoodIn wsX7_layOff (va_wsS RX7 75 yX7_off wsX7_off) := goodIn_app (goodIn_of _ (by decide +kernel)) ggX7_layOff_X7_off
theorem dX7_layOff_0 : decode cX7_layOff 0 = .ok (.aload_n 0, 1) := by decide +kernel
theorem dX7_layOff_1 : decode cX7_layOff 1 = .ok (.aload_n 0, 1) := by decide +kernel
theorem dX7_layOff_2 : decode cX7_layOff 2 = .ok (.iload_n 1, 1) := by decide +kernel
theorem dX7_layOff_3 : decode cX7_layOff 3 = .ok (.invokevirtual 42, 3) := by decide +kernel
theorem dX7_layOff_6 : decode cX7_layOff 6 = .ok (.iload_n 2, 1) := by decide +kernel
theorem dX7_layOff_7 : decode cX7_layOff 7 = .ok (.iconst 1, 1) := by decide +kernel
theorem dX7_layOff_8 : decode cX7_layOff 8 = .ok (.sipush 9999, 3) := by decide +kernel
theorem dX7_layOff_11 : decode cX7_layOff 11 = .ok (.invokestatic 38, 3) := by decide +kernel
theorem dX7_layOff_14 : decode cX7_layOff 14 = .ok (.ifCond .eq 16, 3) := by decide +kernel
theorem dX7_layOff_17 : decode cX7_layOff 17 = .ok (.iload_n 3, 1) := by decide +kernel
theorem dX7_layOff_18 : decode cX7_layOff 18 = .ok (.iload 4, 2) := by decide +kernel
theorem dX7_layOff_20 : decode cX7_layOff 20 = .ok (.invokestatic 96, 3) := by decide +kernel
theorem dX7_layOff_23 : decode cX7_layOff 23 = .ok (.ifCond .eq 7, 3) := by decide +kernel
theorem dX7_layOff_26 : decode cX7_layOff 26 = .ok (.iconst 1, 1) := by decide +kernel
theorem dX7_layOff_27 : decode cX7_layOff 27 = .ok (.goto 4, 3) := by decide +kernel
theorem dX7_layOff_30 : decode cX7_layOff 30 = .ok (.iconst 0, 1) := by decide +kernel
theorem dX7_layOff_31 : decode cX7_layOff 31 = .ok (.aload_n 0, 1) := by decide +kernel
theorem dX7_layOff_32 : decode cX7_layOff 32 = .ok (.iload_n 1, 1) := by decide +kernel
theorem dX7_layOff_33 : decode cX7_layOff 33 = .ok (.invokevirtual 93, 3) := by decide +kernel
theorem dX7_layOff_36 : decode cX7_layOff 36 = .ok (.ifCond .eq 25, 3) := by decide +kernel
theorem dX7_layOff_39 : decode cX7_layOff 39 = .ok (.aload_n 0, 1) := by decide +kernel
theorem dX7_layOff_40 : decode cX7_layOff 40 = .ok (.getfield 7, 3) := by decide +kernel
theorem dX7_layOff_43 : decode cX7_layOff 43 = .ok (.iconst 2, 1) := by decide +kernel
theorem dX7_layOff_44 : decode cX7_layOff 44 = .ok (.iaload, 1) := by decide +kernel
theorem dX7_layOff_45 : decode cX7_layOff 45 = .ok (.bipush 6, 2) := by decide +kernel
theorem dX7_layOff_47 : decode cX7_layOff 47 = .ok (.if_icmp .ge 14, 3) := by decide +kernel
theorem dX7_layOff_50 : decode cX7_layOff 50 = .ok (.aload_n 0, 1) := by decide +kernel
theorem dX7_layOff_51 : decode cX7_layOff 51 = .ok (.invokevirtual 100, 3) := by decide +kernel
theorem dX7_layOff_54 : decode cX7_layOff 54 = .ok (.ifCond .eq 7, 3) := by decide +kernel
theorem dX7_layOff_57 : decode cX7_layOff 57 = .ok (.iconst 1, 1) := by decide +kernel
theorem dX7_layOff_58 : decode cX7_layOff 58 = .ok (.goto 4, 3) := by decide +kernel
theorem dX7_layOff_61 : decode cX7_layOff 61 = .ok (.iconst 0, 1) := by decide +kernel
theorem dX7_layOff_62 : decode cX7_layOff 62 = .ok (.invokevirtual 104, 3) := by decide +kernel
theorem dX7_layOff_65 : decode cX7_layOff 65 = .ok (.ifCond .ne 5, 3) := by decide +kernel
theorem dX7_layOff_68 : decode cX7_layOff 68 = .ok (.iconst 0, 1) := by decide +kernel
theorem dX7_layOff_69 : decode cX7_layOff 69 = .ok (.ireturn, 1) := by decide +kernel
theorem dX7_layOff_70 : decode cX7_layOff 70 = .ok (.aload_n 0, 1) := by decide +kernel
theorem dX7_layOff_71 : decode cX7_layOff 71 = .ok (.invokevirtual 108, 3) := by decide +kernel
theorem dX7_layOff_74 : decode cX7_layOff 74 = .ok (.aload_n 0, 1) := by decide +kernel
theorem dX7_layOff_75 : decode cX7_layOff 75 = .ok (.getfield 7, 3) := by decide +kernel
theorem dX7_layOff_78 : decode cX7_layOff 78 = .ok (.iconst 2, 1) := by decide +kernel
theorem dX7_layOff_79 : decode cX7_layOff 79 = .ok (.iaload, 1) := by decide +kernel
theorem dX7_layOff_80 : decode cX7_layOff 80 = .ok (.istore 5, 2) := by decide +kernel
theorem dX7_layOff_82 : decode cX7_layOff 82 = .ok (.aload_n 0, 1) := by decide +kernel
theorem dX7_layOff_83 : decode cX7_layOff 83 = .ok (.getfield 7, 3) := by decide +kernel
theorem dX7_layOff_86 : decode cX7_layOff 86 = .ok (.iload 5, 2) := by decide +kernel
theorem dX7_layOff_88 : decode cX7_layOff 88 = .ok (.iconst 0, 1) := by decide +kernel
theorem dX7_layOff_89 : decode cX7_layOff 89 = .ok (.invokestatic 75, 3) := by decide +kernel
theorem dX7_layOff_92 : decode cX7_layOff 92 = .ok (.iload_n 1, 1) := by decide +kernel
theorem dX7_layOff_93 : decode cX7_layOff 93 = .ok (.iastore, 1) := by decide +kernel
theorem dX7_layOff_94 : decode cX7_layOff 94 = .ok (.aload_n 0, 1) := by decide +kernel
theorem dX7_layOff_95 : decode cX7_layOff 95 = .ok (.getfield 7, 3) := by decide +kernel
theorem dX7_layOff_98 : decode cX7_layOff 98 = .ok (.iload 5, 2) := by decide +kernel
theorem dX7_layOff_100 : decode cX7_layOff 100 = .ok (.iconst 1, 1) := by decide +kernel
theorem dX7_layOff_101 : decode cX7_layOff 101 = .ok (.invokestatic 75, 3) := by decide +kernel
theorem dX7_layOff_104 : decode cX7_layOff 104 = .ok (.iload_n 2, 1) := by decide +kernel
theorem dX7_layOff_105 : decode cX7_layOff 105 = .ok (.iastore, 1) := by decide +kernel
theorem dX7_layOff_106 : decode cX7_layOff 106 = .ok (.aload_n 0, 1) := by decide +kernel
theorem dX7_layOff_107 : decode cX7_layOff 107 = .ok (.getfield 7, 3) := by decide +kernel
theorem dX7_layOff_110 : decode cX7_layOff 110 = .ok (.iload 5, 2) := by decide +kernel
theorem dX7_layOff_112 : decode cX7_layOff 112 = .ok (.iconst 2, 1) := by decide +kernel
theorem dX7_layOff_113 : decode cX7_layOff 113 = .ok (.invokestatic 75, 3) := by decide +kernel
theorem dX7_layOff_116 : decode cX7_layOff 116 = .ok (.iload_n 3, 1) := by decide +kernel
theorem dX7_layOff_117 : decode cX7_layOff 117 = .ok (.iastore, 1) := by decide +kernel
theorem dX7_layOff_118 : decode cX7_layOff 118 = .ok (.aload_n 0, 1) := by decide +kernel
theorem dX7_layOff_119 : decode cX7_layOff 119 = .ok (.getfield 7, 3) := by decide +kernel
theorem dX7_layOff_122 : decode cX7_layOff 122 = .ok (.iload 5, 2) := by decide +kernel
theorem dX7_layOff_124 : decode cX7_layOff 124 = .ok (.iconst 3, 1) := by decide +kernel
theorem dX7_layOff_125 : decode cX7_layOff 125 = .ok (.invokestatic 75, 3) := by decide +kernel
theorem dX7_layOff_128 : decode cX7_layOff 128 = .ok (.iload 4, 2) := by decide +kernel
theorem dX7_layOff_130 : decode cX7_layOff 130 = .ok (.iastore, 1) := by decide +kernel
theorem dX7_layOff_131 : decode cX7_layOff 131 = .ok (.aload_n 0, 1) := by decide +kernel
theorem dX7_layOff_132 : decode cX7_layOff 132 = .ok (.getfield 7, 3) := by decide +kernel
theorem dX7_layOff_135 : decode cX7_layOff 135 = .ok (.iload 5, 2) := by decide +kernel
theorem dX7_layOff_137 : decode cX7_layOff 137 = .ok (.iconst 4, 1) := by decide +kernel
theorem dX7_layOff_138 : decode cX7_layOff 138 = .ok (.invokestatic 75, 3) := by decide +kernel
theorem dX7_layOff_141 : decode cX7_layOff 141 = .ok (.iconst (-1), 1) := by decide +kernel
theorem dX7_layOff_142 : decode cX7_layOff 142 = .ok (.iastore, 1) := by decide +kernel
theorem dX7_layOff_143 : decode cX7_layOff 143 = .ok (.aload_n 0, 1) := by decide +kernel
theorem dX7_layOff_144 : decode cX7_layOff 144 = .ok (.getfield 7, 3) := by decide +kernel
theorem dX7_layOff_147 : decode cX7_layOff 147 = .ok (.iconst 2, 1) := by decide +kernel
theorem dX7_layOff_148 : decode cX7_layOff 148 = .ok (.dup2, 1) := by decide +kernel
theorem dX7_layOff_149 : decode cX7_layOff 149 = .ok (.iaload, 1) := by decide +kernel
theorem dX7_layOff_150 : decode cX7_layOff 150 = .ok (.iconst 1, 1) := by decide +kernel
theorem dX7_layOff_151 : decode cX7_layOff 151 = .ok (.iadd, 1) := by decide +kernel
theorem dX7_layOff_152 : decode cX7_layOff 152 = .ok (.iastore, 1) := by decide +kernel
theorem dX7_layOff_153 : decode cX7_layOff 153 = .ok (.iload 5, 2) := by decide +kernel
theorem dX7_layOff_155 : decode cX7_layOff 155 = .ok (.ireturn, 1) := by decide +kernel
set_option maxRecDepth 20000 in
theorem ggX7_withdraw_X7_isHorse : GoodIn wsX7_withdraw wsX7_isHorse := goodIn_r _ [6, 1, 7, 8, 5, 9, 35, 36, 37, 38, 39, 40, 41, 42, 43, 44] (by decide +kernel) (by decide +kernel)
set_option maxRecDepth 20000 in
theorem gX7_withdraw_X7_isHorse : GoodIn wsX7_withdraw (wsV RX7 42 RX7 yX7_isHorse wsX7_isHorse) := goodIn_app (goodIn_of _ (by decide +kernel)) ggX7_withdraw_X7_isHorse
set_option maxRecDepth 20000 in
theorem ggX7_withdraw_X7_runs : GoodIn wsX7_withdraw wsX7_runs := goodIn_r _ [13, 1, 2, 3, 4, 5, 6, 7, 8, 9, 35, 36, 37, 38, 39, 40, 41, 42, 43, 44] (by decide +kernel) (by decide +kernel)
set_option maxRecDepth 20000 in
theorem gX7_withdraw_X7_runs : GoodIn wsX7_withdraw (wsV RX7 93 RX7 yX7_runs wsX7_runs) := goodIn_app (goodIn_of _ (by decide +kernel)) ggX7_withdraw_X7_runs
set_option maxRecDepth 20000 in
theorem ggX7_withdraw_X7_isOpen : GoodIn wsX7_withdraw wsX7_isOpen := goodIn_r _ [17, 1, 35, 36, 37, 38, 39, 40, 41, 42, 43, 44] (by decide +kernel) (by decide +kernel)
set_option maxRecDepth 20000 in
theorem gX7_withdraw_X7_isOpen : GoodIn wsX7_withdraw (wsV RX7 100 RX7 yX7_isOpen wsX7_isOpen) := goodIn_app (goodIn_of _ (by decide +kernel)) ggX7_withdraw_X7_isOpen
set_option maxRecDepth 20000 in
theorem ggX7_withdraw_X7_goes : GoodIn wsX7_withdraw wsX7_goes := goodIn_r _ [21, 22, 35, 36, 37, 38, 39, 40, 41, 42, 43, 44] (by decide +kernel) (by decide +kernel)
set_option maxRecDepth 20000 in
theorem gX7_withdraw_X7_goes : GoodIn wsX7_withdraw (wsV RX7 104 RX7 yX7_goes wsX7_goes) := goodIn_app (goodIn_of _ (by decide +kernel)) ggX7_withdraw_X7_goes
set_option maxRecDepth 20000 in
theorem ggX7_withdraw_X7_saves : GoodIn wsX7_withdraw wsX7_saves := goodIn_r _ [26, 27, 28, 29, 30, 5, 31, 1, 35, 36, 37, 38, 39, 40, 41, 42, 43, 44] (by decide +kernel) (by decide +kernel)
set_option maxRecDepth 20000 in
theorem gX7_withdraw_X7_saves : GoodIn wsX7_withdraw (wsV RX7 108 RX7 yX7_saves wsX7_saves) := goodIn_app (goodIn_of _ (by decide +kernel)) ggX7_withdraw_X7_saves
set_option maxRecDepth 20000 in
theorem ggX7_withdraw_X7_of : GoodIn wsX7_withdraw wsX7_of := goodIn_r _ [34] (by decide +kernel) (by decide +kernel)
set_option maxRecDepth 20000 in
theorem gX7_withdraw_X7_of : GoodIn wsX7_withdraw (va_wsS RX7 54 yX7_of wsX7_of) := goodIn_app (goodIn_of _ (by decide +kernel)) ggX7_withdraw_X7_of
theorem dX7_withdraw_0 : decode cX7_withdraw 0 = .ok (.aload_n 0, 1) := by decide +kernel
theorem dX7_withdraw_1 : decode cX7_withdraw 1 = .ok (.aload_n 0, 1) := by decide +kernel
theorem dX7_withdraw_2 : decode cX7_withdraw 2 = .ok (.iload_n 1, 1) := by decide +kernel
theorem dX7_withdraw_3 : decode cX7_withdraw 3 = .ok (.invokevirtual 42, 3) := by decide +kernel
theorem dX7_withdraw_6 : decode cX7_withdraw 6 = .ok (.aload_n 0, 1) := by decide +kernel
theorem dX7_withdraw_7 : decode cX7_withdraw 7 = .ok (.iload_n 1, 1) := by decide +kernel
theorem dX7_withdraw_8 : decode cX7_withdraw 8 = .ok (.invokevirtual 93, 3) := by decide +kernel
theorem dX7_withdraw_11 : decode cX7_withdraw 11 = .ok (.ifCond .eq 14, 3) := by decide +kernel
theorem dX7_withdraw_14 : decode cX7_withdraw 14 = .ok (.aload_n 0, 1) := by decide +kernel
theorem dX7_withdraw_15 : decode cX7_withdraw 15 = .ok (.invokevirtual 100, 3) := by decide +kernel
theorem dX7_withdraw_18 : decode cX7_withdraw 18 = .ok (.ifCond .eq 7, 3) := by decide +kernel
theorem dX7_withdraw_21 : decode cX7_withdraw 21 = .ok (.iconst 1, 1) := by decide +kernel
theorem dX7_withdraw_22 : decode cX7_withdraw 22 = .ok (.goto 4, 3) := by decide +kernel
theorem dX7_withdraw_25 : decode cX7_withdraw 25 = .ok (.iconst 0, 1) := by decide +kernel
theorem dX7_withdraw_26 : decode cX7_withdraw 26 = .ok (.iconst 1, 1) := by decide +kernel
theorem dX7_withdraw_27 : decode cX7_withdraw 27 = .ok (.invokevirtual 104, 3) := by decide +kernel
theorem dX7_withdraw_30 : decode cX7_withdraw 30 = .ok (.ifCond .ne 5, 3) := by decide +kernel
theorem dX7_withdraw_33 : decode cX7_withdraw 33 = .ok (.iconst 0, 1) := by decide +kernel
theorem dX7_withdraw_34 : decode cX7_withdraw 34 = .ok (.ireturn, 1) := by decide +kernel
theorem dX7_withdraw_35 : decode cX7_withdraw 35 = .ok (.aload_n 0, 1) := by decide +kernel
theorem dX7_withdraw_36 : decode cX7_withdraw 36 = .ok (.invokevirtual 108, 3) := by decide +kernel
theorem dX7_withdraw_39 : decode cX7_withdraw 39 = .ok (.bipush 100, 2) := by decide +kernel
theorem dX7_withdraw_41 : decode cX7_withdraw 41 = .ok (.aload_n 0, 1) := by decide +kernel
theorem dX7_withdraw_42 : decode cX7_withdraw 42 = .ok (.getfield 7, 3) := by decide +kernel
theorem dX7_withdraw_45 : decode cX7_withdraw 45 = .ok (.bipush 16, 2) := by decide +kernel
theorem dX7_withdraw_47 : decode cX7_withdraw 47 = .ok (.iload_n 1, 1) := by decide +kernel
theorem dX7_withdraw_48 : decode cX7_withdraw 48 = .ok (.iadd, 1) := by decide +kernel
theorem dX7_withdraw_49 : decode cX7_withdraw 49 = .ok (.iaload, 1) := by decide +kernel
theorem dX7_withdraw_50 : decode cX7_withdraw 50 = .ok (.imul, 1) := by decide +kernel
theorem dX7_withdraw_51 : decode cX7_withdraw 51 = .ok (.aload_n 0, 1) := by decide +kernel
theorem dX7_withdraw_52 : decode cX7_withdraw 52 = .ok (.getfield 7, 3) := by decide +kernel
theorem dX7_withdraw_55 : decode cX7_withdraw 55 = .ok (.bipush 6, 2) := by decide +kernel
theorem dX7_withdraw_57 : decode cX7_withdraw 57 = .ok (.iload_n 1, 1) := by decide +kernel
theorem dX7_withdraw_58 : decode cX7_withdraw 58 = .ok (.iadd, 1) := by decide +kernel
theorem dX7_withdraw_59 : decode cX7_withdraw 59 = .ok (.iaload, 1) := by decide +kernel
theorem dX7_withdraw_60 : decode cX7_withdraw 60 = .ok (.aload_n 0, 1) := by decide +kernel
theorem dX7_withdraw_61 : decode cX7_withdraw 61 = .ok (.getfield 7, 3) := by decide +kernel
theorem dX7_withdraw_64 : decode cX7_withdraw 64 = .ok (.bipush 16, 2) := by decide +kernel
theorem dX7_withdraw_66 : decode cX7_withdraw 66 = .ok (.iload_n 1, 1) := by decide +kernel
theorem dX7_withdraw_67 : decode cX7_withdraw 67 = .ok (.iadd, 1) := by decide +kernel
theorem dX7_withdraw_68 : decode cX7_withdraw 68 = .ok (.iaload, 1) := by decide +kernel
theorem dX7_withdraw_69 : decode cX7_withdraw 69 = .ok (.iadd, 1) := by decide +kernel
theorem dX7_withdraw_70 : decode cX7_withdraw 70 = .ok (.idiv, 1) := by decide +kernel
theorem dX7_withdraw_71 : decode cX7_withdraw 71 = .ok (.istore_n 2, 1) := by decide +kernel
theorem dX7_withdraw_72 : decode cX7_withdraw 72 = .ok (.iload_n 2, 1) := by decide +kernel
theorem dX7_withdraw_73 : decode cX7_withdraw 73 = .ok (.bipush 75, 2) := by decide +kernel
theorem dX7_withdraw_75 : decode cX7_withdraw 75 = .ok (.if_icmp .le 8, 3) := by decide +kernel
theorem dX7_withdraw_78 : decode cX7_withdraw 78 = .ok (.bipush 75, 2) := by decide +kernel
theorem dX7_withdraw_80 : decode cX7_withdraw 80 = .ok (.goto 4, 3) := by decide +kernel
theorem dX7_withdraw_83 : decode cX7_withdraw 83 = .ok (.iload_n 2, 1) := by decide +kernel
theorem dX7_withdraw_84 : decode cX7_withdraw 84 = .ok (.istore_n 2, 1) := by decide +kernel
theorem dX7_withdraw_85 : decode cX7_withdraw 85 = .ok (.aload_n 0, 1) := by decide +kernel
theorem dX7_withdraw_86 : decode cX7_withdraw 86 = .ok (.getfield 7, 3) := by decide +kernel
theorem dX7_withdraw_89 : decode cX7_withdraw 89 = .ok (.bipush 26, 2) := by decide +kernel
theorem dX7_withdraw_91 : decode cX7_withdraw 91 = .ok (.iload_n 1, 1) := by decide +kernel
theorem dX7_withdraw_92 : decode cX7_withdraw 92 = .ok (.iadd, 1) := by decide +kernel
theorem dX7_withdraw_93 : decode cX7_withdraw 93 = .ok (.iconst 0, 1) := by decide +kernel
theorem dX7_withdraw_94 : decode cX7_withdraw 94 = .ok (.iastore, 1) := by decide +kernel
theorem dX7_withdraw_95 : decode cX7_withdraw 95 = .ok (.aload_n 0, 1) := by decide +kernel
theorem dX7_withdraw_96 : decode cX7_withdraw 96 = .ok (.getfield 7, 3) := by decide +kernel
theorem dX7_withdraw_99 : decode cX7_withdraw 99 = .ok (.bipush 36, 2) := by decide +kernel
theorem dX7_withdraw_101 : decode cX7_withdraw 101 = .ok (.iload_n 1, 1) := by decide +kernel
theorem dX7_withdraw_102 : decode cX7_withdraw 102 = .ok (.iadd, 1) := by decide +kernel
theorem dX7_withdraw_103 : decode cX7_withdraw 103 = .ok (.iload_n 2, 1) := by decide +kernel
theorem dX7_withdraw_104 : decode cX7_withdraw 104 = .ok (.iastore, 1) := by decide +kernel
theorem dX7_withdraw_105 : decode cX7_withdraw 105 = .ok (.iconst 0, 1) := by decide +kernel
theorem dX7_withdraw_106 : decode cX7_withdraw 106 = .ok (.istore_n 3, 1) := by decide +kernel
theorem dX7_withdraw_107 : decode cX7_withdraw 107 = .ok (.iload_n 3, 1) := by decide +kernel
theorem dX7_withdraw_108 : decode cX7_withdraw 108 = .ok (.aload_n 0, 1) := by decide +kernel
theorem dX7_withdraw_109 : decode cX7_withdraw 109 = .ok (.getfield 7, 3) := by decide +kernel
theorem dX7_withdraw_112 : decode cX7_withdraw 112 = .ok (.iconst 1, 1) := by decide +kernel
theorem dX7_withdraw_113 : decode cX7_withdraw 113 = .ok (.iaload, 1) := by decide +kernel
theorem dX7_withdraw_114 : decode cX7_withdraw 114 = .ok (.if_icmp .ge 47, 3) := by decide +kernel
theorem dX7_withdraw_117 : decode cX7_withdraw 117 = .ok (.aload_n 0, 1) := by decide +kernel
theorem dX7_withdraw_118 : decode cX7_withdraw 118 = .ok (.getfield 7, 3) := by decide +kernel
theorem dX7_withdraw_121 : decode cX7_withdraw 121 = .ok (.iload_n 3, 1) := by decide +kernel
theorem dX7_withdraw_122 : decode cX7_withdraw 122 = .ok (.iconst 5, 1) := by decide +kernel
theorem dX7_withdraw_123 : decode cX7_withdraw 123 = .ok (.invokestatic 54, 3) := by decide +kernel
theorem dX7_withdraw_126 : decode cX7_withdraw 126 = .ok (.iaload, 1) := by decide +kernel
theorem dX7_withdraw_127 : decode cX7_withdraw 127 = .ok (.iload_n 2, 1) := by decide +kernel
theorem dX7_withdraw_128 : decode cX7_withdraw 128 = .ok (.iadd, 1) := by decide +kernel
theorem dX7_withdraw_129 : decode cX7_withdraw 129 = .ok (.istore 4, 2) := by decide +kernel
theorem dX7_withdraw_131 : decode cX7_withdraw 131 = .ok (.aload_n 0, 1) := by decide +kernel
theorem dX7_withdraw_132 : decode cX7_withdraw 132 = .ok (.getfield 7, 3) := by decide +kernel
theorem dX7_withdraw_135 : decode cX7_withdraw 135 = .ok (.iload_n 3, 1) := by decide +kernel
theorem dX7_withdraw_136 : decode cX7_withdraw 136 = .ok (.iconst 5, 1) := by decide +kernel
theorem dX7_withdraw_137 : decode cX7_withdraw 137 = .ok (.invokestatic 54, 3) := by decide +kernel
theorem dX7_withdraw_140 : decode cX7_withdraw 140 = .ok (.iload 4, 2) := by decide +kernel
theorem dX7_withdraw_142 : decode cX7_withdraw 142 = .ok (.bipush 90, 2) := by decide +kernel
theorem dX7_withdraw_144 : decode cX7_withdraw 144 = .ok (.if_icmp .le 8, 3) := by decide +kernel
theorem dX7_withdraw_147 : decode cX7_withdraw 147 = .ok (.bipush 90, 2) := by decide +kernel
theorem dX7_withdraw_149 : decode cX7_withdraw 149 = .ok (.goto 5, 3) := by decide +kernel
theorem dX7_withdraw_152 : decode cX7_withdraw 152 = .ok (.iload 4, 2) := by decide +kernel
theorem dX7_withdraw_154 : decode cX7_withdraw 154 = .ok (.iastore, 1) := by decide +kernel
theorem dX7_withdraw_155 : decode cX7_withdraw 155 = .ok (.iinc 3 1, 3) := by decide +kernel
theorem dX7_withdraw_158 : decode cX7_withdraw 158 = .ok (.goto (-51), 3) := by decide +kernel
theorem dX7_withdraw_161 : decode cX7_withdraw 161 = .ok (.iload_n 2, 1) := by decide +kernel
theorem dX7_withdraw_162 : decode cX7_withdraw 162 = .ok (.ireturn, 1) := by decide +kernel
set_option maxRecDepth 20000 in
theorem ggX7_settle_X7_isArrival : GoodIn wsX7_settle wsX7_isArrival := goodIn_r _ [11, 12, 5, 13, 14, 15, 10, 16, 93, 94, 95, 96, 97, 98, 99, 100, 101, 102] (by decide +kernel) (by decide +kernel)
set_option maxRecDepth 20000 in
theorem gX7_settle_X7_isArrival : GoodIn wsX7_settle (wsV RX7 114 RX7 yX7_isArrival wsX7_isArrival) := goodIn_app (goodIn_of _ (by decide +kernel)) ggX7_settle_X7_isArrival
set_option maxRecDepth 20000 in
theorem ggX7_settle_X7_lays : GoodIn wsX7_settle wsX7_lays := goodIn_r _ [20, 5, 13, 3, 4, 21, 22, 23, 10, 24, 25, 26, 27, 28, 1, 29, 30, 31, 32, 14, 15, 16, 93, 94, 95, 96, 97, 98, 99, 100, 101, 102] (by decide +kernel) (by decide +kernel)
set_option maxRecDepth 20000 in
theorem gX7_settle_X7_lays : GoodIn wsX7_settle (wsV RX7 117 RX7 yX7_lays wsX7_lays) := goodIn_app (goodIn_of _ (by decide +kernel)) ggX7_settle_X7_lays
set_option maxRecDepth 20000 in
theorem ggX7_settle_X7_isOpen : GoodIn wsX7_settle wsX7_isOpen := goodIn_r _ [36, 1, 93, 94, 95, 96, 97, 98, 99, 100, 101, 102] (by decide +kernel) (by decide +kernel)
set_option maxRecDepth 20000 in
theorem gX7_settle_X7_isOpen : GoodIn wsX7_settle (wsV RX7 100 RX7 yX7_isOpen wsX7_isOpen) := goodIn_app (goodIn_of _ (by decide +kernel)) ggX7_settle_X7_isOpen
set_option maxRecDepth 20000 in
theorem ggX7_settle_X7_goes : GoodIn wsX7_settle wsX7_goes := goodIn_r _ [40, 41, 93, 94, 95, 96, 97, 98, 99, 100, 101, 102] (by decide +kernel) (by decide +kernel)
set_option maxRecDepth 20000 in
theorem gX7_settle_X7_goes : GoodIn wsX7_settle (wsV RX7 104 RX7 yX7_goes wsX7_goes) := goodIn_app (goodIn_of _ (by decide +kernel)) ggX7_settle_X7_goes
set_option maxRecDepth 20000 in
theorem ggX7_settle_X7_saves : GoodIn wsX7_settle wsX7_saves := goodIn_r _ [45, 46, 47, 48, 49, 10, 50, 1, 93, 94, 95, 96, 97, 98, 99, 100, 101, 102] (by decide +kernel) (by decide +kernel)
set_option maxRecDepth 20000 in
theorem gX7_settle_X7_saves : GoodIn wsX7_settle (wsV RX7 108 RX7 yX7_saves wsX7_saves) := goodIn_app (goodIn_of _ (by decide +kernel)) ggX7_settle_X7_saves
set_option maxRecDepth 20000 in
theorem ggX7_settle_X7_wins : GoodIn wsX7_settle wsX7_wins := goodIn_r _ [54, 1, 55, 56, 57, 10, 58, 59, 60, 61, 62, 63, 64, 65, 2, 66, 67, 68, 69, 3, 4, 70, 71, 72, 73, 74, 75, 76, 77, 78, 79, 80, 81, 82, 83, 84, 85, 86, 87, 88, 89, 90, 91, 92, 93, 94, 95, 96, 97, 98, 99, 100, 101, 102] (by decide +kernel) (by decide +kernel)
set_option maxRecDepth 20000 in
theorem gX7_settle_X7_wins : GoodIn wsX7_settle (wsV RX7 120 RX7 yX7_wins wsX7_wins) := goodIn_app (goodIn_of _ (by decide +kernel)) ggX7_settle_X7_wins
set_option maxRecDepth 20000 in
theorem ggX7_settle_X7_of : GoodIn wsX7_settle wsX7_of := goodIn_r _ [61] (by decide +kernel) (by decide +kernel)
set_option maxRecDepth 20000 in
theorem gX7_settle_X7_of : GoodIn wsX7_settle (va_wsS RX7 54 yX7_of wsX7_of) := goodIn_app (goodIn_of _ (by decide +kernel)) ggX7_settle_X7_of
set_option maxRecDepth 20000 in
theorem ggX7_settle_X7_returns : GoodIn wsX7_settle wsX7_returns := goodIn_r _ [65, 1, 2, 59, 60, 10, 61, 55, 56, 57, 58, 66, 67, 68, 69, 3, 4, 70, 71, 72, 73, 74, 75, 76, 77, 78, 79, 80, 81, 82, 83, 84, 85, 93, 94, 95, 96, 97, 98, 99, 100, 101, 102] (by decide +kernel) (by decide +kernel)
set_option maxRecDepth 20000 in
theorem gX7_settle_X7_returns : GoodIn wsX7_settle (wsV RX7 78 RX7 yX7_returns wsX7_returns) := goodIn_app (goodIn_of _ (by decide +kernel)) ggX7_settle_X7_returns
set_option maxRecDepth 20000 in
theorem ggX7_settle_X7_off : GoodIn wsX7_settle wsX7_off := goodIn_r _ [92] (by decide +kernel) (by decide +kernel)
set_option maxRecDepth 20000 in
theorem gX7_settle_X7_off : GoodIn wsX7_settle (va_wsS RX7 75 yX7_off wsX7_off) := goodIn_app (goodIn_of _ (by decide +kernel)) ggX7_settle_X7_off
set_option maxRecDepth 20000 in
theorem ggX7_settle_X7_returnsOff : GoodIn wsX7_settle wsX7_returnsOff := goodIn_r _ [89, 1, 90, 91, 10, 92, 66, 67, 68, 69, 3, 4, 70, 71, 72, 73, 93, 94, 95, 96, 97, 98, 99, 100, 101, 102] (by decide +kernel) (by decide +kernel)
set_option maxRecDepth 20000 in
theorem gX7_settle_X7_returnsOff : GoodIn wsX7_settle (wsV RX7 81 RX7 yX7_returnsOff wsX7_returnsOff) := goodIn_app (goodIn_of _ (by decide +kernel)) ggX7_settle_X7_returnsOff
theorem dX7_settle_0 : decode cX7_settle 0 = .ok (.aload_n 0, 1) := by decide +kernel
theorem dX7_settle_1 : decode cX7_settle 1 = .ok (.aload_n 0, 1) := by decide +kernel
theorem dX7_settle_2 : decode cX7_settle 2 = .ok (.invokevirtual 114, 3) := by decide +kernel
theorem dX7_settle_5 : decode cX7_settle 5 = .ok (.ifCond .eq 14, 3) := by decide +kernel
theorem dX7_settle_8 : decode cX7_settle 8 = .ok (.aload_n 0, 1) := by decide +kernel
theorem dX7_settle_9 : decode cX7_settle 9 = .ok (.invokevirtual 117, 3) := by decide +kernel
theorem dX7_settle_12 : decode cX7_settle 12 = .ok (.ifCond .eq 7, 3) := by decide +kernel
theorem dX7_settle_15 : decode cX7_settle 15 = .ok (.iconst 1, 1) := by decide +kernel
theorem dX7_settle_16 : decode cX7_settle 16 = .ok (.goto 4, 3) := by decide +kernel
theorem dX7_settle_19 : decode cX7_settle 19 = .ok (.iconst 0, 1) := by decide +kernel
theorem dX7_settle_20 : decode cX7_settle 20 = .ok (.aload_n 0, 1) := by decide +kernel
theorem dX7_settle_21 : decode cX7_settle 21 = .ok (.invokevirtual 100, 3) := by decide +kernel
theorem dX7_settle_24 : decode cX7_settle 24 = .ok (.iconst 1, 1) := by decide +kernel
theorem dX7_settle_25 : decode cX7_settle 25 = .ok (.invokevirtual 104, 3) := by decide +kernel
theorem dX7_settle_28 : decode cX7_settle 28 = .ok (.ifCond .ne 5, 3) := by decide +kernel
theorem dX7_settle_31 : decode cX7_settle 31 = .ok (.iconst 0, 1) := by decide +kernel
theorem dX7_settle_32 : decode cX7_settle 32 = .ok (.ireturn, 1) := by decide +kernel
theorem dX7_settle_33 : decode cX7_settle 33 = .ok (.aload_n 0, 1) := by decide +kernel
theorem dX7_settle_34 : decode cX7_settle 34 = .ok (.invokevirtual 108, 3) := by decide +kernel
theorem dX7_settle_37 : decode cX7_settle 37 = .ok (.aload_n 0, 1) := by decide +kernel
theorem dX7_settle_38 : decode cX7_settle 38 = .ok (.invokevirtual 120, 3) := by decide +kernel
theorem dX7_settle_41 : decode cX7_settle 41 = .ok (.istore_n 1, 1) := by decide +kernel
theorem dX7_settle_42 : decode cX7_settle 42 = .ok (.aload_n 0, 1) := by decide +kernel
theorem dX7_settle_43 : decode cX7_settle 43 = .ok (.getfield 7, 3) := by decide +kernel
theorem dX7_settle_46 : decode cX7_settle 46 = .ok (.sipush 288, 3) := by decide +kernel
theorem dX7_settle_49 : decode cX7_settle 49 = .ok (.iconst 0, 1) := by decide +kernel
theorem dX7_settle_50 : decode cX7_settle 50 = .ok (.iastore, 1) := by decide +kernel
theorem dX7_settle_51 : decode cX7_settle 51 = .ok (.aload_n 0, 1) := by decide +kernel
theorem dX7_settle_52 : decode cX7_settle 52 = .ok (.getfield 7, 3) := by decide +kernel
theorem dX7_settle_55 : decode cX7_settle 55 = .ok (.sipush 289, 3) := by decide +kernel
theorem dX7_settle_58 : decode cX7_settle 58 = .ok (.iconst 0, 1) := by decide +kernel
theorem dX7_settle_59 : decode cX7_settle 59 = .ok (.iastore, 1) := by decide +kernel
theorem dX7_settle_60 : decode cX7_settle 60 = .ok (.iconst 0, 1) := by decide +kernel
theorem dX7_settle_61 : decode cX7_settle 61 = .ok (.istore_n 2, 1) := by decide +kernel
theorem dX7_settle_62 : decode cX7_settle 62 = .ok (.iload_n 2, 1) := by decide +kernel
theorem dX7_settle_63 : decode cX7_settle 63 = .ok (.aload_n 0, 1) := by decide +kernel
theorem dX7_settle_64 : decode cX7_settle 64 = .ok (.getfield 7, 3) := by decide +kernel
theorem dX7_settle_67 : decode cX7_settle 67 = .ok (.iconst 1, 1) := by decide +kernel
theorem dX7_settle_68 : decode cX7_settle 68 = .ok (.iaload, 1) := by decide +kernel
theorem dX7_settle_69 : decode cX7_settle 69 = .ok (.if_icmp .ge 62, 3) := by decide +kernel
theorem dX7_settle_72 : decode cX7_settle 72 = .ok (.aload_n 0, 1) := by decide +kernel
theorem dX7_settle_73 : decode cX7_settle 73 = .ok (.getfield 7, 3) := by decide +kernel
theorem dX7_settle_76 : decode cX7_settle 76 = .ok (.iload_n 2, 1) := by decide +kernel
theorem dX7_settle_77 : decode cX7_settle 77 = .ok (.bipush 6, 2) := by decide +kernel
theorem dX7_settle_79 : decode cX7_settle 79 = .ok (.invokestatic 54, 3) := by decide +kernel
theorem dX7_settle_82 : decode cX7_settle 82 = .ok (.aload_n 0, 1) := by decide +kernel
theorem dX7_settle_83 : decode cX7_settle 83 = .ok (.iload_n 2, 1) := by decide +kernel
theorem dX7_settle_84 : decode cX7_settle 84 = .ok (.invokevirtual 78, 3) := by decide +kernel
theorem dX7_settle_87 : decode cX7_settle 87 = .ok (.iastore, 1) := by decide +kernel
theorem dX7_settle_88 : decode cX7_settle 88 = .ok (.aload_n 0, 1) := by decide +kernel
theorem dX7_settle_89 : decode cX7_settle 89 = .ok (.getfield 7, 3) := by decide +kernel
theorem dX7_settle_92 : decode cX7_settle 92 = .ok (.iload_n 2, 1) := by decide +kernel
theorem dX7_settle_93 : decode cX7_settle 93 = .ok (.bipush 7, 2) := by decide +kernel
theorem dX7_settle_95 : decode cX7_settle 95 = .ok (.invokestatic 54, 3) := by decide +kernel
theorem dX7_settle_98 : decode cX7_settle 98 = .ok (.aload_n 0, 1) := by decide +kernel
theorem dX7_settle_99 : decode cX7_settle 99 = .ok (.getfield 61, 3) := by decide +kernel
theorem dX7_settle_102 : decode cX7_settle 102 = .ok (.iastore, 1) := by decide +kernel
theorem dX7_settle_103 : decode cX7_settle 103 = .ok (.aload_n 0, 1) := by decide +kernel
theorem dX7_settle_104 : decode cX7_settle 104 = .ok (.getfield 7, 3) := by decide +kernel
theorem dX7_settle_107 : decode cX7_settle 107 = .ok (.sipush 288, 3) := by decide +kernel
theorem dX7_settle_110 : decode cX7_settle 110 = .ok (.dup2, 1) := by decide +kernel
theorem dX7_settle_111 : decode cX7_settle 111 = .ok (.iaload, 1) := by decide +kernel
theorem dX7_settle_112 : decode cX7_settle 112 = .ok (.aload_n 0, 1) := by decide +kernel
theorem dX7_settle_113 : decode cX7_settle 113 = .ok (.getfield 7, 3) := by decide +kernel
theorem dX7_settle_116 : decode cX7_settle 116 = .ok (.iload_n 2, 1) := by decide +kernel
theorem dX7_settle_117 : decode cX7_settle 117 = .ok (.bipush 6, 2) := by decide +kernel
theorem dX7_settle_119 : decode cX7_settle 119 = .ok (.invokestatic 54, 3) := by decide +kernel
theorem dX7_settle_122 : decode cX7_settle 122 = .ok (.iaload, 1) := by decide +kernel
theorem dX7_settle_123 : decode cX7_settle 123 = .ok (.iadd, 1) := by decide +kernel
theorem dX7_settle_124 : decode cX7_settle 124 = .ok (.iastore, 1) := by decide +kernel
theorem dX7_settle_125 : decode cX7_settle 125 = .ok (.iinc 2 1, 3) := by decide +kernel
theorem dX7_settle_128 : decode cX7_settle 128 = .ok (.goto (-66), 3) := by decide +kernel
theorem dX7_settle_131 : decode cX7_settle 131 = .ok (.iconst 0, 1) := by decide +kernel
theorem dX7_settle_132 : decode cX7_settle 132 = .ok (.istore_n 2, 1) := by decide +kernel
theorem dX7_settle_133 : decode cX7_settle 133 = .ok (.iload_n 2, 1) := by decide +kernel
theorem dX7_settle_134 : decode cX7_settle 134 = .ok (.aload_n 0, 1) := by decide +kernel
theorem dX7_settle_135 : decode cX7_settle 135 = .ok (.getfield 7, 3) := by decide +kernel
theorem dX7_settle_138 : decode cX7_settle 138 = .ok (.iconst 2, 1) := by decide +kernel
theorem dX7_settle_139 : decode cX7_settle 139 = .ok (.iaload, 1) := by decide +kernel
theorem dX7_settle_140 : decode cX7_settle 140 = .ok (.if_icmp .ge 45, 3) := by decide +kernel
theorem dX7_settle_143 : decode cX7_settle 143 = .ok (.aload_n 0, 1) := by decide +kernel
theorem dX7_settle_144 : decode cX7_settle 144 = .ok (.getfield 7, 3) := by decide +kernel
theorem dX7_settle_147 : decode cX7_settle 147 = .ok (.iload_n 2, 1) := by decide +kernel
theorem dX7_settle_148 : decode cX7_settle 148 = .ok (.iconst 4, 1) := by decide +kernel
theorem dX7_settle_149 : decode cX7_settle 149 = .ok (.invokestatic 75, 3) := by decide +kernel
theorem dX7_settle_152 : decode cX7_settle 152 = .ok (.aload_n 0, 1) := by decide +kernel
theorem dX7_settle_153 : decode cX7_settle 153 = .ok (.iload_n 2, 1) := by decide +kernel
theorem dX7_settle_154 : decode cX7_settle 154 = .ok (.invokevirtual 81, 3) := by decide +kernel
theorem dX7_settle_157 : decode cX7_settle 157 = .ok (.iastore, 1) := by decide +kernel
theorem dX7_settle_158 : decode cX7_settle 158 = .ok (.aload_n 0, 1) := by decide +kernel
theorem dX7_settle_159 : decode cX7_settle 159 = .ok (.getfield 7, 3) := by decide +kernel
theorem dX7_settle_162 : decode cX7_settle 162 = .ok (.sipush 289, 3) := by decide +kernel
theorem dX7_settle_165 : decode cX7_settle 165 = .ok (.dup2, 1) := by decide +kernel
theorem dX7_settle_166 : decode cX7_settle 166 = .ok (.iaload, 1) := by decide +kernel
theorem dX7_settle_167 : decode cX7_settle 167 = .ok (.aload_n 0, 1) := by decide +kernel
theorem dX7_settle_168 : decode cX7_settle 168 = .ok (.getfield 7, 3) := by decide +kernel
theorem dX7_settle_171 : decode cX7_settle 171 = .ok (.iload_n 2, 1) := by decide +kernel
theorem dX7_settle_172 : decode cX7_settle 172 = .ok (.iconst 4, 1) := by decide +kernel
theorem dX7_settle_173 : decode cX7_settle 173 = .ok (.invokestatic 75, 3) := by decide +kernel
theorem dX7_settle_176 : decode cX7_settle 176 = .ok (.iaload, 1) := by decide +kernel
theorem dX7_settle_177 : decode cX7_settle 177 = .ok (.iadd, 1) := by decide +kernel
theorem dX7_settle_178 : decode cX7_settle 178 = .ok (.iastore, 1) := by decide +kernel
theorem dX7_settle_179 : decode cX7_settle 179 = .ok (.iinc 2 1, 3) := by decide +kernel
theorem dX7_settle_182 : decode cX7_settle 182 = .ok (.goto (-49), 3) := by decide +kernel
theorem dX7_settle_185 : decode cX7_settle 185 = .ok (.iconst 0, 1) := by decide +kernel
theorem dX7_settle_186 : decode cX7_settle 186 = .ok (.istore_n 2, 1) := by decide +kernel
theorem dX7_settle_187 : decode cX7_settle 187 = .ok (.iload_n 2, 1) := by decide +kernel
theorem dX7_settle_188 : decode cX7_settle 188 = .ok (.bipush 10, 2) := by decide +kernel
theorem dX7_settle_190 : decode cX7_settle 190 = .ok (.if_icmp .ge 39, 3) := by decide +kernel
theorem dX7_settle_193 : decode cX7_settle 193 = .ok (.aload_n 0, 1) := by decide +kernel
theorem dX7_settle_194 : decode cX7_settle 194 = .ok (.getfield 7, 3) := by decide +kernel
theorem dX7_settle_197 : decode cX7_settle 197 = .ok (.bipush 46, 2) := by decide +kernel
theorem dX7_settle_199 : decode cX7_settle 199 = .ok (.iload_n 2, 1) := by decide +kernel
theorem dX7_settle_200 : decode cX7_settle 200 = .ok (.iadd, 1) := by decide +kernel
theorem dX7_settle_201 : decode cX7_settle 201 = .ok (.aload_n 0, 1) := by decide +kernel
theorem dX7_settle_202 : decode cX7_settle 202 = .ok (.getfield 21, 3) := by decide +kernel
theorem dX7_settle_205 : decode cX7_settle 205 = .ok (.iload_n 2, 1) := by decide +kernel
theorem dX7_settle_206 : decode cX7_settle 206 = .ok (.iaload, 1) := by decide +kernel
theorem dX7_settle_207 : decode cX7_settle 207 = .ok (.iastore, 1) := by decide +kernel
theorem dX7_settle_208 : decode cX7_settle 208 = .ok (.aload_n 0, 1) := by decide +kernel
theorem dX7_settle_209 : decode cX7_settle 209 = .ok (.getfield 7, 3) := by decide +kernel
theorem dX7_settle_212 : decode cX7_settle 212 = .ok (.bipush 56, 2) := by decide +kernel
theorem dX7_settle_214 : decode cX7_settle 214 = .ok (.iload_n 2, 1) := by decide +kernel
theorem dX7_settle_215 : decode cX7_settle 215 = .ok (.iadd, 1) := by decide +kernel
theorem dX7_settle_216 : decode cX7_settle 216 = .ok (.aload_n 0, 1) := by decide +kernel
theorem dX7_settle_217 : decode cX7_settle 217 = .ok (.getfield 24, 3) := by decide +kernel
theorem dX7_settle_220 : decode cX7_settle 220 = .ok (.iload_n 2, 1) := by decide +kernel
theorem dX7_settle_221 : decode cX7_settle 221 = .ok (.iaload, 1) := by decide +kernel
theorem dX7_settle_222 : decode cX7_settle 222 = .ok (.iastore, 1) := by decide +kernel
theorem dX7_settle_223 : decode cX7_settle 223 = .ok (.iinc 2 1, 3) := by decide +kernel
theorem dX7_settle_226 : decode cX7_settle 226 = .ok (.goto (-39), 3) := by decide +kernel
theorem dX7_settle_229 : decode cX7_settle 229 = .ok (.aload_n 0, 1) := by decide +kernel
theorem dX7_settle_230 : decode cX7_settle 230 = .ok (.getfield 7, 3) := by decide +kernel
theorem dX7_settle_233 : decode cX7_settle 233 = .ok (.iconst 3, 1) := by decide +kernel
theorem dX7_settle_234 : decode cX7_settle 234 = .ok (.iconst 1, 1) := by decide +kernel
theorem dX7_settle_235 : decode cX7_settle 235 = .ok (.iastore, 1) := by decide +kernel
theorem dX7_settle_236 : decode cX7_settle 236 = .ok (.aload_n 0, 1) := by decide +kernel
theorem dX7_settle_237 : decode cX7_settle 237 = .ok (.iconst 0, 1) := by decide +kernel
theorem dX7_settle_238 : decode cX7_settle 238 = .ok (.putfield 87, 3) := by decide +kernel
theorem dX7_settle_241 : decode cX7_settle 241 = .ok (.iload_n 1, 1) := by decide +kernel
theorem dX7_settle_242 : decode cX7_settle 242 = .ok (.ldc 123, 2) := by decide +kernel
theorem dX7_settle_244 : decode cX7_settle 244 = .ok (.iadd, 1) := by decide +kernel
theorem dX7_settle_245 : decode cX7_settle 245 = .ok (.ireturn, 1) := by decide +kernel
set_option maxRecDepth 20000 in
theorem ggX7_set_X7_in : GoodIn wsX7_set wsX7_in := goodIn_r _ [6] (by decide +kernel) (by decide +kernel)
set_option maxRecDepth 20000 in
theorem gX7_set_X7_in : GoodIn wsX7_set (va_wsS RX7 38 yX7_in wsX7_in) := goodIn_app (goodIn_of _ (by decide +kernel)) ggX7_set_X7_in
set_option maxRecDepth 20000 in
theorem ggX7_set_X7_isOpen : GoodIn wsX7_set wsX7_isOpen := goodIn_r _ [10, 2, 25, 26, 27, 28, 29, 30, 31, 32, 33, 34] (by decide +kernel) (by decide +kernel)
set_option maxRecDepth 20000 in
theorem gX7_set_X7_isOpen : GoodIn wsX7_set (wsV RX7 100 RX7 yX7_isOpen wsX7_isOpen) := goodIn_app (goodIn_of _ (by decide +kernel)) ggX7_set_X7_isOpen
set_option maxRecDepth 20000 in
theorem ggX7_set_X7_goes : GoodIn wsX7_set wsX7_goes := goodIn_r _ [14, 15, 25, 26, 27, 28, 29, 30, 31, 32, 33, 34] (by decide +kernel) (by decide +kernel)
set_option maxRecDepth 20000 in
theorem gX7_set_X7_goes : GoodIn wsX7_set (wsV RX7 104 RX7 yX7_goes wsX7_goes) := goodIn_app (goodIn_of _ (by decide +kernel)) ggX7_set_X7_goes
set_option maxRecDepth 20000 in
theorem ggX7_set_X7_saves : GoodIn wsX7_set wsX7_saves := goodIn_r _ [19, 20, 21, 22, 23, 5, 24, 2, 25, 26, 27, 28, 29, 30, 31, 32, 33, 34] (by decide +kernel) (by decide +kernel)
set_option maxRecDepth 20000 in
theorem gX7_set_X7_saves : GoodIn wsX7_set (wsV RX7 108 RX7 yX7_saves wsX7_saves) := goodIn_app (goodIn_of _ (by decide +kernel)) ggX7_set_X7_saves
theorem dX7_set_0 : decode cX7_set 0 = .ok (.iload_n 1, 1) := by decide +kernel
theorem dX7_set_1 : decode cX7_set 1 = .ok (.ifCond .ne 21, 3) := by decide +kernel
theorem dX7_set_4 : decode cX7_set 4 = .ok (.iload_n 2, 1) := by decide +kernel
theorem dX7_set_5 : decode cX7_set 5 = .ok (.iconst 4, 1) := by decide +kernel
theorem dX7_set_6 : decode cX7_set 6 = .ok (.if_icmp .eq 8, 3) := by decide +kernel
theorem dX7_set_9 : decode cX7_set 9 = .ok (.iload_n 2, 1) := by decide +kernel
theorem dX7_set_10 : decode cX7_set 10 = .ok (.iconst 5, 1) := by decide +kernel
theorem dX7_set_11 : decode cX7_set 11 = .ok (.if_icmp .ne 7, 3) := by decide +kernel
theorem dX7_set_14 : decode cX7_set 14 = .ok (.iconst 1, 1) := by decide +kernel
theorem dX7_set_15 : decode cX7_set 15 = .ok (.goto 14, 3) := by decide +kernel
theorem dX7_set_18 : decode cX7_set 18 = .ok (.iconst 0, 1) := by decide +kernel
theorem dX7_set_19 : decode cX7_set 19 = .ok (.goto 10, 3) := by decide +kernel
theorem dX7_set_22 : decode cX7_set 22 = .ok (.iload_n 2, 1) := by decide +kernel
theorem dX7_set_23 : decode cX7_set 23 = .ok (.iconst 0, 1) := by decide +kernel
theorem dX7_set_24 : decode cX7_set 24 = .ok (.ldc 124, 2) := by decide +kernel
theorem dX7_set_26 : decode cX7_set 26 = .ok (.invokestatic 38, 3) := by decide +kernel
theorem dX7_set_29 : decode cX7_set 29 = .ok (.istore_n 3, 1) := by decide +kernel
theorem dX7_set_30 : decode cX7_set 30 = .ok (.aload_n 0, 1) := by decide +kernel
theorem dX7_set_31 : decode cX7_set 31 = .ok (.iload_n 1, 1) := by decide +kernel
theorem dX7_set_32 : decode cX7_set 32 = .ok (.iconst 0, 1) := by decide +kernel
theorem dX7_set_33 : decode cX7_set 33 = .ok (.iconst 1, 1) := by decide +kernel
theorem dX7_set_34 : decode cX7_set 34 = .ok (.invokestatic 38, 3) := by decide +kernel
theorem dX7_set_37 : decode cX7_set 37 = .ok (.iload_n 3, 1) := by decide +kernel
theorem dX7_set_38 : decode cX7_set 38 = .ok (.aload_n 0, 1) := by decide +kernel
theorem dX7_set_39 : decode cX7_set 39 = .ok (.invokevirtual 100, 3) := by decide +kernel
theorem dX7_set_42 : decode cX7_set 42 = .ok (.invokevirtual 104, 3) := by decide +kernel
theorem dX7_set_45 : decode cX7_set 45 = .ok (.ifCond .ne 5, 3) := by decide +kernel
theorem dX7_set_48 : decode cX7_set 48 = .ok (.iconst 0, 1) := by decide +kernel
theorem dX7_set_49 : decode cX7_set 49 = .ok (.ireturn, 1) := by decide +kernel
theorem dX7_set_50 : decode cX7_set 50 = .ok (.aload_n 0, 1) := by decide +kernel
theorem dX7_set_51 : decode cX7_set 51 = .ok (.invokevirtual 108, 3) := by decide +kernel
theorem dX7_set_54 : decode cX7_set 54 = .ok (.aload_n 0, 1) := by decide +kernel
theorem dX7_set_55 : decode cX7_set 55 = .ok (.getfield 7, 3) := by decide +kernel
theorem dX7_set_58 : decode cX7_set 58 = .ok (.iconst 4, 1) := by decide +kernel
theorem dX7_set_59 : decode cX7_set 59 = .ok (.iload_n 1, 1) := by decide +kernel
theorem dX7_set_60 : decode cX7_set 60 = .ok (.iadd, 1) := by decide +kernel
theorem dX7_set_61 : decode cX7_set 61 = .ok (.iaload, 1) := by decide +kernel
theorem dX7_set_62 : decode cX7_set 62 = .ok (.istore 4, 2) := by decide +kernel
theorem dX7_set_64 : decode cX7_set 64 = .ok (.aload_n 0, 1) := by decide +kernel
theorem dX7_set_65 : decode cX7_set 65 = .ok (.getfield 7, 3) := by decide +kernel
theorem dX7_set_68 : decode cX7_set 68 = .ok (.iconst 4, 1) := by decide +kernel
theorem dX7_set_69 : decode cX7_set 69 = .ok (.iload_n 1, 1) := by decide +kernel
theorem dX7_set_70 : decode cX7_set 70 = .ok (.iadd, 1) := by decide +kernel
theorem dX7_set_71 : decode cX7_set 71 = .ok (.iload_n 2, 1) := by decide +kernel
theorem dX7_set_72 : decode cX7_set 72 = .ok (.iastore, 1) := by decide +kernel
theorem dX7_set_73 : decode cX7_set 73 = .ok (.iload 4, 2) := by decide +kernel
theorem dX7_set_75 : decode cX7_set 75 = .ok (.ireturn, 1) := by decide +kernel
set_option maxRecDepth 20000 in
theorem ggX7_append_X7_in : GoodIn wsX7_append wsX7_in := goodIn_r _ [6] (by decide +kernel) (by decide +kernel)
set_option maxRecDepth 20000 in
theorem gX7_append_X7_in : GoodIn wsX7_append (va_wsS RX7 38 yX7_in wsX7_in) := goodIn_app (goodIn_of _ (by decide +kernel)) ggX7_append_X7_in
set_option maxRecDepth 20000 in
theorem ggX7_append_X7_goes : GoodIn wsX7_append wsX7_goes := goodIn_r _ [10, 11, 12, 13, 14, 15, 16, 17, 18, 19, 20, 21] (by decide +kernel) (by decide +kernel)
set_option maxRecDepth 20000 in
theorem gX7_append_X7_goes : GoodIn wsX7_append (wsV RX7 104 RX7 yX7_goes wsX7_goes) := goodIn_app (goodIn_of _ (by decide +kernel)) ggX7_append_X7_goes
theorem dX7_append_0 : decode cX7_append 0 = .ok (.aload_n 0, 1) := by decide +kernel
theorem dX7_append_1 : decode cX7_append 1 = .ok (.iload_n 1, 1) := by decide +kernel
theorem dX7_append_2 : decode cX7_append 2 = .ok (.bipush 33, 2) := by decide +kernel
theorem dX7_append_4 : decode cX7_append 4 = .ok (.bipush 126, 2) := by decide +kernel
theorem dX7_append_6 : decode cX7_append 6 = .ok (.invokestatic 38, 3) := by decide +kernel
theorem dX7_append_9 : decode cX7_append 9 = .ok (.aload_n 0, 1) := by decide +kernel
theorem dX7_append_10 : decode cX7_append 10 = .ok (.getfield 87, 3) := by decide +kernel
theorem dX7_append_13 : decode cX7_append 13 = .ok (.bipush 30, 2) := by decide +kernel
theorem dX7_append_15 : decode cX7_append 15 = .ok (.if_icmp .ge 7, 3) := by decide +kernel
theorem dX7_append_18 : decode cX7_append 18 = .ok (.iconst 1, 1) := by decide +kernel
theorem dX7_append_19 : decode cX7_append 19 = .ok (.goto 4, 3) := by decide +kernel
theorem dX7_append_22 : decode cX7_append 22 = .ok (.iconst 0, 1) := by decide +kernel
theorem dX7_append_23 : decode cX7_append 23 = .ok (.iconst 1, 1) := by decide +kernel
theorem dX7_append_24 : decode cX7_append 24 = .ok (.invokevirtual 104, 3) := by decide +kernel
theorem dX7_append_27 : decode cX7_append 27 = .ok (.ifCond .ne 5, 3) := by decide +kernel
theorem dX7_append_30 : decode cX7_append 30 = .ok (.iconst 0, 1) := by decide +kernel
theorem dX7_append_31 : decode cX7_append 31 = .ok (.ireturn, 1) := by decide +kernel
theorem dX7_append_32 : decode cX7_append 32 = .ok (.aload_n 0, 1) := by decide +kernel
theorem dX7_append_33 : decode cX7_append 33 = .ok (.getfield 17, 3) := by decide +kernel
theorem dX7_append_36 : decode cX7_append 36 = .ok (.aload_n 0, 1) := by decide +kernel
theorem dX7_append_37 : decode cX7_append 37 = .ok (.getfield 87, 3) := by decide +kernel
theorem dX7_append_40 : decode cX7_append 40 = .ok (.iload_n 1, 1) := by decide +kernel
theorem dX7_append_41 : decode cX7_append 41 = .ok (.i2c, 1) := by decide +kernel
theorem dX7_append_42 : decode cX7_append 42 = .ok (.castore, 1) := by decide +kernel
theorem dX7_append_43 : decode cX7_append 43 = .ok (.aload_n 0, 1) := by decide +kernel
theorem dX7_append_44 : decode cX7_append 44 = .ok (.dup, 1) := by decide +kernel
theorem dX7_append_45 : decode cX7_append 45 = .ok (.getfield 87, 3) := by decide +kernel
theorem dX7_append_48 : decode cX7_append 48 = .ok (.iconst 1, 1) := by decide +kernel
theorem dX7_append_49 : decode cX7_append 49 = .ok (.iadd, 1) := by decide +kernel
theorem dX7_append_50 : decode cX7_append 50 = .ok (.putfield 87, 3) := by decide +kernel
theorem dX7_append_53 : decode cX7_append 53 = .ok (.aload_n 0, 1) := by decide +kernel
theorem dX7_append_54 : decode cX7_append 54 = .ok (.getfield 87, 3) := by decide +kernel
theorem dX7_append_57 : decode cX7_append 57 = .ok (.ireturn, 1) := by decide +kernel
theorem dX7_clearBuffer_0 : decode cX7_clearBuffer 0 = .ok (.aload_n 0, 1) := by decide +kernel
theorem dX7_clearBuffer_1 : decode cX7_clearBuffer 1 = .ok (.iconst 0, 1) := by decide +kernel
theorem dX7_clearBuffer_2 : decode cX7_clearBuffer 2 = .ok (.putfield 27, 3) := by decide +kernel
theorem dX7_clearBuffer_5 : decode cX7_clearBuffer 5 = .ok (.aload_n 0, 1) := by decide +kernel
theorem dX7_clearBuffer_6 : decode cX7_clearBuffer 6 = .ok (.getfield 87, 3) := by decide +kernel
theorem dX7_clearBuffer_9 : decode cX7_clearBuffer 9 = .ok (.istore_n 1, 1) := by decide +kernel
theorem dX7_clearBuffer_10 : decode cX7_clearBuffer 10 = .ok (.aload_n 0, 1) := by decide +kernel
theorem dX7_clearBuffer_11 : decode cX7_clearBuffer 11 = .ok (.iconst 0, 1) := by decide +kernel
theorem dX7_clearBuffer_12 : decode cX7_clearBuffer 12 = .ok (.putfield 87, 3) := by decide +kernel
theorem dX7_clearBuffer_15 : decode cX7_clearBuffer 15 = .ok (.iload_n 1, 1) := by decide +kernel
theorem dX7_clearBuffer_16 : decode cX7_clearBuffer 16 = .ok (.ireturn, 1) := by decide +kernel
set_option maxRecDepth 20000 in
theorem ggX7_firstError_X7_isArrival : GoodIn wsX7_firstError wsX7_isArrival := goodIn_r _ [7, 2, 8, 9, 10, 11, 6, 12, 13, 14, 15, 16, 17, 18, 19, 20, 21, 22] (by decide +kernel) (by decide +kernel)
set_option maxRecDepth 20000 in
theorem gX7_firstError_X7_isArrival : GoodIn wsX7_firstError (wsV RX7 114 RX7 yX7_isArrival wsX7_isArrival) := goodIn_app (goodIn_of _ (by decide +kernel)) ggX7_firstError_X7_isArrival
theorem dX7_firstError_0 : decode cX7_firstError 0 = .ok (.aload_n 0, 1) := by decide +kernel
theorem dX7_firstError_1 : decode cX7_firstError 1 = .ok (.iconst 0, 1) := by decide +kernel
theorem dX7_firstError_2 : decode cX7_firstError 2 = .ok (.putfield 27, 3) := by decide +kernel
theorem dX7_firstError_5 : decode cX7_firstError 5 = .ok (.aload_n 0, 1) := by decide +kernel
theorem dX7_firstError_6 : decode cX7_firstError 6 = .ok (.invokevirtual 114, 3) := by decide +kernel
theorem dX7_firstError_9 : decode cX7_firstError 9 = .ok (.pop, 1) := by decide +kernel
theorem dX7_firstError_10 : decode cX7_firstError 10 = .ok (.aload_n 0, 1) := by decide +kernel
theorem dX7_firstError_11 : decode cX7_firstError 11 = .ok (.getfield 84, 3) := by decide +kernel
theorem dX7_firstError_14 : decode cX7_firstError 14 = .ok (.ireturn, 1) := by decide +kernel
set_option maxRecDepth 20000 in
theorem ggX7_keep_X7_in : GoodIn wsX7_keep wsX7_in := goodIn_r _ [6] (by decide +kernel) (by decide +kernel)
set_option maxRecDepth 20000 in
theorem gX7_keep_X7_in : GoodIn wsX7_keep (va_wsS RX7 38 yX7_in wsX7_in) := goodIn_app (goodIn_of _ (by decide +kernel)) ggX7_keep_X7_in
set_option maxRecDepth 20000 in
theorem ggX7_keep_X7_goes : GoodIn wsX7_keep wsX7_goes := goodIn_r _ [10, 11, 16, 17, 18, 19, 20, 21, 22, 23, 24, 25] (by decide +kernel) (by decide +kernel)
set_option maxRecDepth 20000 in
theorem gX7_keep_X7_goes : GoodIn wsX7_keep (wsV RX7 104 RX7 yX7_goes wsX7_goes) := goodIn_app (goodIn_of _ (by decide +kernel)) ggX7_keep_X7_goes
set_option maxRecDepth 20000 in
theorem ggX7_keep_X7_copies : GoodIn wsX7_keep wsX7_copies := goodIn_r _ [15, 2, 16, 17, 18, 19, 20, 21, 22, 23, 24, 25] (by decide +kernel) (by decide +kernel)
set_option maxRecDepth 20000 in
theorem gX7_keep_X7_copies : GoodIn wsX7_keep (wsV RX7 34 RX7 yX7_copies wsX7_copies) := goodIn_app (goodIn_of _ (by decide +kernel)) ggX7_keep_X7_copies
theorem dX7_keep_0 : decode cX7_keep 0 = .ok (.aload_n 0, 1) := by decide +kernel
theorem dX7_keep_1 : decode cX7_keep 1 = .ok (.iload_n 1, 1) := by decide +kernel
theorem dX7_keep_2 : decode cX7_keep 2 = .ok (.iconst 0, 1) := by decide +kernel
theorem dX7_keep_3 : decode cX7_keep 3 = .ok (.iconst 1, 1) := by decide +kernel
theorem dX7_keep_4 : decode cX7_keep 4 = .ok (.invokestatic 38, 3) := by decide +kernel
theorem dX7_keep_7 : decode cX7_keep 7 = .ok (.iconst 1, 1) := by decide +kernel
theorem dX7_keep_8 : decode cX7_keep 8 = .ok (.iconst 1, 1) := by decide +kernel
theorem dX7_keep_9 : decode cX7_keep 9 = .ok (.invokevirtual 104, 3) := by decide +kernel
theorem dX7_keep_12 : decode cX7_keep 12 = .ok (.ifCond .ne 5, 3) := by decide +kernel
theorem dX7_keep_15 : decode cX7_keep 15 = .ok (.iconst 0, 1) := by decide +kernel
theorem dX7_keep_16 : decode cX7_keep 16 = .ok (.ireturn, 1) := by decide +kernel
theorem dX7_keep_17 : decode cX7_keep 17 = .ok (.aload_n 0, 1) := by decide +kernel
theorem dX7_keep_18 : decode cX7_keep 18 = .ok (.iconst 0, 1) := by decide +kernel
theorem dX7_keep_19 : decode cX7_keep 19 = .ok (.bipush 7, 2) := by decide +kernel
theorem dX7_keep_21 : decode cX7_keep 21 = .ok (.iload_n 1, 1) := by decide +kernel
theorem dX7_keep_22 : decode cX7_keep 22 = .ok (.iadd, 1) := by decide +kernel
theorem dX7_keep_23 : decode cX7_keep 23 = .ok (.invokevirtual 34, 3) := by decide +kernel
theorem dX7_keep_26 : decode cX7_keep 26 = .ok (.aload_n 0, 1) := by decide +kernel
theorem dX7_keep_27 : decode cX7_keep 27 = .ok (.getfield 13, 3) := by decide +kernel
theorem dX7_keep_30 : decode cX7_keep 30 = .ok (.iload_n 1, 1) := by decide +kernel
theorem dX7_keep_31 : decode cX7_keep 31 = .ok (.iconst 1, 1) := by decide +kernel
theorem dX7_keep_32 : decode cX7_keep 32 = .ok (.bastore, 1) := by decide +kernel
theorem dX7_keep_33 : decode cX7_keep 33 = .ok (.aload_n 0, 1) := by decide +kernel
theorem dX7_keep_34 : decode cX7_keep 34 = .ok (.getfield 7, 3) := by decide +kernel
theorem dX7_keep_37 : decode cX7_keep 37 = .ok (.iconst 1, 1) := by decide +kernel
theorem dX7_keep_38 : decode cX7_keep 38 = .ok (.iaload, 1) := by decide +kernel
theorem dX7_keep_39 : decode cX7_keep 39 = .ok (.ireturn, 1) := by decide +kernel
set_option maxRecDepth 20000 in
theorem ggX7_goBack_X7_in : GoodIn wsX7_goBack wsX7_in := goodIn_r _ [6] (by decide +kernel) (by decide +kernel)
set_option maxRecDepth 20000 in
theorem gX7_goBack_X7_in : GoodIn wsX7_goBack (va_wsS RX7 38 yX7_in wsX7_in) := goodIn_app (goodIn_of _ (by decide +kernel)) ggX7_goBack_X7_in
set_option maxRecDepth 20000 in
theorem ggX7_goBack_X7_goes : GoodIn wsX7_goBack wsX7_goes := goodIn_r _ [10, 11, 21, 22, 23, 24, 25, 26, 27, 28, 29, 30] (by decide +kernel) (by decide +kernel)
set_option maxRecDepth 20000 in
theorem gX7_goBack_X7_goes : GoodIn wsX7_goBack (wsV RX7 104 RX7 yX7_goes wsX7_goes) := goodIn_app (goodIn_of _ (by decide +kernel)) ggX7_goBack_X7_goes
set_option maxRecDepth 20000 in
theorem ggX7_goBack_X7_saves : GoodIn wsX7_goBack wsX7_saves := goodIn_r _ [15, 16, 17, 18, 19, 5, 20, 2, 21, 22, 23, 24, 25, 26, 27, 28, 29, 30] (by decide +kernel) (by decide +kernel)
set_option maxRecDepth 20000 in
theorem gX7_goBack_X7_saves : GoodIn wsX7_goBack (wsV RX7 108 RX7 yX7_saves wsX7_saves) := goodIn_app (goodIn_of _ (by decide +kernel)) ggX7_goBack_X7_saves
set_option maxRecDepth 20000 in
theorem ggX7_goBack_X7_copies : GoodIn wsX7_goBack wsX7_copies := goodIn_r _ [20, 2, 21, 22, 23, 24, 25, 26, 27, 28, 29, 30] (by decide +kernel) (by decide +kernel)
set_option maxRecDepth 20000 in
theorem gX7_goBack_X7_copies : GoodIn wsX7_goBack (wsV RX7 34 RX7 yX7_copies wsX7_copies) := goodIn_app (goodIn_of _ (by decide +kernel)) ggX7_goBack_X7_copies
theorem dX7_goBack_0 : decode cX7_goBack 0 = .ok (.aload_n 0, 1) := by decide +kernel
theorem dX7_goBack_1 : decode cX7_goBack 1 = .ok (.iload_n 1, 1) := by decide +kernel
theorem dX7_goBack_2 : decode cX7_goBack 2 = .ok (.iconst 0, 1) := by decide +kernel
theorem dX7_goBack_3 : decode cX7_goBack 3 = .ok (.iconst 1, 1) := by decide +kernel
theorem dX7_goBack_4 : decode cX7_goBack 4 = .ok (.invokestatic 38, 3) := by decide +kernel
theorem dX7_goBack_7 : decode cX7_goBack 7 = .ok (.iload_n 1, 1) := by decide +kernel
theorem dX7_goBack_8 : decode cX7_goBack 8 = .ok (.iconst 0, 1) := by decide +kernel
theorem dX7_goBack_9 : decode cX7_goBack 9 = .ok (.iconst 1, 1) := by decide +kernel
theorem dX7_goBack_10 : decode cX7_goBack 10 = .ok (.invokestatic 38, 3) := by decide +kernel
theorem dX7_goBack_13 : decode cX7_goBack 13 = .ok (.ifCond .eq 16, 3) := by decide +kernel
theorem dX7_goBack_16 : decode cX7_goBack 16 = .ok (.aload_n 0, 1) := by decide +kernel
theorem dX7_goBack_17 : decode cX7_goBack 17 = .ok (.getfield 13, 3) := by decide +kernel
theorem dX7_goBack_20 : decode cX7_goBack 20 = .ok (.iload_n 1, 1) := by decide +kernel
theorem dX7_goBack_21 : decode cX7_goBack 21 = .ok (.baload, 1) := by decide +kernel
theorem dX7_goBack_22 : decode cX7_goBack 22 = .ok (.ifCond .eq 7, 3) := by decide +kernel
theorem dX7_goBack_25 : decode cX7_goBack 25 = .ok (.iconst 1, 1) := by decide +kernel
theorem dX7_goBack_26 : decode cX7_goBack 26 = .ok (.goto 4, 3) := by decide +kernel
theorem dX7_goBack_29 : decode cX7_goBack 29 = .ok (.iconst 0, 1) := by decide +kernel
theorem dX7_goBack_30 : decode cX7_goBack 30 = .ok (.iconst 1, 1) := by decide +kernel
theorem dX7_goBack_31 : decode cX7_goBack 31 = .ok (.invokevirtual 104, 3) := by decide +kernel
theorem dX7_goBack_34 : decode cX7_goBack 34 = .ok (.ifCond .ne 5, 3) := by decide +kernel
theorem dX7_goBack_37 : decode cX7_goBack 37 = .ok (.iconst 0, 1) := by decide +kernel
theorem dX7_goBack_38 : decode cX7_goBack 38 = .ok (.ireturn, 1) := by decide +kernel
theorem dX7_goBack_39 : decode cX7_goBack 39 = .ok (.aload_n 0, 1) := by decide +kernel
theorem dX7_goBack_40 : decode cX7_goBack 40 = .ok (.invokevirtual 108, 3) := by decide +kernel
theorem dX7_goBack_43 : decode cX7_goBack 43 = .ok (.aload_n 0, 1) := by decide +kernel
theorem dX7_goBack_44 : decode cX7_goBack 44 = .ok (.bipush 7, 2) := by decide +kernel
theorem dX7_goBack_46 : decode cX7_goBack 46 = .ok (.iload_n 1, 1) := by decide +kernel
theorem dX7_goBack_47 : decode cX7_goBack 47 = .ok (.iadd, 1) := by decide +kernel
theorem dX7_goBack_48 : decode cX7_goBack 48 = .ok (.iconst 0, 1) := by decide +kernel
theorem dX7_goBack_49 : decode cX7_goBack 49 = .ok (.invokevirtual 34, 3) := by decide +kernel
theorem dX7_goBack_52 : decode cX7_goBack 52 = .ok (.aload_n 0, 1) := by decide +kernel
theorem dX7_goBack_53 : decode cX7_goBack 53 = .ok (.getfield 7, 3) := by decide +kernel
theorem dX7_goBack_56 : decode cX7_goBack 56 = .ok (.iconst 1, 1) := by decide +kernel
theorem dX7_goBack_57 : decode cX7_goBack 57 = .ok (.iaload, 1) := by decide +kernel
theorem dX7_goBack_58 : decode cX7_goBack 58 = .ok (.ireturn, 1) := by decide +kernel
set_option maxRecDepth 20000 in
theorem ggX7_undo_X7_goes : GoodIn wsX7_undo wsX7_goes := goodIn_r _ [6, 7, 13, 14, 15, 16, 17, 18, 19, 20, 21, 22] (by decide +kernel) (by decide +kernel)
set_option maxRecDepth 20000 in
theorem gX7_undo_X7_goes : GoodIn wsX7_undo (wsV RX7 104 RX7 yX7_goes wsX7_goes) := goodIn_app (goodIn_of _ (by decide +kernel)) ggX7_undo_X7_goes
set_option maxRecDepth 20000 in
theorem ggX7_undo_X7_copies : GoodIn wsX7_undo wsX7_copies := goodIn_r _ [11, 12, 13, 14, 15, 16, 17, 18, 19, 20, 21, 22] (by decide +kernel) (by decide +kernel)
set_option maxRecDepth 20000 in
theorem gX7_undo_X7_copies : GoodIn wsX7_undo (wsV RX7 34 RX7 yX7_copies wsX7_copies) := goodIn_app (goodIn_of _ (by decide +kernel)) ggX7_undo_X7_copies
theorem dX7_undo_0 : decode cX7_undo 0 = .ok (.aload_n 0, 1) := by decide +kernel
theorem dX7_undo_1 : decode cX7_undo 1 = .ok (.aload_n 0, 1) := by decide +kernel
theorem dX7_undo_2 : decode cX7_undo 2 = .ok (.getfield 31, 3) := by decide +kernel
theorem dX7_undo_5 : decode cX7_undo 5 = .ok (.ifCond .le 7, 3) := by decide +kernel
theorem dX7_undo_8 : decode cX7_undo 8 = .ok (.iconst 1, 1) := by decide +kernel
theorem dX7_undo_9 : decode cX7_undo 9 = .ok (.goto 4, 3) := by decide +kernel
theorem dX7_undo_12 : decode cX7_undo 12 = .ok (.iconst 0, 1) := by decide +kernel
theorem dX7_undo_13 : decode cX7_undo 13 = .ok (.iconst 1, 1) := by decide +kernel
theorem dX7_undo_14 : decode cX7_undo 14 = .ok (.iconst 1, 1) := by decide +kernel
theorem dX7_undo_15 : decode cX7_undo 15 = .ok (.invokevirtual 104, 3) := by decide +kernel
theorem dX7_undo_18 : decode cX7_undo 18 = .ok (.ifCond .ne 5, 3) := by decide +kernel
theorem dX7_undo_21 : decode cX7_undo 21 = .ok (.iconst 0, 1) := by decide +kernel
theorem dX7_undo_22 : decode cX7_undo 22 = .ok (.ireturn, 1) := by decide +kernel
theorem dX7_undo_23 : decode cX7_undo 23 = .ok (.aload_n 0, 1) := by decide +kernel
theorem dX7_undo_24 : decode cX7_undo 24 = .ok (.aload_n 0, 1) := by decide +kernel
theorem dX7_undo_25 : decode cX7_undo 25 = .ok (.getfield 31, 3) := by decide +kernel
theorem dX7_undo_28 : decode cX7_undo 28 = .ok (.iconst 0, 1) := by decide +kernel
theorem dX7_undo_29 : decode cX7_undo 29 = .ok (.invokevirtual 34, 3) := by decide +kernel
theorem dX7_undo_32 : decode cX7_undo 32 = .ok (.aload_n 0, 1) := by decide +kernel
theorem dX7_undo_33 : decode cX7_undo 33 = .ok (.dup, 1) := by decide +kernel
theorem dX7_undo_34 : decode cX7_undo 34 = .ok (.getfield 31, 3) := by decide +kernel
theorem dX7_undo_37 : decode cX7_undo 37 = .ok (.iconst 1, 1) := by decide +kernel
theorem dX7_undo_38 : decode cX7_undo 38 = .ok (.isub, 1) := by decide +kernel
theorem dX7_undo_39 : decode cX7_undo 39 = .ok (.putfield 31, 3) := by decide +kernel
theorem dX7_undo_42 : decode cX7_undo 42 = .ok (.aload_n 0, 1) := by decide +kernel
theorem dX7_undo_43 : decode cX7_undo 43 = .ok (.getfield 31, 3) := by decide +kernel
theorem dX7_undo_46 : decode cX7_undo 46 = .ok (.ireturn, 1) := by decide +kernel
set_option maxRecDepth 20000 in
theorem ggX7_stakes_X7_of : GoodIn wsX7_stakes wsX7_of := goodIn_r _ [5] (by decide +kernel) (by decide +kernel)
set_option maxRecDepth 20000 in
theorem gX7_stakes_X7_of : GoodIn wsX7_stakes (va_wsS RX7 54 yX7_of wsX7_of) := goodIn_app (goodIn_of _ (by decide +kernel)) ggX7_stakes_X7_of
theorem dX7_stakes_0 : decode cX7_stakes 0 = .ok (.iconst 0, 1) := by decide +kernel
theorem dX7_stakes_1 : decode cX7_stakes 1 = .ok (.istore_n 3, 1) := by decide +kernel
theorem dX7_stakes_2 : decode cX7_stakes 2 = .ok (.iconst 0, 1) := by decide +kernel
theorem dX7_stakes_3 : decode cX7_stakes 3 = .ok (.istore 4, 2) := by decide +kernel
theorem dX7_stakes_5 : decode cX7_stakes 5 = .ok (.iload 4, 2) := by decide +kernel
theorem dX7_stakes_7 : decode cX7_stakes 7 = .ok (.aload_n 0, 1) := by decide +kernel
theorem dX7_stakes_8 : decode cX7_stakes 8 = .ok (.getfield 7, 3) := by decide +kernel
theorem dX7_stakes_11 : decode cX7_stakes 11 = .ok (.iconst 1, 1) := by decide +kernel
theorem dX7_stakes_12 : decode cX7_stakes 12 = .ok (.iaload, 1) := by decide +kernel
theorem dX7_stakes_13 : decode cX7_stakes 13 = .ok (.if_icmp .ge 62, 3) := by decide +kernel
theorem dX7_stakes_16 : decode cX7_stakes 16 = .ok (.iload_n 3, 1) := by decide +kernel
theorem dX7_stakes_17 : decode cX7_stakes 17 = .ok (.aload_n 0, 1) := by decide +kernel
theorem dX7_stakes_18 : decode cX7_stakes 18 = .ok (.getfield 7, 3) := by decide +kernel
theorem dX7_stakes_21 : decode cX7_stakes 21 = .ok (.iload 4, 2) := by decide +kernel
theorem dX7_stakes_23 : decode cX7_stakes 23 = .ok (.iconst 0, 1) := by decide +kernel
theorem dX7_stakes_24 : decode cX7_stakes 24 = .ok (.invokestatic 54, 3) := by decide +kernel
theorem dX7_stakes_27 : decode cX7_stakes 27 = .ok (.iaload, 1) := by decide +kernel
theorem dX7_stakes_28 : decode cX7_stakes 28 = .ok (.iload_n 1, 1) := by decide +kernel
theorem dX7_stakes_29 : decode cX7_stakes 29 = .ok (.if_icmp .ne 37, 3) := by decide +kernel
theorem dX7_stakes_32 : decode cX7_stakes 32 = .ok (.aload_n 0, 1) := by decide +kernel
theorem dX7_stakes_33 : decode cX7_stakes 33 = .ok (.getfield 7, 3) := by decide +kernel
theorem dX7_stakes_36 : decode cX7_stakes 36 = .ok (.iload 4, 2) := by decide +kernel
theorem dX7_stakes_38 : decode cX7_stakes 38 = .ok (.iconst 1, 1) := by decide +kernel
theorem dX7_stakes_39 : decode cX7_stakes 39 = .ok (.invokestatic 54, 3) := by decide +kernel
theorem dX7_stakes_42 : decode cX7_stakes 42 = .ok (.iaload, 1) := by decide +kernel
theorem dX7_stakes_43 : decode cX7_stakes 43 = .ok (.iload_n 2, 1) := by decide +kernel
theorem dX7_stakes_44 : decode cX7_stakes 44 = .ok (.ifCond .eq 17, 3) := by decide +kernel
theorem dX7_stakes_47 : decode cX7_stakes 47 = .ok (.aload_n 0, 1) := by decide +kernel
theorem dX7_stakes_48 : decode cX7_stakes 48 = .ok (.getfield 7, 3) := by decide +kernel
theorem dX7_stakes_51 : decode cX7_stakes 51 = .ok (.iload 4, 2) := by decide +kernel
theorem dX7_stakes_53 : decode cX7_stakes 53 = .ok (.iconst 2, 1) := by decide +kernel
theorem dX7_stakes_54 : decode cX7_stakes 54 = .ok (.invokestatic 54, 3) := by decide +kernel
theorem dX7_stakes_57 : decode cX7_stakes 57 = .ok (.iaload, 1) := by decide +kernel
theorem dX7_stakes_58 : decode cX7_stakes 58 = .ok (.goto 4, 3) := by decide +kernel
theorem dX7_stakes_61 : decode cX7_stakes 61 = .ok (.iconst 1, 1) := by decide +kernel
theorem dX7_stakes_62 : decode cX7_stakes 62 = .ok (.imul, 1) := by decide +kernel
theorem dX7_stakes_63 : decode cX7_stakes 63 = .ok (.goto 4, 3) := by decide +kernel
theorem dX7_stakes_66 : decode cX7_stakes 66 = .ok (.iconst 0, 1) := by decide +kernel
theorem dX7_stakes_67 : decode cX7_stakes 67 = .ok (.iadd, 1) := by decide +kernel
theorem dX7_stakes_68 : decode cX7_stakes 68 = .ok (.istore_n 3, 1) := by decide +kernel
theorem dX7_stakes_69 : decode cX7_stakes 69 = .ok (.iinc 4 1, 3) := by decide +kernel
theorem dX7_stakes_72 : decode cX7_stakes 72 = .ok (.goto (-67), 3) := by decide +kernel
theorem dX7_stakes_75 : decode cX7_stakes 75 = .ok (.iload_n 3, 1) := by decide +kernel
theorem dX7_stakes_76 : decode cX7_stakes 76 = .ok (.ireturn, 1) := by decide +kernel
set_option maxRecDepth 20000 in
theorem ggX7_horses_X7_betsOn : GoodIn wsX7_horses wsX7_betsOn := goodIn_r _ [6, 1, 7, 8, 5, 9, 14, 15, 16, 17, 18, 19, 20, 21, 22, 23] (by decide +kernel) (by decide +kernel)
set_option maxRecDepth 20000 in
theorem gX7_horses_X7_betsOn : GoodIn wsX7_horses (wsV RX7 111 RX7 yX7_betsOn wsX7_betsOn) := goodIn_app (goodIn_of _ (by decide +kernel)) ggX7_horses_X7_betsOn
set_option maxRecDepth 20000 in
theorem ggX7_horses_X7_stakes : GoodIn wsX7_horses wsX7_stakes := goodIn_r _ [13, 1, 7, 8, 5, 9, 14, 15, 16, 17, 18, 19, 20, 21, 22, 23] (by decide +kernel) (by decide +kernel)
set_option maxRecDepth 20000 in
theorem gX7_horses_X7_stakes : GoodIn wsX7_horses (wsV RX7 125 RX7 yX7_stakes wsX7_stakes) := goodIn_app (goodIn_of _ (by decide +kernel)) ggX7_horses_X7_stakes
theorem dX7_horses_0 : decode cX7_horses 0 = .ok (.iload_n 2, 1) := by decide +kernel
theorem dX7_horses_1 : decode cX7_horses 1 = .ok (.tableswitch 117 0 7 #[47, 57, 67, 77, 87, 93, 100, 107], 47) := by decide +kernel
theorem dX7_horses_48 : decode cX7_horses 48 = .ok (.aload_n 0, 1) := by decide +kernel
theorem dX7_horses_49 : decode cX7_horses 49 = .ok (.getfield 7, 3) := by decide +kernel
theorem dX7_horses_52 : decode cX7_horses 52 = .ok (.bipush 6, 2) := by decide +kernel
theorem dX7_horses_54 : decode cX7_horses 54 = .ok (.iload_n 1, 1) := by decide +kernel
theorem dX7_horses_55 : decode cX7_horses 55 = .ok (.iadd, 1) := by decide +kernel
theorem dX7_horses_56 : decode cX7_horses 56 = .ok (.iaload, 1) := by decide +kernel
theorem dX7_horses_57 : decode cX7_horses 57 = .ok (.ireturn, 1) := by decide +kernel
theorem dX7_horses_58 : decode cX7_horses 58 = .ok (.aload_n 0, 1) := by decide +kernel
theorem dX7_horses_59 : decode cX7_horses 59 = .ok (.getfield 7, 3) := by decide +kernel
theorem dX7_horses_62 : decode cX7_horses 62 = .ok (.bipush 16, 2) := by decide +kernel
theorem dX7_horses_64 : decode cX7_horses 64 = .ok (.iload_n 1, 1) := by decide +kernel
theorem dX7_horses_65 : decode cX7_horses 65 = .ok (.iadd, 1) := by decide +kernel
theorem dX7_horses_66 : decode cX7_horses 66 = .ok (.iaload, 1) := by decide +kernel
theorem dX7_horses_67 : decode cX7_horses 67 = .ok (.ireturn, 1) := by decide +kernel
theorem dX7_horses_68 : decode cX7_horses 68 = .ok (.aload_n 0, 1) := by decide +kernel
theorem dX7_horses_69 : decode cX7_horses 69 = .ok (.getfield 7, 3) := by decide +kernel
theorem dX7_horses_72 : decode cX7_horses 72 = .ok (.bipush 26, 2) := by decide +kernel
theorem dX7_horses_74 : decode cX7_horses 74 = .ok (.iload_n 1, 1) := by decide +kernel
theorem dX7_horses_75 : decode cX7_horses 75 = .ok (.iadd, 1) := by decide +kernel
theorem dX7_horses_76 : decode cX7_horses 76 = .ok (.iaload, 1) := by decide +kernel
theorem dX7_horses_77 : decode cX7_horses 77 = .ok (.ireturn, 1) := by decide +kernel
theorem dX7_horses_78 : decode cX7_horses 78 = .ok (.aload_n 0, 1) := by decide +kernel
theorem dX7_horses_79 : decode cX7_horses 79 = .ok (.getfield 7, 3) := by decide +kernel
theorem dX7_horses_82 : decode cX7_horses 82 = .ok (.bipush 36, 2) := by decide +kernel
theorem dX7_horses_84 : decode cX7_horses 84 = .ok (.iload_n 1, 1) := by decide +kernel
theorem dX7_horses_85 : decode cX7_horses 85 = .ok (.iadd, 1) := by decide +kernel
theorem dX7_horses_86 : decode cX7_horses 86 = .ok (.iaload, 1) := by decide +kernel
theorem dX7_horses_87 : decode cX7_horses 87 = .ok (.ireturn, 1) := by decide +kernel
theorem dX7_horses_88 : decode cX7_horses 88 = .ok (.aload_n 0, 1) := by decide +kernel
theorem dX7_horses_89 : decode cX7_horses 89 = .ok (.iload_n 1, 1) := by decide +kernel
theorem dX7_horses_90 : decode cX7_horses 90 = .ok (.invokevirtual 111, 3) := by decide +kernel
theorem dX7_horses_93 : decode cX7_horses 93 = .ok (.ireturn, 1) := by decide +kernel
theorem dX7_horses_94 : decode cX7_horses 94 = .ok (.aload_n 0, 1) := by decide +kernel
theorem dX7_horses_95 : decode cX7_horses 95 = .ok (.iload_n 1, 1) := by decide +kernel
theorem dX7_horses_96 : decode cX7_horses 96 = .ok (.iconst 0, 1) := by decide +kernel
theorem dX7_horses_97 : decode cX7_horses 97 = .ok (.invokevirtual 125, 3) := by decide +kernel
theorem dX7_horses_100 : decode cX7_horses 100 = .ok (.ireturn, 1) := by decide +kernel
theorem dX7_horses_101 : decode cX7_horses 101 = .ok (.aload_n 0, 1) := by decide +kernel
theorem dX7_horses_102 : decode cX7_horses 102 = .ok (.iload_n 1, 1) := by decide +kernel
theorem dX7_horses_103 : decode cX7_horses 103 = .ok (.iconst 1, 1) := by decide +kernel
theorem dX7_horses_104 : decode cX7_horses 104 = .ok (.invokevirtual 125, 3) := by decide +kernel
theorem dX7_horses_107 : decode cX7_horses 107 = .ok (.ireturn, 1) := by decide +kernel
theorem dX7_horses_108 : decode cX7_horses 108 = .ok (.aload_n 0, 1) := by decide +kernel
theorem dX7_horses_109 : decode cX7_horses 109 = .ok (.getfield 7, 3) := by decide +kernel
theorem dX7_horses_112 : decode cX7_horses 112 = .ok (.bipush 46, 2) := by decide +kernel
theorem dX7_horses_114 : decode cX7_horses 114 = .ok (.iload_n 1, 1) := by decide +kernel
theorem dX7_horses_115 : decode cX7_horses 115 = .ok (.iadd, 1) := by decide +kernel
theorem dX7_horses_116 : decode cX7_horses 116 = .ok (.iaload, 1) := by decide +kernel
theorem dX7_horses_117 : decode cX7_horses 117 = .ok (.ireturn, 1) := by decide +kernel
theorem dX7_horses_118 : decode cX7_horses 118 = .ok (.aload_n 0, 1) := by decide +kernel
theorem dX7_horses_119 : decode cX7_horses 119 = .ok (.getfield 7, 3) := by decide +kernel
theorem dX7_horses_122 : decode cX7_horses 122 = .ok (.bipush 56, 2) := by decide +kernel
theorem dX7_horses_124 : decode cX7_horses 124 = .ok (.iload_n 1, 1) := by decide +kernel
theorem dX7_horses_125 : decode cX7_horses 125 = .ok (.iadd, 1) := by decide +kernel
theorem dX7_horses_126 : decode cX7_horses 126 = .ok (.iaload, 1) := by decide +kernel
theorem dX7_horses_127 : decode cX7_horses 127 = .ok (.ireturn, 1) := by decide +kernel
set_option maxRecDepth 20000 in
theorem ggX7_horseOf_X7_isHorse : GoodIn wsX7_horseOf wsX7_isHorse := goodIn_r _ [5, 6, 7, 8, 4, 9, 30, 31, 32, 33, 34, 35, 36, 37, 38, 39] (by decide +kernel) (by decide +kernel)
set_option maxRecDepth 20000 in
theorem gX7_horseOf_X7_isHorse : GoodIn wsX7_horseOf (wsV RX7 42 RX7 yX7_isHorse wsX7_isHorse) := goodIn_app (goodIn_of _ (by decide +kernel)) ggX7_horseOf_X7_isHorse
set_option maxRecDepth 20000 in
theorem ggX7_horseOf_X7_in : GoodIn wsX7_horseOf wsX7_in := goodIn_r _ [9] (by decide +kernel) (by decide +kernel)
set_option maxRecDepth 20000 in
theorem gX7_horseOf_X7_in : GoodIn wsX7_horseOf (va_wsS RX7 38 yX7_in wsX7_in) := goodIn_app (goodIn_of _ (by decide +kernel)) ggX7_horseOf_X7_in
set_option maxRecDepth 20000 in
theorem ggX7_horseOf_X7_goes : GoodIn wsX7_horseOf wsX7_goes := goodIn_r _ [13, 14, 30, 31, 32, 33, 34, 35, 36, 37, 38, 39] (by decide +kernel) (by decide +kernel)
set_option maxRecDepth 20000 in
theorem gX7_horseOf_X7_goes : GoodIn wsX7_horseOf (wsV RX7 104 RX7 yX7_goes wsX7_goes) := goodIn_app (goodIn_of _ (by decide +kernel)) ggX7_horseOf_X7_goes
set_option maxRecDepth 20000 in
theorem ggX7_horseOf_X7_horses : GoodIn wsX7_horseOf wsX7_horses := goodIn_r _ [18, 6, 19, 20, 21, 4, 22, 23, 24, 25, 26, 27, 28, 29, 30, 31, 32, 33, 34, 35, 36, 37, 38, 39] (by decide +kernel) (by decide +kernel)
set_option maxRecDepth 20000 in
theorem gX7_horseOf_X7_horses : GoodIn wsX7_horseOf (wsV RX7 129 RX7 yX7_horses wsX7_horses) := goodIn_app (goodIn_of _ (by decide +kernel)) ggX7_horseOf_X7_horses
theorem dX7_horseOf_0 : decode cX7_horseOf 0 = .ok (.aload_n 0, 1) := by decide +kernel
theorem dX7_horseOf_1 : decode cX7_horseOf 1 = .ok (.aload_n 0, 1) := by decide +kernel
theorem dX7_horseOf_2 : decode cX7_horseOf 2 = .ok (.iload_n 1, 1) := by decide +kernel
theorem dX7_horseOf_3 : decode cX7_horseOf 3 = .ok (.invokevirtual 42, 3) := by decide +kernel
theorem dX7_horseOf_6 : decode cX7_horseOf 6 = .ok (.iload_n 2, 1) := by decide +kernel
theorem dX7_horseOf_7 : decode cX7_horseOf 7 = .ok (.iconst 0, 1) := by decide +kernel
theorem dX7_horseOf_8 : decode cX7_horseOf 8 = .ok (.bipush 8, 2) := by decide +kernel
theorem dX7_horseOf_10 : decode cX7_horseOf 10 = .ok (.invokestatic 38, 3) := by decide +kernel
theorem dX7_horseOf_13 : decode cX7_horseOf 13 = .ok (.iconst 1, 1) := by decide +kernel
theorem dX7_horseOf_14 : decode cX7_horseOf 14 = .ok (.invokevirtual 104, 3) := by decide +kernel
theorem dX7_horseOf_17 : decode cX7_horseOf 17 = .ok (.ifCond .eq 12, 3) := by decide +kernel
theorem dX7_horseOf_20 : decode cX7_horseOf 20 = .ok (.aload_n 0, 1) := by decide +kernel
theorem dX7_horseOf_21 : decode cX7_horseOf 21 = .ok (.iload_n 1, 1) := by decide +kernel
theorem dX7_horseOf_22 : decode cX7_horseOf 22 = .ok (.iload_n 2, 1) := by decide +kernel
theorem dX7_horseOf_23 : decode cX7_horseOf 23 = .ok (.invokevirtual 129, 3) := by decide +kernel
theorem dX7_horseOf_26 : decode cX7_horseOf 26 = .ok (.goto 4, 3) := by decide +kernel
theorem dX7_horseOf_29 : decode cX7_horseOf 29 = .ok (.iconst 0, 1) := by decide +kernel
theorem dX7_horseOf_30 : decode cX7_horseOf 30 = .ok (.ireturn, 1) := by decide +kernel
set_option maxRecDepth 20000 in
theorem ggX7_bet_X7_in : GoodIn wsX7_bet wsX7_in := goodIn_r _ [5] (by decide +kernel) (by decide +kernel)
set_option maxRecDepth 20000 in
theorem gX7_bet_X7_in : GoodIn wsX7_bet (va_wsS RX7 38 yX7_in wsX7_in) := goodIn_app (goodIn_of _ (by decide +kernel)) ggX7_bet_X7_in
set_option maxRecDepth 20000 in
theorem ggX7_bet_X7_goes : GoodIn wsX7_bet wsX7_goes := goodIn_r _ [9, 10, 14, 15, 16, 17, 18, 19, 20, 21, 22, 23] (by decide +kernel) (by decide +kernel)
set_option maxRecDepth 20000 in
theorem gX7_bet_X7_goes : GoodIn wsX7_bet (wsV RX7 104 RX7 yX7_goes wsX7_goes) := goodIn_app (goodIn_of _ (by decide +kernel)) ggX7_bet_X7_goes
set_option maxRecDepth 20000 in
theorem ggX7_bet_X7_of : GoodIn wsX7_bet wsX7_of := goodIn_r _ [13] (by decide +kernel) (by decide +kernel)
set_option maxRecDepth 20000 in
theorem gX7_bet_X7_of : GoodIn wsX7_bet (va_wsS RX7 54 yX7_of wsX7_of) := goodIn_app (goodIn_of _ (by decide +kernel)) ggX7_bet_X7_of
theorem dX7_bet_0 : decode cX7_bet 0 = .ok (.aload_n 0, 1) := by decide +kernel
theorem dX7_bet_1 : decode cX7_bet 1 = .ok (.iload_n 1, 1) := by decide +kernel
theorem dX7_bet_2 : decode cX7_bet 2 = .ok (.iconst 0, 1) := by decide +kernel
theorem dX7_bet_3 : decode cX7_bet 3 = .ok (.aload_n 0, 1) := by decide +kernel
theorem dX7_bet_4 : decode cX7_bet 4 = .ok (.getfield 7, 3) := by decide +kernel
theorem dX7_bet_7 : decode cX7_bet 7 = .ok (.iconst 1, 1) := by decide +kernel
theorem dX7_bet_8 : decode cX7_bet 8 = .ok (.iaload, 1) := by decide +kernel
theorem dX7_bet_9 : decode cX7_bet 9 = .ok (.iconst 1, 1) := by decide +kernel
theorem dX7_bet_10 : decode cX7_bet 10 = .ok (.isub, 1) := by decide +kernel
theorem dX7_bet_11 : decode cX7_bet 11 = .ok (.invokestatic 38, 3) := by decide +kernel
theorem dX7_bet_14 : decode cX7_bet 14 = .ok (.iload_n 2, 1) := by decide +kernel
theorem dX7_bet_15 : decode cX7_bet 15 = .ok (.iconst 0, 1) := by decide +kernel
theorem dX7_bet_16 : decode cX7_bet 16 = .ok (.bipush 7, 2) := by decide +kernel
theorem dX7_bet_18 : decode cX7_bet 18 = .ok (.invokestatic 38, 3) := by decide +kernel
theorem dX7_bet_21 : decode cX7_bet 21 = .ok (.iconst 1, 1) := by decide +kernel
theorem dX7_bet_22 : decode cX7_bet 22 = .ok (.invokevirtual 104, 3) := by decide +kernel
theorem dX7_bet_25 : decode cX7_bet 25 = .ok (.ifCond .eq 16, 3) := by decide +kernel
theorem dX7_bet_28 : decode cX7_bet 28 = .ok (.aload_n 0, 1) := by decide +kernel
theorem dX7_bet_29 : decode cX7_bet 29 = .ok (.getfield 7, 3) := by decide +kernel
theorem dX7_bet_32 : decode cX7_bet 32 = .ok (.iload_n 1, 1) := by decide +kernel
theorem dX7_bet_33 : decode cX7_bet 33 = .ok (.iload_n 2, 1) := by decide +kernel
theorem dX7_bet_34 : decode cX7_bet 34 = .ok (.invokestatic 54, 3) := by decide +kernel
theorem dX7_bet_37 : decode cX7_bet 37 = .ok (.iaload, 1) := by decide +kernel
theorem dX7_bet_38 : decode cX7_bet 38 = .ok (.goto 4, 3) := by decide +kernel
theorem dX7_bet_41 : decode cX7_bet 41 = .ok (.iconst 0, 1) := by decide +kernel
theorem dX7_bet_42 : decode cX7_bet 42 = .ok (.ireturn, 1) := by decide +kernel
set_option maxRecDepth 20000 in
theorem ggX7_laid_X7_in : GoodIn wsX7_laid wsX7_in := goodIn_r _ [5] (by decide +kernel) (by decide +kernel)
set_option maxRecDepth 20000 in
theorem gX7_laid_X7_in : GoodIn wsX7_laid (va_wsS RX7 38 yX7_in wsX7_in) := goodIn_app (goodIn_of _ (by decide +kernel)) ggX7_laid_X7_in
set_option maxRecDepth 20000 in
theorem ggX7_laid_X7_goes : GoodIn wsX7_laid wsX7_goes := goodIn_r _ [9, 10, 14, 15, 16, 17, 18, 19, 20, 21, 22, 23] (by decide +kernel) (by decide +kernel)
set_option maxRecDepth 20000 in
theorem gX7_laid_X7_goes : GoodIn wsX7_laid (wsV RX7 104 RX7 yX7_goes wsX7_goes) := goodIn_app (goodIn_of _ (by decide +kernel)) ggX7_laid_X7_goes
set_option maxRecDepth 20000 in
theorem ggX7_laid_X7_off : GoodIn wsX7_laid wsX7_off := goodIn_r _ [13] (by decide +kernel) (by decide +kernel)
set_option maxRecDepth 20000 in
theorem gX7_laid_X7_off : GoodIn wsX7_laid (va_wsS RX7 75 yX7_off wsX7_off) := goodIn_app (goodIn_of _ (by decide +kernel)) ggX7_laid_X7_off
theorem dX7_laid_0 : decode cX7_laid 0 = .ok (.aload_n 0, 1) := by decide +kernel
theorem dX7_laid_1 : decode cX7_laid 1 = .ok (.iload_n 1, 1) := by decide +kernel
theorem dX7_laid_2 : decode cX7_laid 2 = .ok (.iconst 0, 1) := by decide +kernel
theorem dX7_laid_3 : decode cX7_laid 3 = .ok (.aload_n 0, 1) := by decide +kernel
theorem dX7_laid_4 : decode cX7_laid 4 = .ok (.getfield 7, 3) := by decide +kernel
theorem dX7_laid_7 : decode cX7_laid 7 = .ok (.iconst 2, 1) := by decide +kernel
theorem dX7_laid_8 : decode cX7_laid 8 = .ok (.iaload, 1) := by decide +kernel
theorem dX7_laid_9 : decode cX7_laid 9 = .ok (.iconst 1, 1) := by decide +kernel
theorem dX7_laid_10 : decode cX7_laid 10 = .ok (.isub, 1) := by decide +kernel
theorem dX7_laid_11 : decode cX7_laid 11 = .ok (.invokestatic 38, 3) := by decide +kernel
theorem dX7_laid_14 : decode cX7_laid 14 = .ok (.iload_n 2, 1) := by decide +kernel
theorem dX7_laid_15 : decode cX7_laid 15 = .ok (.iconst 0, 1) := by decide +kernel
theorem dX7_laid_16 : decode cX7_laid 16 = .ok (.iconst 4, 1) := by decide +kernel
theorem dX7_laid_17 : decode cX7_laid 17 = .ok (.invokestatic 38, 3) := by decide +kernel
theorem dX7_laid_20 : decode cX7_laid 20 = .ok (.iconst 1, 1) := by decide +kernel
theorem dX7_laid_21 : decode cX7_laid 21 = .ok (.invokevirtual 104, 3) := by decide +kernel
theorem dX7_laid_24 : decode cX7_laid 24 = .ok (.ifCond .eq 16, 3) := by decide +kernel
theorem dX7_laid_27 : decode cX7_laid 27 = .ok (.aload_n 0, 1) := by decide +kernel
theorem dX7_laid_28 : decode cX7_laid 28 = .ok (.getfield 7, 3) := by decide +kernel
theorem dX7_laid_31 : decode cX7_laid 31 = .ok (.iload_n 1, 1) := by decide +kernel
theorem dX7_laid_32 : decode cX7_laid 32 = .ok (.iload_n 2, 1) := by decide +kernel
theorem dX7_laid_33 : decode cX7_laid 33 = .ok (.invokestatic 75, 3) := by decide +kernel
theorem dX7_laid_36 : decode cX7_laid 36 = .ok (.iaload, 1) := by decide +kernel
theorem dX7_laid_37 : decode cX7_laid 37 = .ok (.goto 4, 3) := by decide +kernel
theorem dX7_laid_40 : decode cX7_laid 40 = .ok (.iconst 0, 1) := by decide +kernel
theorem dX7_laid_41 : decode cX7_laid 41 = .ok (.ireturn, 1) := by decide +kernel
set_option maxRecDepth 20000 in
theorem ggX7_stakedAll_X7_off : GoodIn wsX7_stakedAll wsX7_off := goodIn_r _ [5] (by decide +kernel) (by decide +kernel)
set_option maxRecDepth 20000 in
theorem gX7_stakedAll_X7_off : GoodIn wsX7_stakedAll (va_wsS RX7 75 yX7_off wsX7_off) := goodIn_app (goodIn_of _ (by decide +kernel)) ggX7_stakedAll_X7_off
set_option maxRecDepth 20000 in
theorem ggX7_stakedAll_X7_staked : GoodIn wsX7_stakedAll wsX7_staked := goodIn_r _ [9, 1, 10, 11, 4, 12, 13, 14, 15, 16, 17, 18, 19, 20, 21, 22] (by decide +kernel) (by decide +kernel)
set_option maxRecDepth 20000 in
theorem gX7_stakedAll_X7_staked : GoodIn wsX7_stakedAll (wsV RX7 64 RX7 yX7_staked wsX7_staked) := goodIn_app (goodIn_of _ (by decide +kernel)) ggX7_stakedAll_X7_staked
theorem dX7_stakedAll_0 : decode cX7_stakedAll 0 = .ok (.iconst 0, 1) := by decide +kernel
theorem dX7_stakedAll_1 : decode cX7_stakedAll 1 = .ok (.istore_n 2, 1) := by decide +kernel
theorem dX7_stakedAll_2 : decode cX7_stakedAll 2 = .ok (.iconst 0, 1) := by decide +kernel
theorem dX7_stakedAll_3 : decode cX7_stakedAll 3 = .ok (.istore_n 3, 1) := by decide +kernel
theorem dX7_stakedAll_4 : decode cX7_stakedAll 4 = .ok (.iload_n 3, 1) := by decide +kernel
theorem dX7_stakedAll_5 : decode cX7_stakedAll 5 = .ok (.iload_n 1, 1) := by decide +kernel
theorem dX7_stakedAll_6 : decode cX7_stakedAll 6 = .ok (.ifCond .eq 12, 3) := by decide +kernel
theorem dX7_stakedAll_9 : decode cX7_stakedAll 9 = .ok (.aload_n 0, 1) := by decide +kernel
theorem dX7_stakedAll_10 : decode cX7_stakedAll 10 = .ok (.getfield 7, 3) := by decide +kernel
theorem dX7_stakedAll_13 : decode cX7_stakedAll 13 = .ok (.iconst 2, 1) := by decide +kernel
theorem dX7_stakedAll_14 : decode cX7_stakedAll 14 = .ok (.iaload, 1) := by decide +kernel
theorem dX7_stakedAll_15 : decode cX7_stakedAll 15 = .ok (.goto 9, 3) := by decide +kernel
theorem dX7_stakedAll_18 : decode cX7_stakedAll 18 = .ok (.aload_n 0, 1) := by decide +kernel
theorem dX7_stakedAll_19 : decode cX7_stakedAll 19 = .ok (.getfield 7, 3) := by decide +kernel
theorem dX7_stakedAll_22 : decode cX7_stakedAll 22 = .ok (.iconst 1, 1) := by decide +kernel
theorem dX7_stakedAll_23 : decode cX7_stakedAll 23 = .ok (.iaload, 1) := by decide +kernel
theorem dX7_stakedAll_24 : decode cX7_stakedAll 24 = .ok (.if_icmp .ge 34, 3) := by decide +kernel
theorem dX7_stakedAll_27 : decode cX7_stakedAll 27 = .ok (.iload_n 2, 1) := by decide +kernel
theorem dX7_stakedAll_28 : decode cX7_stakedAll 28 = .ok (.iload_n 1, 1) := by decide +kernel
theorem dX7_stakedAll_29 : decode cX7_stakedAll 29 = .ok (.ifCond .eq 16, 3) := by decide +kernel
theorem dX7_stakedAll_32 : decode cX7_stakedAll 32 = .ok (.aload_n 0, 1) := by decide +kernel
theorem dX7_stakedAll_33 : decode cX7_stakedAll 33 = .ok (.getfield 7, 3) := by decide +kernel
theorem dX7_stakedAll_36 : decode cX7_stakedAll 36 = .ok (.iload_n 3, 1) := by decide +kernel
theorem dX7_stakedAll_37 : decode cX7_stakedAll 37 = .ok (.iconst 1, 1) := by decide +kernel
theorem dX7_stakedAll_38 : decode cX7_stakedAll 38 = .ok (.invokestatic 75, 3) := by decide +kernel
theorem dX7_stakedAll_41 : decode cX7_stakedAll 41 = .ok (.iaload, 1) := by decide +kernel
theorem dX7_stakedAll_42 : decode cX7_stakedAll 42 = .ok (.goto 8, 3) := by decide +kernel
theorem dX7_stakedAll_45 : decode cX7_stakedAll 45 = .ok (.aload_n 0, 1) := by decide +kernel
theorem dX7_stakedAll_46 : decode cX7_stakedAll 46 = .ok (.iload_n 3, 1) := by decide +kernel
theorem dX7_stakedAll_47 : decode cX7_stakedAll 47 = .ok (.invokevirtual 64, 3) := by decide +kernel
theorem dX7_stakedAll_50 : decode cX7_stakedAll 50 = .ok (.iadd, 1) := by decide +kernel
theorem dX7_stakedAll_51 : decode cX7_stakedAll 51 = .ok (.istore_n 2, 1) := by decide +kernel
theorem dX7_stakedAll_52 : decode cX7_stakedAll 52 = .ok (.iinc 3 1, 3) := by decide +kernel
theorem dX7_stakedAll_55 : decode cX7_stakedAll 55 = .ok (.goto (-51), 3) := by decide +kernel
theorem dX7_stakedAll_58 : decode cX7_stakedAll 58 = .ok (.iload_n 2, 1) := by decide +kernel
theorem dX7_stakedAll_59 : decode cX7_stakedAll 59 = .ok (.ireturn, 1) := by decide +kernel
theorem dX7_round_0 : decode cX7_round 0 = .ok (.iconst 0, 1) := by decide +kernel
theorem dX7_round_1 : decode cX7_round 1 = .ok (.istore_n 1, 1) := by decide +kernel
theorem dX7_round_2 : decode cX7_round 2 = .ok (.iconst 0, 1) := by decide +kernel
theorem dX7_round_3 : decode cX7_round 3 = .ok (.istore_n 2, 1) := by decide +kernel
theorem dX7_round_4 : decode cX7_round 4 = .ok (.iload_n 2, 1) := by decide +kernel
theorem dX7_round_5 : decode cX7_round 5 = .ok (.aload_n 0, 1) := by decide +kernel
theorem dX7_round_6 : decode cX7_round 6 = .ok (.getfield 7, 3) := by decide +kernel
theorem dX7_round_9 : decode cX7_round 9 = .ok (.iconst 0, 1) := by decide +kernel
theorem dX7_round_10 : decode cX7_round 10 = .ok (.iaload, 1) := by decide +kernel
theorem dX7_round_11 : decode cX7_round 11 = .ok (.if_icmp .ge 62, 3) := by decide +kernel
theorem dX7_round_14 : decode cX7_round 14 = .ok (.iload_n 1, 1) := by decide +kernel
theorem dX7_round_15 : decode cX7_round 15 = .ok (.aload_n 0, 1) := by decide +kernel
theorem dX7_round_16 : decode cX7_round 16 = .ok (.getfield 7, 3) := by decide +kernel
theorem dX7_round_19 : decode cX7_round 19 = .ok (.bipush 26, 2) := by decide +kernel
theorem dX7_round_21 : decode cX7_round 21 = .ok (.iload_n 2, 1) := by decide +kernel
theorem dX7_round_22 : decode cX7_round 22 = .ok (.iadd, 1) := by decide +kernel
theorem dX7_round_23 : decode cX7_round 23 = .ok (.iaload, 1) := by decide +kernel
theorem dX7_round_24 : decode cX7_round 24 = .ok (.iconst 1, 1) := by decide +kernel
theorem dX7_round_25 : decode cX7_round 25 = .ok (.if_icmp .ne 39, 3) := by decide +kernel
theorem dX7_round_28 : decode cX7_round 28 = .ok (.sipush 1000, 3) := by decide +kernel
theorem dX7_round_31 : decode cX7_round 31 = .ok (.aload_n 0, 1) := by decide +kernel
theorem dX7_round_32 : decode cX7_round 32 = .ok (.getfield 7, 3) := by decide +kernel
theorem dX7_round_35 : decode cX7_round 35 = .ok (.bipush 16, 2) := by decide +kernel
theorem dX7_round_37 : decode cX7_round 37 = .ok (.iload_n 2, 1) := by decide +kernel
theorem dX7_round_38 : decode cX7_round 38 = .ok (.iadd, 1) := by decide +kernel
theorem dX7_round_39 : decode cX7_round 39 = .ok (.iaload, 1) := by decide +kernel
theorem dX7_round_40 : decode cX7_round 40 = .ok (.imul, 1) := by decide +kernel
theorem dX7_round_41 : decode cX7_round 41 = .ok (.aload_n 0, 1) := by decide +kernel
theorem dX7_round_42 : decode cX7_round 42 = .ok (.getfield 7, 3) := by decide +kernel
theorem dX7_round_45 : decode cX7_round 45 = .ok (.bipush 6, 2) := by decide +kernel
theorem dX7_round_47 : decode cX7_round 47 = .ok (.iload_n 2, 1) := by decide +kernel
theorem dX7_round_48 : decode cX7_round 48 = .ok (.iadd, 1) := by decide +kernel
theorem dX7_round_49 : decode cX7_round 49 = .ok (.iaload, 1) := by decide +kernel
theorem dX7_round_50 : decode cX7_round 50 = .ok (.aload_n 0, 1) := by decide +kernel
theorem dX7_round_51 : decode cX7_round 51 = .ok (.getfield 7, 3) := by decide +kernel
theorem dX7_round_54 : decode cX7_round 54 = .ok (.bipush 16, 2) := by decide +kernel
theorem dX7_round_56 : decode cX7_round 56 = .ok (.iload_n 2, 1) := by decide +kernel
theorem dX7_round_57 : decode cX7_round 57 = .ok (.iadd, 1) := by decide +kernel
theorem dX7_round_58 : decode cX7_round 58 = .ok (.iaload, 1) := by decide +kernel
theorem dX7_round_59 : decode cX7_round 59 = .ok (.iadd, 1) := by decide +kernel
theorem dX7_round_60 : decode cX7_round 60 = .ok (.idiv, 1) := by decide +kernel
theorem dX7_round_61 : decode cX7_round 61 = .ok (.goto 4, 3) := by decide +kernel
theorem dX7_round_64 : decode cX7_round 64 = .ok (.iconst 0, 1) := by decide +kernel
theorem dX7_round_65 : decode cX7_round 65 = .ok (.iadd, 1) := by decide +kernel
theorem dX7_round_66 : decode cX7_round 66 = .ok (.istore_n 1, 1) := by decide +kernel
theorem dX7_round_67 : decode cX7_round 67 = .ok (.iinc 2 1, 3) := by decide +kernel
theorem dX7_round_70 : decode cX7_round 70 = .ok (.goto (-66), 3) := by decide +kernel
theorem dX7_round_73 : decode cX7_round 73 = .ok (.iload_n 1, 1) := by decide +kernel
theorem dX7_round_74 : decode cX7_round 74 = .ok (.ireturn, 1) := by decide +kernel
set_option maxRecDepth 20000 in
theorem ggX7_lost_X7_staked : GoodIn wsX7_lost wsX7_staked := goodIn_r _ [6, 1, 7, 8, 5, 9, 13, 14, 15, 16, 17, 18, 19, 20, 21, 22] (by decide +kernel) (by decide +kernel)
set_option maxRecDepth 20000 in
theorem gX7_lost_X7_staked : GoodIn wsX7_lost (wsV RX7 64 RX7 yX7_staked wsX7_staked) := goodIn_app (goodIn_of _ (by decide +kernel)) ggX7_lost_X7_staked
set_option maxRecDepth 20000 in
theorem ggX7_lost_X7_of : GoodIn wsX7_lost wsX7_of := goodIn_r _ [9] (by decide +kernel) (by decide +kernel)
set_option maxRecDepth 20000 in
theorem gX7_lost_X7_of : GoodIn wsX7_lost (va_wsS RX7 54 yX7_of wsX7_of) := goodIn_app (goodIn_of _ (by decide +kernel)) ggX7_lost_X7_of
set_option maxRecDepth 20000 in
theorem ggX7_lost_X7_off : GoodIn wsX7_lost wsX7_off := goodIn_r _ [12] (by decide +kernel) (by decide +kernel)
set_option maxRecDepth 20000 in
theorem gX7_lost_X7_off : GoodIn wsX7_lost (va_wsS RX7 75 yX7_off wsX7_off) := goodIn_app (goodIn_of _ (by decide +kernel)) ggX7_lost_X7_off
theorem dX7_lost_0 : decode cX7_lost 0 = .ok (.iconst 0, 1) := by decide +kernel
theorem dX7_lost_1 : decode cX7_lost 1 = .ok (.istore_n 1, 1) := by decide +kernel
theorem dX7_lost_2 : decode cX7_lost 2 = .ok (.iconst 0, 1) := by decide +kernel
theorem dX7_lost_3 : decode cX7_lost 3 = .ok (.istore_n 2, 1) := by decide +kernel
theorem dX7_lost_4 : decode cX7_lost 4 = .ok (.iload_n 2, 1) := by decide +kernel
theorem dX7_lost_5 : decode cX7_lost 5 = .ok (.aload_n 0, 1) := by decide +kernel
theorem dX7_lost_6 : decode cX7_lost 6 = .ok (.getfield 7, 3) := by decide +kernel
theorem dX7_lost_9 : decode cX7_lost 9 = .ok (.iconst 1, 1) := by decide +kernel
theorem dX7_lost_10 : decode cX7_lost 10 = .ok (.iaload, 1) := by decide +kernel
theorem dX7_lost_11 : decode cX7_lost 11 = .ok (.if_icmp .ge 29, 3) := by decide +kernel
theorem dX7_lost_14 : decode cX7_lost 14 = .ok (.iload_n 1, 1) := by decide +kernel
theorem dX7_lost_15 : decode cX7_lost 15 = .ok (.aload_n 0, 1) := by decide +kernel
theorem dX7_lost_16 : decode cX7_lost 16 = .ok (.iload_n 2, 1) := by decide +kernel
theorem dX7_lost_17 : decode cX7_lost 17 = .ok (.invokevirtual 64, 3) := by decide +kernel
theorem dX7_lost_20 : decode cX7_lost 20 = .ok (.aload_n 0, 1) := by decide +kernel
theorem dX7_lost_21 : decode cX7_lost 21 = .ok (.getfield 7, 3) := by decide +kernel
theorem dX7_lost_24 : decode cX7_lost 24 = .ok (.iload_n 2, 1) := by decide +kernel
theorem dX7_lost_25 : decode cX7_lost 25 = .ok (.bipush 6, 2) := by decide +kernel
theorem dX7_lost_27 : decode cX7_lost 27 = .ok (.invokestatic 54, 3) := by decide +kernel
theorem dX7_lost_30 : decode cX7_lost 30 = .ok (.iaload, 1) := by decide +kernel
theorem dX7_lost_31 : decode cX7_lost 31 = .ok (.isub, 1) := by decide +kernel
theorem dX7_lost_32 : decode cX7_lost 32 = .ok (.iadd, 1) := by decide +kernel
theorem dX7_lost_33 : decode cX7_lost 33 = .ok (.istore_n 1, 1) := by decide +kernel
theorem dX7_lost_34 : decode cX7_lost 34 = .ok (.iinc 2 1, 3) := by decide +kernel
theorem dX7_lost_37 : decode cX7_lost 37 = .ok (.goto (-33), 3) := by decide +kernel
theorem dX7_lost_40 : decode cX7_lost 40 = .ok (.iconst 0, 1) := by decide +kernel
theorem dX7_lost_41 : decode cX7_lost 41 = .ok (.istore_n 2, 1) := by decide +kernel
theorem dX7_lost_42 : decode cX7_lost 42 = .ok (.iload_n 2, 1) := by decide +kernel
theorem dX7_lost_43 : decode cX7_lost 43 = .ok (.aload_n 0, 1) := by decide +kernel
theorem dX7_lost_44 : decode cX7_lost 44 = .ok (.getfield 7, 3) := by decide +kernel
theorem dX7_lost_47 : decode cX7_lost 47 = .ok (.iconst 2, 1) := by decide +kernel
theorem dX7_lost_48 : decode cX7_lost 48 = .ok (.iaload, 1) := by decide +kernel
theorem dX7_lost_49 : decode cX7_lost 49 = .ok (.if_icmp .ge 33, 3) := by decide +kernel
theorem dX7_lost_52 : decode cX7_lost 52 = .ok (.iload_n 1, 1) := by decide +kernel
theorem dX7_lost_53 : decode cX7_lost 53 = .ok (.aload_n 0, 1) := by decide +kernel
theorem dX7_lost_54 : decode cX7_lost 54 = .ok (.getfield 7, 3) := by decide +kernel
theorem dX7_lost_57 : decode cX7_lost 57 = .ok (.iload_n 2, 1) := by decide +kernel
theorem dX7_lost_58 : decode cX7_lost 58 = .ok (.iconst 1, 1) := by decide +kernel
theorem dX7_lost_59 : decode cX7_lost 59 = .ok (.invokestatic 75, 3) := by decide +kernel
theorem dX7_lost_62 : decode cX7_lost 62 = .ok (.iaload, 1) := by decide +kernel
theorem dX7_lost_63 : decode cX7_lost 63 = .ok (.aload_n 0, 1) := by decide +kernel
theorem dX7_lost_64 : decode cX7_lost 64 = .ok (.getfield 7, 3) := by decide +kernel
theorem dX7_lost_67 : decode cX7_lost 67 = .ok (.iload_n 2, 1) := by decide +kernel
theorem dX7_lost_68 : decode cX7_lost 68 = .ok (.iconst 4, 1) := by decide +kernel
theorem dX7_lost_69 : decode cX7_lost 69 = .ok (.invokestatic 75, 3) := by decide +kernel
theorem dX7_lost_72 : decode cX7_lost 72 = .ok (.iaload, 1) := by decide +kernel
theorem dX7_lost_73 : decode cX7_lost 73 = .ok (.isub, 1) := by decide +kernel
theorem dX7_lost_74 : decode cX7_lost 74 = .ok (.isub, 1) := by decide +kernel
theorem dX7_lost_75 : decode cX7_lost 75 = .ok (.istore_n 1, 1) := by decide +kernel
theorem dX7_lost_76 : decode cX7_lost 76 = .ok (.iinc 2 1, 3) := by decide +kernel
theorem dX7_lost_79 : decode cX7_lost 79 = .ok (.goto (-37), 3) := by decide +kernel
theorem dX7_lost_82 : decode cX7_lost 82 = .ok (.iload_n 1, 1) := by decide +kernel
theorem dX7_lost_83 : decode cX7_lost 83 = .ok (.ireturn, 1) := by decide +kernel
set_option maxRecDepth 20000 in
theorem ggX7_counted_X7_field : GoodIn wsX7_counted wsX7_field := goodIn_r _ [8, 1, 39, 40, 41, 42, 43, 44, 45, 46, 47, 48] (by decide +kernel) (by decide +kernel)
set_option maxRecDepth 20000 in
theorem gX7_counted_X7_field : GoodIn wsX7_counted (wsV RX7 46 RX7 yX7_field wsX7_field) := goodIn_app (goodIn_of _ (by decide +kernel)) ggX7_counted_X7_field
set_option maxRecDepth 20000 in
theorem ggX7_counted_X7_stakedAll : GoodIn wsX7_counted wsX7_stakedAll := goodIn_r _ [12, 1, 13, 14, 7, 15, 16, 17, 18, 19, 20, 21, 22, 39, 40, 41, 42, 43, 44, 45, 46, 47, 48] (by decide +kernel) (by decide +kernel)
set_option maxRecDepth 20000 in
theorem gX7_counted_X7_stakedAll : GoodIn wsX7_counted (wsV RX7 132 RX7 yX7_stakedAll wsX7_stakedAll) := goodIn_app (goodIn_of _ (by decide +kernel)) ggX7_counted_X7_stakedAll
set_option maxRecDepth 20000 in
theorem ggX7_counted_X7_isOpen : GoodIn wsX7_counted wsX7_isOpen := goodIn_r _ [26, 1, 39, 40, 41, 42, 43, 44, 45, 46, 47, 48] (by decide +kernel) (by decide +kernel)
set_option maxRecDepth 20000 in
theorem gX7_counted_X7_isOpen : GoodIn wsX7_counted (wsV RX7 100 RX7 yX7_isOpen wsX7_isOpen) := goodIn_app (goodIn_of _ (by decide +kernel)) ggX7_counted_X7_isOpen
set_option maxRecDepth 20000 in
theorem ggX7_counted_X7_places : GoodIn wsX7_counted wsX7_places := goodIn_r _ [30, 4, 5, 6, 7, 8, 1, 39, 40, 41, 42, 43, 44, 45, 46, 47, 48] (by decide +kernel) (by decide +kernel)
set_option maxRecDepth 20000 in
theorem gX7_counted_X7_places : GoodIn wsX7_counted (wsV RX7 58 RX7 yX7_places wsX7_places) := goodIn_app (goodIn_of _ (by decide +kernel)) ggX7_counted_X7_places
set_option maxRecDepth 20000 in
theorem ggX7_counted_X7_round : GoodIn wsX7_counted wsX7_round := goodIn_r _ [34, 1, 39, 40, 41, 42, 43, 44, 45, 46, 47, 48] (by decide +kernel) (by decide +kernel)
set_option maxRecDepth 20000 in
theorem gX7_counted_X7_round : GoodIn wsX7_counted (wsV RX7 136 RX7 yX7_round wsX7_round) := goodIn_app (goodIn_of _ (by decide +kernel)) ggX7_counted_X7_round
set_option maxRecDepth 20000 in
theorem ggX7_counted_X7_lost : GoodIn wsX7_counted wsX7_lost := goodIn_r _ [38, 1, 16, 17, 18, 7, 19, 20, 21, 22, 13, 14, 15, 39, 40, 41, 42, 43, 44, 45, 46, 47, 48] (by decide +kernel) (by decide +kernel)
set_option maxRecDepth 20000 in
theorem gX7_counted_X7_lost : GoodIn wsX7_counted (wsV RX7 139 RX7 yX7_lost wsX7_lost) := goodIn_app (goodIn_of _ (by decide +kernel)) ggX7_counted_X7_lost
theorem dX7_counted_0 : decode cX7_counted 0 = .ok (.iload_n 1, 1) := by decide +kernel
theorem dX7_counted_1 : decode cX7_counted 1 = .ok (.tableswitch 225 0 12 #[67, 74, 79, 86, 93, 99, 105, 125, 145, 152, 157, 162, 206], 67) := by decide +kernel
theorem dX7_counted_68 : decode cX7_counted 68 = .ok (.aload_n 0, 1) := by decide +kernel
theorem dX7_counted_69 : decode cX7_counted 69 = .ok (.getfield 7, 3) := by decide +kernel
theorem dX7_counted_72 : decode cX7_counted 72 = .ok (.iconst 0, 1) := by decide +kernel
theorem dX7_counted_73 : decode cX7_counted 73 = .ok (.iaload, 1) := by decide +kernel
theorem dX7_counted_74 : decode cX7_counted 74 = .ok (.ireturn, 1) := by decide +kernel
theorem dX7_counted_75 : decode cX7_counted 75 = .ok (.aload_n 0, 1) := by decide +kernel
theorem dX7_counted_76 : decode cX7_counted 76 = .ok (.invokevirtual 46, 3) := by decide +kernel
theorem dX7_counted_79 : decode cX7_counted 79 = .ok (.ireturn, 1) := by decide +kernel
theorem dX7_counted_80 : decode cX7_counted 80 = .ok (.aload_n 0, 1) := by decide +kernel
theorem dX7_counted_81 : decode cX7_counted 81 = .ok (.getfield 7, 3) := by decide +kernel
theorem dX7_counted_84 : decode cX7_counted 84 = .ok (.iconst 1, 1) := by decide +kernel
theorem dX7_counted_85 : decode cX7_counted 85 = .ok (.iaload, 1) := by decide +kernel
theorem dX7_counted_86 : decode cX7_counted 86 = .ok (.ireturn, 1) := by decide +kernel
theorem dX7_counted_87 : decode cX7_counted 87 = .ok (.aload_n 0, 1) := by decide +kernel
theorem dX7_counted_88 : decode cX7_counted 88 = .ok (.getfield 7, 3) := by decide +kernel
theorem dX7_counted_91 : decode cX7_counted 91 = .ok (.iconst 2, 1) := by decide +kernel
theorem dX7_counted_92 : decode cX7_counted 92 = .ok (.iaload, 1) := by decide +kernel
theorem dX7_counted_93 : decode cX7_counted 93 = .ok (.ireturn, 1) := by decide +kernel
theorem dX7_counted_94 : decode cX7_counted 94 = .ok (.aload_n 0, 1) := by decide +kernel
theorem dX7_counted_95 : decode cX7_counted 95 = .ok (.iconst 0, 1) := by decide +kernel
theorem dX7_counted_96 : decode cX7_counted 96 = .ok (.invokevirtual 132, 3) := by decide +kernel
theorem dX7_counted_99 : decode cX7_counted 99 = .ok (.ireturn, 1) := by decide +kernel
theorem dX7_counted_100 : decode cX7_counted 100 = .ok (.aload_n 0, 1) := by decide +kernel
theorem dX7_counted_101 : decode cX7_counted 101 = .ok (.iconst 1, 1) := by decide +kernel
theorem dX7_counted_102 : decode cX7_counted 102 = .ok (.invokevirtual 132, 3) := by decide +kernel
theorem dX7_counted_105 : decode cX7_counted 105 = .ok (.ireturn, 1) := by decide +kernel
theorem dX7_counted_106 : decode cX7_counted 106 = .ok (.aload_n 0, 1) := by decide +kernel
theorem dX7_counted_107 : decode cX7_counted 107 = .ok (.invokevirtual 100, 3) := by decide +kernel
theorem dX7_counted_110 : decode cX7_counted 110 = .ok (.ifCond .eq 7, 3) := by decide +kernel
theorem dX7_counted_113 : decode cX7_counted 113 = .ok (.iconst 0, 1) := by decide +kernel
theorem dX7_counted_114 : decode cX7_counted 114 = .ok (.goto 11, 3) := by decide +kernel
theorem dX7_counted_117 : decode cX7_counted 117 = .ok (.aload_n 0, 1) := by decide +kernel
theorem dX7_counted_118 : decode cX7_counted 118 = .ok (.getfield 7, 3) := by decide +kernel
theorem dX7_counted_121 : decode cX7_counted 121 = .ok (.sipush 288, 3) := by decide +kernel
theorem dX7_counted_124 : decode cX7_counted 124 = .ok (.iaload, 1) := by decide +kernel
theorem dX7_counted_125 : decode cX7_counted 125 = .ok (.ireturn, 1) := by decide +kernel
theorem dX7_counted_126 : decode cX7_counted 126 = .ok (.aload_n 0, 1) := by decide +kernel
theorem dX7_counted_127 : decode cX7_counted 127 = .ok (.invokevirtual 100, 3) := by decide +kernel
theorem dX7_counted_130 : decode cX7_counted 130 = .ok (.ifCond .eq 7, 3) := by decide +kernel
theorem dX7_counted_133 : decode cX7_counted 133 = .ok (.iconst 0, 1) := by decide +kernel
theorem dX7_counted_134 : decode cX7_counted 134 = .ok (.goto 11, 3) := by decide +kernel
theorem dX7_counted_137 : decode cX7_counted 137 = .ok (.aload_n 0, 1) := by decide +kernel
theorem dX7_counted_138 : decode cX7_counted 138 = .ok (.getfield 7, 3) := by decide +kernel
theorem dX7_counted_141 : decode cX7_counted 141 = .ok (.sipush 289, 3) := by decide +kernel
theorem dX7_counted_144 : decode cX7_counted 144 = .ok (.iaload, 1) := by decide +kernel
theorem dX7_counted_145 : decode cX7_counted 145 = .ok (.ireturn, 1) := by decide +kernel
theorem dX7_counted_146 : decode cX7_counted 146 = .ok (.aload_n 0, 1) := by decide +kernel
theorem dX7_counted_147 : decode cX7_counted 147 = .ok (.getfield 7, 3) := by decide +kernel
theorem dX7_counted_150 : decode cX7_counted 150 = .ok (.iconst 3, 1) := by decide +kernel
theorem dX7_counted_151 : decode cX7_counted 151 = .ok (.iaload, 1) := by decide +kernel
theorem dX7_counted_152 : decode cX7_counted 152 = .ok (.ireturn, 1) := by decide +kernel
theorem dX7_counted_153 : decode cX7_counted 153 = .ok (.aload_n 0, 1) := by decide +kernel
theorem dX7_counted_154 : decode cX7_counted 154 = .ok (.invokevirtual 58, 3) := by decide +kernel
theorem dX7_counted_157 : decode cX7_counted 157 = .ok (.ireturn, 1) := by decide +kernel
theorem dX7_counted_158 : decode cX7_counted 158 = .ok (.aload_n 0, 1) := by decide +kernel
theorem dX7_counted_159 : decode cX7_counted 159 = .ok (.invokevirtual 136, 3) := by decide +kernel
theorem dX7_counted_162 : decode cX7_counted 162 = .ok (.ireturn, 1) := by decide +kernel
theorem dX7_counted_163 : decode cX7_counted 163 = .ok (.aload_n 0, 1) := by decide +kernel
theorem dX7_counted_164 : decode cX7_counted 164 = .ok (.invokevirtual 100, 3) := by decide +kernel
theorem dX7_counted_167 : decode cX7_counted 167 = .ok (.ifCond .eq 7, 3) := by decide +kernel
theorem dX7_counted_170 : decode cX7_counted 170 = .ok (.iconst 0, 1) := by decide +kernel
theorem dX7_counted_171 : decode cX7_counted 171 = .ok (.goto 35, 3) := by decide +kernel
theorem dX7_counted_174 : decode cX7_counted 174 = .ok (.aload_n 0, 1) := by decide +kernel
theorem dX7_counted_175 : decode cX7_counted 175 = .ok (.iconst 0, 1) := by decide +kernel
theorem dX7_counted_176 : decode cX7_counted 176 = .ok (.invokevirtual 132, 3) := by decide +kernel
theorem dX7_counted_179 : decode cX7_counted 179 = .ok (.aload_n 0, 1) := by decide +kernel
theorem dX7_counted_180 : decode cX7_counted 180 = .ok (.getfield 7, 3) := by decide +kernel
theorem dX7_counted_183 : decode cX7_counted 183 = .ok (.sipush 288, 3) := by decide +kernel
theorem dX7_counted_186 : decode cX7_counted 186 = .ok (.iaload, 1) := by decide +kernel
theorem dX7_counted_187 : decode cX7_counted 187 = .ok (.isub, 1) := by decide +kernel
theorem dX7_counted_188 : decode cX7_counted 188 = .ok (.aload_n 0, 1) := by decide +kernel
theorem dX7_counted_189 : decode cX7_counted 189 = .ok (.iconst 1, 1) := by decide +kernel
theorem dX7_counted_190 : decode cX7_counted 190 = .ok (.invokevirtual 132, 3) := by decide +kernel
theorem dX7_counted_193 : decode cX7_counted 193 = .ok (.isub, 1) := by decide +kernel
theorem dX7_counted_194 : decode cX7_counted 194 = .ok (.aload_n 0, 1) := by decide +kernel
theorem dX7_counted_195 : decode cX7_counted 195 = .ok (.getfield 7, 3) := by decide +kernel
theorem dX7_counted_198 : decode cX7_counted 198 = .ok (.sipush 289, 3) := by decide +kernel
theorem dX7_counted_201 : decode cX7_counted 201 = .ok (.iaload, 1) := by decide +kernel
theorem dX7_counted_202 : decode cX7_counted 202 = .ok (.iadd, 1) := by decide +kernel
theorem dX7_counted_203 : decode cX7_counted 203 = .ok (.ldc 123, 2) := by decide +kernel
theorem dX7_counted_205 : decode cX7_counted 205 = .ok (.iadd, 1) := by decide +kernel
theorem dX7_counted_206 : decode cX7_counted 206 = .ok (.ireturn, 1) := by decide +kernel
theorem dX7_counted_207 : decode cX7_counted 207 = .ok (.aload_n 0, 1) := by decide +kernel
theorem dX7_counted_208 : decode cX7_counted 208 = .ok (.invokevirtual 100, 3) := by decide +kernel
theorem dX7_counted_211 : decode cX7_counted 211 = .ok (.ifCond .eq 7, 3) := by decide +kernel
theorem dX7_counted_214 : decode cX7_counted 214 = .ok (.iconst 0, 1) := by decide +kernel
theorem dX7_counted_215 : decode cX7_counted 215 = .ok (.goto 10, 3) := by decide +kernel
theorem dX7_counted_218 : decode cX7_counted 218 = .ok (.aload_n 0, 1) := by decide +kernel
theorem dX7_counted_219 : decode cX7_counted 219 = .ok (.invokevirtual 139, 3) := by decide +kernel
theorem dX7_counted_222 : decode cX7_counted 222 = .ok (.ldc 123, 2) := by decide +kernel
theorem dX7_counted_224 : decode cX7_counted 224 = .ok (.iadd, 1) := by decide +kernel
theorem dX7_counted_225 : decode cX7_counted 225 = .ok (.ireturn, 1) := by decide +kernel
theorem dX7_counted_226 : decode cX7_counted 226 = .ok (.aload_n 0, 1) := by decide +kernel
theorem dX7_counted_227 : decode cX7_counted 227 = .ok (.getfield 31, 3) := by decide +kernel
theorem dX7_counted_230 : decode cX7_counted 230 = .ok (.ireturn, 1) := by decide +kernel
set_option maxRecDepth 20000 in
theorem ggX7_count_X7_in : GoodIn wsX7_count wsX7_in := goodIn_r _ [4] (by decide +kernel) (by decide +kernel)
set_option maxRecDepth 20000 in
theorem gX7_count_X7_in : GoodIn wsX7_count (va_wsS RX7 38 yX7_in wsX7_in) := goodIn_app (goodIn_of _ (by decide +kernel)) ggX7_count_X7_in
set_option maxRecDepth 20000 in
theorem ggX7_count_X7_goes : GoodIn wsX7_count wsX7_goes := goodIn_r _ [8, 9, 51, 52, 53, 54, 55, 56, 57, 58, 59, 60] (by decide +kernel) (by decide +kernel)
set_option maxRecDepth 20000 in
theorem gX7_count_X7_goes : GoodIn wsX7_count (wsV RX7 104 RX7 yX7_goes wsX7_goes) := goodIn_app (goodIn_of _ (by decide +kernel)) ggX7_count_X7_goes
set_option maxRecDepth 20000 in
theorem ggX7_count_X7_counted : GoodIn wsX7_count wsX7_counted := goodIn_r _ [13, 14, 15, 16, 17, 18, 19, 3, 20, 21, 22, 23, 24, 25, 26, 27, 28, 29, 30, 31, 32, 33, 34, 35, 36, 37, 38, 39, 40, 41, 42, 43, 44, 45, 46, 47, 48, 49, 50, 51, 52, 53, 54, 55, 56, 57, 58, 59, 60] (by decide +kernel) (by decide +kernel)
set_option maxRecDepth 20000 in
theorem gX7_count_X7_counted : GoodIn wsX7_count (wsV RX7 142 RX7 yX7_counted wsX7_counted) := goodIn_app (goodIn_of _ (by decide +kernel)) ggX7_count_X7_counted
theorem dX7_count_0 : decode cX7_count 0 = .ok (.aload_n 0, 1) := by decide +kernel
theorem dX7_count_1 : decode cX7_count 1 = .ok (.iload_n 1, 1) := by decide +kernel
theorem dX7_count_2 : decode cX7_count 2 = .ok (.iconst 0, 1) := by decide +kernel
theorem dX7_count_3 : decode cX7_count 3 = .ok (.bipush 13, 2) := by decide +kernel
theorem dX7_count_5 : decode cX7_count 5 = .ok (.invokestatic 38, 3) := by decide +kernel
theorem dX7_count_8 : decode cX7_count 8 = .ok (.iconst 1, 1) := by decide +kernel
theorem dX7_count_9 : decode cX7_count 9 = .ok (.iconst 1, 1) := by decide +kernel
theorem dX7_count_10 : decode cX7_count 10 = .ok (.invokevirtual 104, 3) := by decide +kernel
theorem dX7_count_13 : decode cX7_count 13 = .ok (.ifCond .eq 11, 3) := by decide +kernel
theorem dX7_count_16 : decode cX7_count 16 = .ok (.aload_n 0, 1) := by decide +kernel
theorem dX7_count_17 : decode cX7_count 17 = .ok (.iload_n 1, 1) := by decide +kernel
theorem dX7_count_18 : decode cX7_count 18 = .ok (.invokevirtual 142, 3) := by decide +kernel
theorem dX7_count_21 : decode cX7_count 21 = .ok (.goto 4, 3) := by decide +kernel
theorem dX7_count_24 : decode cX7_count 24 = .ok (.iconst 0, 1) := by decide +kernel
theorem dX7_count_25 : decode cX7_count 25 = .ok (.ireturn, 1) := by decide +kernel
set_option maxRecDepth 20000 in
theorem ggX7_setting_X7_in : GoodIn wsX7_setting wsX7_in := goodIn_r _ [5] (by decide +kernel) (by decide +kernel)
set_option maxRecDepth 20000 in
theorem gX7_setting_X7_in : GoodIn wsX7_setting (va_wsS RX7 38 yX7_in wsX7_in) := goodIn_app (goodIn_of _ (by decide +kernel)) ggX7_setting_X7_in
set_option maxRecDepth 20000 in
theorem ggX7_setting_X7_goes : GoodIn wsX7_setting wsX7_goes := goodIn_r _ [9, 10, 11, 12, 13, 14, 15, 16, 17, 18, 19, 20] (by decide +kernel) (by decide +kernel)
set_option maxRecDepth 20000 in
theorem gX7_setting_X7_goes : GoodIn wsX7_setting (wsV RX7 104 RX7 yX7_goes wsX7_goes) := goodIn_app (goodIn_of _ (by decide +kernel)) ggX7_setting_X7_goes
theorem dX7_setting_0 : decode cX7_setting 0 = .ok (.aload_n 0, 1) := by decide +kernel
theorem dX7_setting_1 : decode cX7_setting 1 = .ok (.iload_n 1, 1) := by decide +kernel
theorem dX7_setting_2 : decode cX7_setting 2 = .ok (.iconst 0, 1) := by decide +kernel
theorem dX7_setting_3 : decode cX7_setting 3 = .ok (.iconst 1, 1) := by decide +kernel
theorem dX7_setting_4 : decode cX7_setting 4 = .ok (.invokestatic 38, 3) := by decide +kernel
theorem dX7_setting_7 : decode cX7_setting 7 = .ok (.iconst 1, 1) := by decide +kernel
theorem dX7_setting_8 : decode cX7_setting 8 = .ok (.iconst 1, 1) := by decide +kernel
theorem dX7_setting_9 : decode cX7_setting 9 = .ok (.invokevirtual 104, 3) := by decide +kernel
theorem dX7_setting_12 : decode cX7_setting 12 = .ok (.ifCond .eq 14, 3) := by decide +kernel
theorem dX7_setting_15 : decode cX7_setting 15 = .ok (.aload_n 0, 1) := by decide +kernel
theorem dX7_setting_16 : decode cX7_setting 16 = .ok (.getfield 7, 3) := by decide +kernel
theorem dX7_setting_19 : decode cX7_setting 19 = .ok (.iconst 4, 1) := by decide +kernel
theorem dX7_setting_20 : decode cX7_setting 20 = .ok (.iload_n 1, 1) := by decide +kernel
theorem dX7_setting_21 : decode cX7_setting 21 = .ok (.iadd, 1) := by decide +kernel
theorem dX7_setting_22 : decode cX7_setting 22 = .ok (.iaload, 1) := by decide +kernel
theorem dX7_setting_23 : decode cX7_setting 23 = .ok (.goto 4, 3) := by decide +kernel
theorem dX7_setting_26 : decode cX7_setting 26 = .ok (.iconst 0, 1) := by decide +kernel
theorem dX7_setting_27 : decode cX7_setting 27 = .ok (.ireturn, 1) := by decide +kernel
set_option maxRecDepth 20000 in
theorem ggX7_byBuffer_X7_isArrival : GoodIn wsX7_byBuffer wsX7_isArrival := goodIn_r _ [6, 7, 8, 9, 10, 11, 5, 12, 75, 76, 77, 78, 79, 80, 81, 82, 83, 84] (by decide +kernel) (by decide +kernel)
set_option maxRecDepth 20000 in
theorem gX7_byBuffer_X7_isArrival : GoodIn wsX7_byBuffer (wsV RX7 114 RX7 yX7_isArrival wsX7_isArrival) := goodIn_app (goodIn_of _ (by decide +kernel)) ggX7_byBuffer_X7_isArrival
set_option maxRecDepth 20000 in
theorem ggX7_byBuffer_X7_lays : GoodIn wsX7_byBuffer wsX7_lays := goodIn_r _ [16, 8, 9, 17, 18, 19, 20, 21, 5, 22, 23, 24, 25, 26, 27, 28, 29, 30, 31, 10, 11, 12, 75, 76, 77, 78, 79, 80, 81, 82, 83, 84] (by decide +kernel) (by decide +kernel)
set_option maxRecDepth 20000 in
theorem gX7_byBuffer_X7_lays : GoodIn wsX7_byBuffer (wsV RX7 117 RX7 yX7_lays wsX7_lays) := goodIn_app (goodIn_of _ (by decide +kernel)) ggX7_byBuffer_X7_lays
set_option maxRecDepth 20000 in
theorem ggX7_byBuffer_X7_wins : GoodIn wsX7_byBuffer wsX7_wins := goodIn_r _ [35, 27, 36, 37, 38, 5, 39, 40, 41, 42, 43, 44, 45, 46, 47, 48, 49, 50, 51, 17, 18, 52, 53, 54, 55, 56, 57, 58, 59, 60, 61, 62, 63, 64, 65, 66, 67, 68, 69, 70, 71, 72, 73, 74, 75, 76, 77, 78, 79, 80, 81, 82, 83, 84] (by decide +kernel) (by decide +kernel)
set_option maxRecDepth 20000 in
theorem gX7_byBuffer_X7_wins : GoodIn wsX7_byBuffer (wsV RX7 120 RX7 yX7_wins wsX7_wins) := goodIn_app (goodIn_of _ (by decide +kernel)) ggX7_byBuffer_X7_wins
theorem dX7_byBuffer_0 : decode cX7_byBuffer 0 = .ok (.aload_n 0, 1) := by decide +kernel
theorem dX7_byBuffer_1 : decode cX7_byBuffer 1 = .ok (.invokevirtual 114, 3) := by decide +kernel
theorem dX7_byBuffer_4 : decode cX7_byBuffer 4 = .ok (.ifCond .eq 20, 3) := by decide +kernel
theorem dX7_byBuffer_7 : decode cX7_byBuffer 7 = .ok (.aload_n 0, 1) := by decide +kernel
theorem dX7_byBuffer_8 : decode cX7_byBuffer 8 = .ok (.invokevirtual 117, 3) := by decide +kernel
theorem dX7_byBuffer_11 : decode cX7_byBuffer 11 = .ok (.ifCond .eq 13, 3) := by decide +kernel
theorem dX7_byBuffer_14 : decode cX7_byBuffer 14 = .ok (.aload_n 0, 1) := by decide +kernel
theorem dX7_byBuffer_15 : decode cX7_byBuffer 15 = .ok (.invokevirtual 120, 3) := by decide +kernel
theorem dX7_byBuffer_18 : decode cX7_byBuffer 18 = .ok (.ldc 123, 2) := by decide +kernel
theorem dX7_byBuffer_20 : decode cX7_byBuffer 20 = .ok (.iadd, 1) := by decide +kernel
theorem dX7_byBuffer_21 : decode cX7_byBuffer 21 = .ok (.goto 4, 3) := by decide +kernel
theorem dX7_byBuffer_24 : decode cX7_byBuffer 24 = .ok (.iconst (-1), 1) := by decide +kernel
theorem dX7_byBuffer_25 : decode cX7_byBuffer 25 = .ok (.ireturn, 1) := by decide +kernel
set_option maxRecDepth 20000 in
theorem ggX7_ifArrived_X7_byBuffer : GoodIn wsX7_ifArrived wsX7_byBuffer := goodIn_r _ [6, 7, 8, 9, 10, 5, 11, 12, 13, 14, 15, 16, 17, 18, 19, 20, 21, 22, 23, 24, 25, 26, 27, 28, 29, 30, 31, 32, 33, 34, 35, 36, 37, 38, 39, 40, 41, 42, 43, 44, 45, 46, 47, 48, 49, 50, 51, 52, 53, 54, 55, 56, 57, 58, 59, 60, 61, 62, 63, 64, 65, 66, 67, 68, 69, 70, 71, 72, 73, 74, 75, 76, 77, 78, 79, 80, 81, 82, 83, 84, 85, 86, 87, 88, 89] (by decide +kernel) (by decide +kernel)
set_option maxRecDepth 20000 in
theorem gX7_ifArrived_X7_byBuffer : GoodIn wsX7_ifArrived (wsV RX7 145 RX7 yX7_byBuffer wsX7_byBuffer) := goodIn_app (goodIn_of _ (by decide +kernel)) ggX7_ifArrived_X7_byBuffer
theorem dX7_ifArrived_0 : decode cX7_ifArrived 0 = .ok (.aload_n 0, 1) := by decide +kernel
theorem dX7_ifArrived_1 : decode cX7_ifArrived 1 = .ok (.iconst 0, 1) := by decide +kernel
theorem dX7_ifArrived_2 : decode cX7_ifArrived 2 = .ok (.putfield 27, 3) := by decide +kernel
theorem dX7_ifArrived_5 : decode cX7_ifArrived 5 = .ok (.aload_n 0, 1) := by decide +kernel
theorem dX7_ifArrived_6 : decode cX7_ifArrived 6 = .ok (.invokevirtual 145, 3) := by decide +kernel
theorem dX7_ifArrived_9 : decode cX7_ifArrived 9 = .ok (.ireturn, 1) := by decide +kernel
set_option maxRecDepth 20000 in
theorem ggX7_winsWith_X7_forgets : GoodIn wsX7_winsWith wsX7_forgets := goodIn_r _ [8, 1, 2, 52, 53, 54, 55, 56, 57, 58, 59, 60, 61] (by decide +kernel) (by decide +kernel)
set_option maxRecDepth 20000 in
theorem gX7_winsWith_X7_forgets : GoodIn wsX7_winsWith (wsV RX7 90 RX7 yX7_forgets wsX7_forgets) := goodIn_app (goodIn_of _ (by decide +kernel)) ggX7_winsWith_X7_forgets
set_option maxRecDepth 20000 in
theorem ggX7_winsWith_X7_wins : GoodIn wsX7_winsWith wsX7_wins := goodIn_r _ [12, 3, 13, 14, 15, 7, 16, 17, 18, 19, 20, 21, 22, 23, 24, 25, 26, 27, 28, 1, 2, 29, 30, 31, 32, 33, 34, 35, 36, 37, 38, 39, 40, 41, 42, 43, 44, 45, 46, 47, 48, 49, 50, 51, 52, 53, 54, 55, 56, 57, 58, 59, 60, 61] (by decide +kernel) (by decide +kernel)
set_option maxRecDepth 20000 in
theorem gX7_winsWith_X7_wins : GoodIn wsX7_winsWith (wsV RX7 120 RX7 yX7_wins wsX7_wins) := goodIn_app (goodIn_of _ (by decide +kernel)) ggX7_winsWith_X7_wins
theorem dX7_winsWith_0 : decode cX7_winsWith 0 = .ok (.aload_n 0, 1) := by decide +kernel
theorem dX7_winsWith_1 : decode cX7_winsWith 1 = .ok (.invokevirtual 90, 3) := by decide +kernel
theorem dX7_winsWith_4 : decode cX7_winsWith 4 = .ok (.aload_n 0, 1) := by decide +kernel
theorem dX7_winsWith_5 : decode cX7_winsWith 5 = .ok (.getfield 21, 3) := by decide +kernel
theorem dX7_winsWith_8 : decode cX7_winsWith 8 = .ok (.iload_n 1, 1) := by decide +kernel
theorem dX7_winsWith_9 : decode cX7_winsWith 9 = .ok (.iconst 1, 1) := by decide +kernel
theorem dX7_winsWith_10 : decode cX7_winsWith 10 = .ok (.iastore, 1) := by decide +kernel
theorem dX7_winsWith_11 : decode cX7_winsWith 11 = .ok (.aload_n 0, 1) := by decide +kernel
theorem dX7_winsWith_12 : decode cX7_winsWith 12 = .ok (.getfield 24, 3) := by decide +kernel
theorem dX7_winsWith_15 : decode cX7_winsWith 15 = .ok (.iload_n 1, 1) := by decide +kernel
theorem dX7_winsWith_16 : decode cX7_winsWith 16 = .ok (.iconst 1, 1) := by decide +kernel
theorem dX7_winsWith_17 : decode cX7_winsWith 17 = .ok (.iastore, 1) := by decide +kernel
theorem dX7_winsWith_18 : decode cX7_winsWith 18 = .ok (.iconst 1, 1) := by decide +kernel
theorem dX7_winsWith_19 : decode cX7_winsWith 19 = .ok (.istore_n 2, 1) := by decide +kernel
theorem dX7_winsWith_20 : decode cX7_winsWith 20 = .ok (.iconst 0, 1) := by decide +kernel
theorem dX7_winsWith_21 : decode cX7_winsWith 21 = .ok (.istore_n 3, 1) := by decide +kernel
theorem dX7_winsWith_22 : decode cX7_winsWith 22 = .ok (.iload_n 3, 1) := by decide +kernel
theorem dX7_winsWith_23 : decode cX7_winsWith 23 = .ok (.aload_n 0, 1) := by decide +kernel
theorem dX7_winsWith_24 : decode cX7_winsWith 24 = .ok (.getfield 7, 3) := by decide +kernel
theorem dX7_winsWith_27 : decode cX7_winsWith 27 = .ok (.iconst 0, 1) := by decide +kernel
theorem dX7_winsWith_28 : decode cX7_winsWith 28 = .ok (.iaload, 1) := by decide +kernel
theorem dX7_winsWith_29 : decode cX7_winsWith 29 = .ok (.if_icmp .ge 44, 3) := by decide +kernel
theorem dX7_winsWith_32 : decode cX7_winsWith 32 = .ok (.iload_n 3, 1) := by decide +kernel
theorem dX7_winsWith_33 : decode cX7_winsWith 33 = .ok (.iload_n 1, 1) := by decide +kernel
theorem dX7_winsWith_34 : decode cX7_winsWith 34 = .ok (.if_icmp .eq 33, 3) := by decide +kernel
theorem dX7_winsWith_37 : decode cX7_winsWith 37 = .ok (.aload_n 0, 1) := by decide +kernel
theorem dX7_winsWith_38 : decode cX7_winsWith 38 = .ok (.getfield 7, 3) := by decide +kernel
theorem dX7_winsWith_41 : decode cX7_winsWith 41 = .ok (.bipush 26, 2) := by decide +kernel
theorem dX7_winsWith_43 : decode cX7_winsWith 43 = .ok (.iload_n 3, 1) := by decide +kernel
theorem dX7_winsWith_44 : decode cX7_winsWith 44 = .ok (.iadd, 1) := by decide +kernel
theorem dX7_winsWith_45 : decode cX7_winsWith 45 = .ok (.iaload, 1) := by decide +kernel
theorem dX7_winsWith_46 : decode cX7_winsWith 46 = .ok (.iconst 1, 1) := by decide +kernel
theorem dX7_winsWith_47 : decode cX7_winsWith 47 = .ok (.if_icmp .ne 20, 3) := by decide +kernel
theorem dX7_winsWith_50 : decode cX7_winsWith 50 = .ok (.iinc 2 1, 3) := by decide +kernel
theorem dX7_winsWith_53 : decode cX7_winsWith 53 = .ok (.aload_n 0, 1) := by decide +kernel
theorem dX7_winsWith_54 : decode cX7_winsWith 54 = .ok (.getfield 21, 3) := by decide +kernel
theorem dX7_winsWith_57 : decode cX7_winsWith 57 = .ok (.iload_n 3, 1) := by decide +kernel
theorem dX7_winsWith_58 : decode cX7_winsWith 58 = .ok (.iload_n 2, 1) := by decide +kernel
theorem dX7_winsWith_59 : decode cX7_winsWith 59 = .ok (.iastore, 1) := by decide +kernel
theorem dX7_winsWith_60 : decode cX7_winsWith 60 = .ok (.aload_n 0, 1) := by decide +kernel
theorem dX7_winsWith_61 : decode cX7_winsWith 61 = .ok (.getfield 24, 3) := by decide +kernel
theorem dX7_winsWith_64 : decode cX7_winsWith 64 = .ok (.iload_n 3, 1) := by decide +kernel
theorem dX7_winsWith_65 : decode cX7_winsWith 65 = .ok (.iconst 1, 1) := by decide +kernel
theorem dX7_winsWith_66 : decode cX7_winsWith 66 = .ok (.iastore, 1) := by decide +kernel
theorem dX7_winsWith_67 : decode cX7_winsWith 67 = .ok (.iinc 3 1, 3) := by decide +kernel
theorem dX7_winsWith_70 : decode cX7_winsWith 70 = .ok (.goto (-48), 3) := by decide +kernel
theorem dX7_winsWith_73 : decode cX7_winsWith 73 = .ok (.aload_n 0, 1) := by decide +kernel
theorem dX7_winsWith_74 : decode cX7_winsWith 74 = .ok (.invokevirtual 120, 3) := by decide +kernel
theorem dX7_winsWith_77 : decode cX7_winsWith 77 = .ok (.ireturn, 1) := by decide +kernel
set_option maxRecDepth 20000 in
theorem ggX7_ifFirst_X7_winsWith : GoodIn wsX7_ifFirst wsX7_winsWith := goodIn_r _ [7, 8, 9, 1, 10, 11, 12, 6, 13, 14, 15, 16, 17, 18, 19, 20, 21, 22, 23, 24, 25, 26, 27, 28, 29, 30, 31, 32, 33, 34, 35, 36, 37, 38, 39, 40, 41, 42, 43, 44, 45, 46, 47, 48, 49, 50, 51, 52, 53, 54, 55, 56, 57, 58, 59, 60, 61, 62, 63, 64, 65, 66] (by decide +kernel) (by decide +kernel)
set_option maxRecDepth 20000 in
theorem gX7_ifFirst_X7_winsWith : GoodIn wsX7_ifFirst (wsV RX7 148 RX7 yX7_winsWith wsX7_winsWith) := goodIn_app (goodIn_of _ (by decide +kernel)) ggX7_ifFirst_X7_winsWith
theorem dX7_ifFirst_0 : decode cX7_ifFirst 0 = .ok (.aload_n 0, 1) := by decide +kernel
theorem dX7_ifFirst_1 : decode cX7_ifFirst 1 = .ok (.getfield 7, 3) := by decide +kernel
theorem dX7_ifFirst_4 : decode cX7_ifFirst 4 = .ok (.bipush 26, 2) := by decide +kernel
theorem dX7_ifFirst_6 : decode cX7_ifFirst 6 = .ok (.iload_n 1, 1) := by decide +kernel
theorem dX7_ifFirst_7 : decode cX7_ifFirst 7 = .ok (.iadd, 1) := by decide +kernel
theorem dX7_ifFirst_8 : decode cX7_ifFirst 8 = .ok (.iaload, 1) := by decide +kernel
theorem dX7_ifFirst_9 : decode cX7_ifFirst 9 = .ok (.iconst 1, 1) := by decide +kernel
theorem dX7_ifFirst_10 : decode cX7_ifFirst 10 = .ok (.if_icmp .ne 14, 3) := by decide +kernel
theorem dX7_ifFirst_13 : decode cX7_ifFirst 13 = .ok (.aload_n 0, 1) := by decide +kernel
theorem dX7_ifFirst_14 : decode cX7_ifFirst 14 = .ok (.iload_n 1, 1) := by decide +kernel
theorem dX7_ifFirst_15 : decode cX7_ifFirst 15 = .ok (.invokevirtual 148, 3) := by decide +kernel
theorem dX7_ifFirst_18 : decode cX7_ifFirst 18 = .ok (.ldc 123, 2) := by decide +kernel
theorem dX7_ifFirst_20 : decode cX7_ifFirst 20 = .ok (.iadd, 1) := by decide +kernel
theorem dX7_ifFirst_21 : decode cX7_ifFirst 21 = .ok (.goto 4, 3) := by decide +kernel
theorem dX7_ifFirst_24 : decode cX7_ifFirst 24 = .ok (.iconst (-1), 1) := by decide +kernel
theorem dX7_ifFirst_25 : decode cX7_ifFirst 25 = .ok (.ireturn, 1) := by decide +kernel
set_option maxRecDepth 20000 in
theorem ggX7_ifWon_X7_isHorse : GoodIn wsX7_ifWon wsX7_isHorse := goodIn_r _ [5, 6, 7, 8, 4, 9, 73, 74, 75, 76, 77, 78, 79, 80, 81, 82] (by decide +kernel) (by decide +kernel)
set_option maxRecDepth 20000 in
theorem gX7_ifWon_X7_isHorse : GoodIn wsX7_ifWon (wsV RX7 42 RX7 yX7_isHorse wsX7_isHorse) := goodIn_app (goodIn_of _ (by decide +kernel)) ggX7_ifWon_X7_isHorse
set_option maxRecDepth 20000 in
theorem ggX7_ifWon_X7_goes : GoodIn wsX7_ifWon wsX7_goes := goodIn_r _ [13, 14, 73, 74, 75, 76, 77, 78, 79, 80, 81, 82] (by decide +kernel) (by decide +kernel)
set_option maxRecDepth 20000 in
theorem gX7_ifWon_X7_goes : GoodIn wsX7_ifWon (wsV RX7 104 RX7 yX7_goes wsX7_goes) := goodIn_app (goodIn_of _ (by decide +kernel)) ggX7_ifWon_X7_goes
set_option maxRecDepth 20000 in
theorem ggX7_ifWon_X7_ifFirst : GoodIn wsX7_ifWon wsX7_ifFirst := goodIn_r _ [18, 6, 19, 20, 21, 22, 4, 23, 24, 25, 26, 27, 28, 29, 30, 31, 32, 33, 34, 35, 36, 37, 38, 39, 40, 41, 42, 43, 44, 45, 46, 47, 48, 49, 50, 51, 52, 53, 54, 55, 56, 57, 58, 59, 60, 61, 62, 63, 64, 65, 66, 67, 68, 69, 70, 71, 72, 73, 74, 75, 76, 77, 78, 79, 80, 81, 82] (by decide +kernel) (by decide +kernel)
set_option maxRecDepth 20000 in
theorem gX7_ifWon_X7_ifFirst : GoodIn wsX7_ifWon (wsV RX7 151 RX7 yX7_ifFirst wsX7_ifFirst) := goodIn_app (goodIn_of _ (by decide +kernel)) ggX7_ifWon_X7_ifFirst
theorem dX7_ifWon_0 : decode cX7_ifWon 0 = .ok (.aload_n 0, 1) := by decide +kernel
theorem dX7_ifWon_1 : decode cX7_ifWon 1 = .ok (.aload_n 0, 1) := by decide +kernel
theorem dX7_ifWon_2 : decode cX7_ifWon 2 = .ok (.iload_n 1, 1) := by decide +kernel
theorem dX7_ifWon_3 : decode cX7_ifWon 3 = .ok (.invokevirtual 42, 3) := by decide +kernel
theorem dX7_ifWon_6 : decode cX7_ifWon 6 = .ok (.iconst 1, 1) := by decide +kernel
theorem dX7_ifWon_7 : decode cX7_ifWon 7 = .ok (.iconst 1, 1) := by decide +kernel
theorem dX7_ifWon_8 : decode cX7_ifWon 8 = .ok (.invokevirtual 104, 3) := by decide +kernel
theorem dX7_ifWon_11 : decode cX7_ifWon 11 = .ok (.ifCond .eq 11, 3) := by decide +kernel
theorem dX7_ifWon_14 : decode cX7_ifWon 14 = .ok (.aload_n 0, 1) := by decide +kernel
theorem dX7_ifWon_15 : decode cX7_ifWon 15 = .ok (.iload_n 1, 1) := by decide +kernel
theorem dX7_ifWon_16 : decode cX7_ifWon 16 = .ok (.invokevirtual 151, 3) := by decide +kernel
theorem dX7_ifWon_19 : decode cX7_ifWon 19 = .ok (.goto 4, 3) := by decide +kernel
theorem dX7_ifWon_22 : decode cX7_ifWon 22 = .ok (.iconst 0, 1) := by decide +kernel
theorem dX7_ifWon_23 : decode cX7_ifWon 23 = .ok (.ireturn, 1) := by decide +kernel
set_option maxRecDepth 20000 in
theorem ggX7_worstOne_X7_winsWith : GoodIn wsX7_worstOne wsX7_winsWith := goodIn_r _ [6, 7, 8, 1, 9, 10, 11, 5, 12, 13, 14, 15, 16, 17, 18, 19, 20, 21, 22, 23, 24, 25, 26, 27, 28, 29, 30, 31, 32, 33, 34, 35, 36, 37, 38, 39, 40, 41, 42, 43, 44, 45, 46, 47, 48, 49, 50, 51, 52, 53, 54, 55, 56, 57, 58, 59, 60, 61, 62, 63, 64, 65] (by decide +kernel) (by decide +kernel)
set_option maxRecDepth 20000 in
theorem gX7_worstOne_X7_winsWith : GoodIn wsX7_worstOne (wsV RX7 148 RX7 yX7_winsWith wsX7_winsWith) := goodIn_app (goodIn_of _ (by decide +kernel)) ggX7_worstOne_X7_winsWith
theorem dX7_worstOne_0 : decode cX7_worstOne 0 = .ok (.iconst (-1), 1) := by decide +kernel
theorem dX7_worstOne_1 : decode cX7_worstOne 1 = .ok (.istore_n 1, 1) := by decide +kernel
theorem dX7_worstOne_2 : decode cX7_worstOne 2 = .ok (.iconst 0, 1) := by decide +kernel
theorem dX7_worstOne_3 : decode cX7_worstOne 3 = .ok (.istore_n 2, 1) := by decide +kernel
theorem dX7_worstOne_4 : decode cX7_worstOne 4 = .ok (.iconst 0, 1) := by decide +kernel
theorem dX7_worstOne_5 : decode cX7_worstOne 5 = .ok (.istore_n 3, 1) := by decide +kernel
theorem dX7_worstOne_6 : decode cX7_worstOne 6 = .ok (.iload_n 3, 1) := by decide +kernel
theorem dX7_worstOne_7 : decode cX7_worstOne 7 = .ok (.aload_n 0, 1) := by decide +kernel
theorem dX7_worstOne_8 : decode cX7_worstOne 8 = .ok (.getfield 7, 3) := by decide +kernel
theorem dX7_worstOne_11 : decode cX7_worstOne 11 = .ok (.iconst 0, 1) := by decide +kernel
theorem dX7_worstOne_12 : decode cX7_worstOne 12 = .ok (.iaload, 1) := by decide +kernel
theorem dX7_worstOne_13 : decode cX7_worstOne 13 = .ok (.if_icmp .ge 44, 3) := by decide +kernel
theorem dX7_worstOne_16 : decode cX7_worstOne 16 = .ok (.aload_n 0, 1) := by decide +kernel
theorem dX7_worstOne_17 : decode cX7_worstOne 17 = .ok (.getfield 7, 3) := by decide +kernel
theorem dX7_worstOne_20 : decode cX7_worstOne 20 = .ok (.bipush 26, 2) := by decide +kernel
theorem dX7_worstOne_22 : decode cX7_worstOne 22 = .ok (.iload_n 3, 1) := by decide +kernel
theorem dX7_worstOne_23 : decode cX7_worstOne 23 = .ok (.iadd, 1) := by decide +kernel
theorem dX7_worstOne_24 : decode cX7_worstOne 24 = .ok (.iaload, 1) := by decide +kernel
theorem dX7_worstOne_25 : decode cX7_worstOne 25 = .ok (.iconst 1, 1) := by decide +kernel
theorem dX7_worstOne_26 : decode cX7_worstOne 26 = .ok (.if_icmp .ne 25, 3) := by decide +kernel
theorem dX7_worstOne_29 : decode cX7_worstOne 29 = .ok (.aload_n 0, 1) := by decide +kernel
theorem dX7_worstOne_30 : decode cX7_worstOne 30 = .ok (.iload_n 3, 1) := by decide +kernel
theorem dX7_worstOne_31 : decode cX7_worstOne 31 = .ok (.invokevirtual 148, 3) := by decide +kernel
theorem dX7_worstOne_34 : decode cX7_worstOne 34 = .ok (.istore 4, 2) := by decide +kernel
theorem dX7_worstOne_36 : decode cX7_worstOne 36 = .ok (.iload_n 1, 1) := by decide +kernel
theorem dX7_worstOne_37 : decode cX7_worstOne 37 = .ok (.ifCond .lt 9, 3) := by decide +kernel
theorem dX7_worstOne_40 : decode cX7_worstOne 40 = .ok (.iload 4, 2) := by decide +kernel
theorem dX7_worstOne_42 : decode cX7_worstOne 42 = .ok (.iload_n 2, 1) := by decide +kernel
theorem dX7_worstOne_43 : decode cX7_worstOne 43 = .ok (.if_icmp .ge 8, 3) := by decide +kernel
theorem dX7_worstOne_46 : decode cX7_worstOne 46 = .ok (.iload_n 3, 1) := by decide +kernel
theorem dX7_worstOne_47 : decode cX7_worstOne 47 = .ok (.istore_n 1, 1) := by decide +kernel
theorem dX7_worstOne_48 : decode cX7_worstOne 48 = .ok (.iload 4, 2) := by decide +kernel
theorem dX7_worstOne_50 : decode cX7_worstOne 50 = .ok (.istore_n 2, 1) := by decide +kernel
theorem dX7_worstOne_51 : decode cX7_worstOne 51 = .ok (.iinc 3 1, 3) := by decide +kernel
theorem dX7_worstOne_54 : decode cX7_worstOne 54 = .ok (.goto (-48), 3) := by decide +kernel
theorem dX7_worstOne_57 : decode cX7_worstOne 57 = .ok (.iload_n 1, 1) := by decide +kernel
theorem dX7_worstOne_58 : decode cX7_worstOne 58 = .ok (.ireturn, 1) := by decide +kernel
set_option maxRecDepth 20000 in
theorem ggX7_worst_X7_worstOne : GoodIn wsX7_worst wsX7_worstOne := goodIn_r _ [6, 7, 8, 9, 10, 5, 11, 12, 13, 14, 15, 16, 17, 18, 19, 20, 21, 22, 23, 24, 25, 26, 27, 28, 29, 30, 31, 32, 33, 34, 35, 36, 37, 38, 39, 40, 41, 42, 43, 44, 45, 46, 47, 48, 49, 50, 51, 52, 53, 54, 55, 56, 57, 58, 59, 60, 61, 62, 63, 64, 65, 66, 67, 68, 69, 70] (by decide +kernel) (by decide +kernel)
set_option maxRecDepth 20000 in
theorem gX7_worst_X7_worstOne : GoodIn wsX7_worst (wsV RX7 154 RX7 yX7_worstOne wsX7_worstOne) := goodIn_app (goodIn_of _ (by decide +kernel)) ggX7_worst_X7_worstOne
theorem dX7_worst_0 : decode cX7_worst 0 = .ok (.aload_n 0, 1) := by decide +kernel
theorem dX7_worst_1 : decode cX7_worst 1 = .ok (.iconst 0, 1) := by decide +kernel
theorem dX7_worst_2 : decode cX7_worst 2 = .ok (.putfield 27, 3) := by decide +kernel
theorem dX7_worst_5 : decode cX7_worst 5 = .ok (.aload_n 0, 1) := by decide +kernel
theorem dX7_worst_6 : decode cX7_worst 6 = .ok (.invokevirtual 154, 3) := by decide +kernel
theorem dX7_worst_9 : decode cX7_worst 9 = .ok (.ireturn, 1) := by decide +kernel
set_option maxRecDepth 20000 in
theorem ggX7_covers_X7_winsWith : GoodIn wsX7_covers wsX7_winsWith := goodIn_r _ [6, 7, 8, 1, 9, 10, 11, 5, 12, 13, 14, 15, 16, 17, 18, 19, 20, 21, 22, 23, 24, 25, 26, 27, 28, 29, 30, 31, 32, 33, 34, 35, 36, 37, 38, 39, 40, 41, 42, 43, 44, 45, 46, 47, 48, 49, 50, 51, 52, 53, 54, 55, 56, 57, 58, 59, 60, 61, 62, 63, 64, 65] (by decide +kernel) (by decide +kernel)
set_option maxRecDepth 20000 in
theorem gX7_covers_X7_winsWith : GoodIn wsX7_covers (wsV RX7 148 RX7 yX7_winsWith wsX7_winsWith) := goodIn_app (goodIn_of _ (by decide +kernel)) ggX7_covers_X7_winsWith
theorem dX7_covers_0 : decode cX7_covers 0 = .ok (.aload_n 0, 1) := by decide +kernel
theorem dX7_covers_1 : decode cX7_covers 1 = .ok (.getfield 7, 3) := by decide +kernel
theorem dX7_covers_4 : decode cX7_covers 4 = .ok (.bipush 26, 2) := by decide +kernel
theorem dX7_covers_6 : decode cX7_covers 6 = .ok (.iload_n 1, 1) := by decide +kernel
theorem dX7_covers_7 : decode cX7_covers 7 = .ok (.iadd, 1) := by decide +kernel
theorem dX7_covers_8 : decode cX7_covers 8 = .ok (.iaload, 1) := by decide +kernel
theorem dX7_covers_9 : decode cX7_covers 9 = .ok (.ifCond .ne 5, 3) := by decide +kernel
theorem dX7_covers_12 : decode cX7_covers 12 = .ok (.iconst (-1), 1) := by decide +kernel
theorem dX7_covers_13 : decode cX7_covers 13 = .ok (.ireturn, 1) := by decide +kernel
theorem dX7_covers_14 : decode cX7_covers 14 = .ok (.aload_n 0, 1) := by decide +kernel
theorem dX7_covers_15 : decode cX7_covers 15 = .ok (.iload_n 1, 1) := by decide +kernel
theorem dX7_covers_16 : decode cX7_covers 16 = .ok (.invokevirtual 148, 3) := by decide +kernel
theorem dX7_covers_19 : decode cX7_covers 19 = .ok (.istore_n 2, 1) := by decide +kernel
theorem dX7_covers_20 : decode cX7_covers 20 = .ok (.iconst 0, 1) := by decide +kernel
theorem dX7_covers_21 : decode cX7_covers 21 = .ok (.istore_n 3, 1) := by decide +kernel
theorem dX7_covers_22 : decode cX7_covers 22 = .ok (.iload_n 3, 1) := by decide +kernel
theorem dX7_covers_23 : decode cX7_covers 23 = .ok (.sipush 10000, 3) := by decide +kernel
theorem dX7_covers_26 : decode cX7_covers 26 = .ok (.if_icmp .ge 42, 3) := by decide +kernel
theorem dX7_covers_29 : decode cX7_covers 29 = .ok (.iload_n 2, 1) := by decide +kernel
theorem dX7_covers_30 : decode cX7_covers 30 = .ok (.iload_n 3, 1) := by decide +kernel
theorem dX7_covers_31 : decode cX7_covers 31 = .ok (.aload_n 0, 1) := by decide +kernel
theorem dX7_covers_32 : decode cX7_covers 32 = .ok (.getfield 7, 3) := by decide +kernel
theorem dX7_covers_35 : decode cX7_covers 35 = .ok (.bipush 6, 2) := by decide +kernel
theorem dX7_covers_37 : decode cX7_covers 37 = .ok (.iload_n 1, 1) := by decide +kernel
theorem dX7_covers_38 : decode cX7_covers 38 = .ok (.iadd, 1) := by decide +kernel
theorem dX7_covers_39 : decode cX7_covers 39 = .ok (.iaload, 1) := by decide +kernel
theorem dX7_covers_40 : decode cX7_covers 40 = .ok (.imul, 1) := by decide +kernel
theorem dX7_covers_41 : decode cX7_covers 41 = .ok (.aload_n 0, 1) := by decide +kernel
theorem dX7_covers_42 : decode cX7_covers 42 = .ok (.getfield 7, 3) := by decide +kernel
theorem dX7_covers_45 : decode cX7_covers 45 = .ok (.bipush 16, 2) := by decide +kernel
theorem dX7_covers_47 : decode cX7_covers 47 = .ok (.iload_n 1, 1) := by decide +kernel
theorem dX7_covers_48 : decode cX7_covers 48 = .ok (.iadd, 1) := by decide +kernel
theorem dX7_covers_49 : decode cX7_covers 49 = .ok (.iaload, 1) := by decide +kernel
theorem dX7_covers_50 : decode cX7_covers 50 = .ok (.idiv, 1) := by decide +kernel
theorem dX7_covers_51 : decode cX7_covers 51 = .ok (.iadd, 1) := by decide +kernel
theorem dX7_covers_52 : decode cX7_covers 52 = .ok (.aload_n 0, 1) := by decide +kernel
theorem dX7_covers_53 : decode cX7_covers 53 = .ok (.getfield 7, 3) := by decide +kernel
theorem dX7_covers_56 : decode cX7_covers 56 = .ok (.iconst 5, 1) := by decide +kernel
theorem dX7_covers_57 : decode cX7_covers 57 = .ok (.iaload, 1) := by decide +kernel
theorem dX7_covers_58 : decode cX7_covers 58 = .ok (.ineg, 1) := by decide +kernel
theorem dX7_covers_59 : decode cX7_covers 59 = .ok (.if_icmp .ge 9, 3) := by decide +kernel
theorem dX7_covers_62 : decode cX7_covers 62 = .ok (.iinc 3 1, 3) := by decide +kernel
theorem dX7_covers_65 : decode cX7_covers 65 = .ok (.goto (-43), 3) := by decide +kernel
theorem dX7_covers_68 : decode cX7_covers 68 = .ok (.iload_n 3, 1) := by decide +kernel
theorem dX7_covers_69 : decode cX7_covers 69 = .ok (.sipush 10000, 3) := by decide +kernel
theorem dX7_covers_72 : decode cX7_covers 72 = .ok (.if_icmp .ge 7, 3) := by decide +kernel
theorem dX7_covers_75 : decode cX7_covers 75 = .ok (.iload_n 3, 1) := by decide +kernel
theorem dX7_covers_76 : decode cX7_covers 76 = .ok (.goto 4, 3) := by decide +kernel
theorem dX7_covers_79 : decode cX7_covers 79 = .ok (.iconst (-1), 1) := by decide +kernel
theorem dX7_covers_80 : decode cX7_covers 80 = .ok (.ireturn, 1) := by decide +kernel
set_option maxRecDepth 20000 in
theorem ggX7_cover_X7_isHorse : GoodIn wsX7_cover wsX7_isHorse := goodIn_r _ [5, 6, 7, 8, 4, 9, 72, 73, 74, 75, 76, 77, 78, 79, 80, 81] (by decide +kernel) (by decide +kernel)
set_option maxRecDepth 20000 in
theorem gX7_cover_X7_isHorse : GoodIn wsX7_cover (wsV RX7 42 RX7 yX7_isHorse wsX7_isHorse) := goodIn_app (goodIn_of _ (by decide +kernel)) ggX7_cover_X7_isHorse
set_option maxRecDepth 20000 in
theorem ggX7_cover_X7_goes : GoodIn wsX7_cover wsX7_goes := goodIn_r _ [13, 14, 72, 73, 74, 75, 76, 77, 78, 79, 80, 81] (by decide +kernel) (by decide +kernel)
set_option maxRecDepth 20000 in
theorem gX7_cover_X7_goes : GoodIn wsX7_cover (wsV RX7 104 RX7 yX7_goes wsX7_goes) := goodIn_app (goodIn_of _ (by decide +kernel)) ggX7_cover_X7_goes
set_option maxRecDepth 20000 in
theorem ggX7_cover_X7_covers : GoodIn wsX7_cover wsX7_covers := goodIn_r _ [18, 6, 19, 20, 21, 4, 22, 23, 24, 25, 26, 27, 28, 29, 30, 31, 32, 33, 34, 35, 36, 37, 38, 39, 40, 41, 42, 43, 44, 45, 46, 47, 48, 49, 50, 51, 52, 53, 54, 55, 56, 57, 58, 59, 60, 61, 62, 63, 64, 65, 66, 67, 68, 69, 70, 71, 72, 73, 74, 75, 76, 77, 78, 79, 80, 81] (by decide +kernel) (by decide +kernel)
set_option maxRecDepth 20000 in
theorem gX7_cover_X7_covers : GoodIn wsX7_cover (wsV RX7 157 RX7 yX7_covers wsX7_covers) := goodIn_app (goodIn_of _ (by decide +kernel)) ggX7_cover_X7_covers
theorem dX7_cover_0 : decode cX7_cover 0 = .ok (.aload_n 0, 1) := by decide +kernel
theorem dX7_cover_1 : decode cX7_cover 1 = .ok (.aload_n 0, 1) := by decide +kernel
theorem dX7_cover_2 : decode cX7_cover 2 = .ok (.iload_n 1, 1) := by decide +kernel
theorem dX7_cover_3 : decode cX7_cover 3 = .ok (.invokevirtual 42, 3) := by decide +kernel
theorem dX7_cover_6 : decode cX7_cover 6 = .ok (.iconst 1, 1) := by decide +kernel
theorem dX7_cover_7 : decode cX7_cover 7 = .ok (.iconst 1, 1) := by decide +kernel
theorem dX7_cover_8 : decode cX7_cover 8 = .ok (.invokevirtual 104, 3) := by decide +kernel
theorem dX7_cover_11 : decode cX7_cover 11 = .ok (.ifCond .eq 11, 3) := by decide +kernel
theorem dX7_cover_14 : decode cX7_cover 14 = .ok (.aload_n 0, 1) := by decide +kernel
theorem dX7_cover_15 : decode cX7_cover 15 = .ok (.iload_n 1, 1) := by decide +kernel
theorem dX7_cover_16 : decode cX7_cover 16 = .ok (.invokevirtual 157, 3) := by decide +kernel
theorem dX7_cover_19 : decode cX7_cover 19 = .ok (.goto 4, 3) := by decide +kernel
theorem dX7_cover_22 : decode cX7_cover 22 = .ok (.iconst 0, 1) := by decide +kernel
theorem dX7_cover_23 : decode cX7_cover 23 = .ok (.ireturn, 1) := by decide +kernel
set_option maxRecDepth 20000 in
theorem ggX7_safe_X7_winsWith : GoodIn wsX7_safe wsX7_winsWith := goodIn_r _ [6, 7, 8, 1, 9, 10, 11, 5, 12, 13, 14, 15, 16, 17, 18, 19, 20, 21, 22, 23, 24, 25, 26, 27, 28, 29, 30, 31, 32, 33, 34, 35, 36, 37, 38, 39, 40, 41, 42, 43, 44, 45, 46, 47, 48, 49, 50, 51, 52, 53, 54, 55, 56, 57, 58, 59, 60, 61, 62, 63, 64, 65] (by decide +kernel) (by decide +kernel)
set_option maxRecDepth 20000 in
theorem gX7_safe_X7_winsWith : GoodIn wsX7_safe (wsV RX7 148 RX7 yX7_winsWith wsX7_winsWith) := goodIn_app (goodIn_of _ (by decide +kernel)) ggX7_safe_X7_winsWith
theorem dX7_safe_0 : decode cX7_safe 0 = .ok (.iconst 0, 1) := by decide +kernel
theorem dX7_safe_1 : decode cX7_safe 1 = .ok (.istore_n 1, 1) := by decide +kernel
theorem dX7_safe_2 : decode cX7_safe 2 = .ok (.iconst 0, 1) := by decide +kernel
theorem dX7_safe_3 : decode cX7_safe 3 = .ok (.istore_n 2, 1) := by decide +kernel
theorem dX7_safe_4 : decode cX7_safe 4 = .ok (.iconst 0, 1) := by decide +kernel
theorem dX7_safe_5 : decode cX7_safe 5 = .ok (.istore_n 3, 1) := by decide +kernel
theorem dX7_safe_6 : decode cX7_safe 6 = .ok (.iload_n 3, 1) := by decide +kernel
theorem dX7_safe_7 : decode cX7_safe 7 = .ok (.aload_n 0, 1) := by decide +kernel
theorem dX7_safe_8 : decode cX7_safe 8 = .ok (.getfield 7, 3) := by decide +kernel
theorem dX7_safe_11 : decode cX7_safe 11 = .ok (.iconst 0, 1) := by decide +kernel
theorem dX7_safe_12 : decode cX7_safe 12 = .ok (.iaload, 1) := by decide +kernel
theorem dX7_safe_13 : decode cX7_safe 13 = .ok (.if_icmp .ge 48, 3) := by decide +kernel
theorem dX7_safe_16 : decode cX7_safe 16 = .ok (.aload_n 0, 1) := by decide +kernel
theorem dX7_safe_17 : decode cX7_safe 17 = .ok (.getfield 7, 3) := by decide +kernel
theorem dX7_safe_20 : decode cX7_safe 20 = .ok (.bipush 26, 2) := by decide +kernel
theorem dX7_safe_22 : decode cX7_safe 22 = .ok (.iload_n 3, 1) := by decide +kernel
theorem dX7_safe_23 : decode cX7_safe 23 = .ok (.iadd, 1) := by decide +kernel
theorem dX7_safe_24 : decode cX7_safe 24 = .ok (.iaload, 1) := by decide +kernel
theorem dX7_safe_25 : decode cX7_safe 25 = .ok (.iconst 1, 1) := by decide +kernel
theorem dX7_safe_26 : decode cX7_safe 26 = .ok (.if_icmp .ne 29, 3) := by decide +kernel
theorem dX7_safe_29 : decode cX7_safe 29 = .ok (.iinc 1 1, 3) := by decide +kernel
theorem dX7_safe_32 : decode cX7_safe 32 = .ok (.iload_n 2, 1) := by decide +kernel
theorem dX7_safe_33 : decode cX7_safe 33 = .ok (.aload_n 0, 1) := by decide +kernel
theorem dX7_safe_34 : decode cX7_safe 34 = .ok (.iload_n 3, 1) := by decide +kernel
theorem dX7_safe_35 : decode cX7_safe 35 = .ok (.invokevirtual 148, 3) := by decide +kernel
theorem dX7_safe_38 : decode cX7_safe 38 = .ok (.aload_n 0, 1) := by decide +kernel
theorem dX7_safe_39 : decode cX7_safe 39 = .ok (.getfield 7, 3) := by decide +kernel
theorem dX7_safe_42 : decode cX7_safe 42 = .ok (.iconst 5, 1) := by decide +kernel
theorem dX7_safe_43 : decode cX7_safe 43 = .ok (.iaload, 1) := by decide +kernel
theorem dX7_safe_44 : decode cX7_safe 44 = .ok (.ineg, 1) := by decide +kernel
theorem dX7_safe_45 : decode cX7_safe 45 = .ok (.if_icmp .lt 7, 3) := by decide +kernel
theorem dX7_safe_48 : decode cX7_safe 48 = .ok (.iconst 1, 1) := by decide +kernel
theorem dX7_safe_49 : decode cX7_safe 49 = .ok (.goto 4, 3) := by decide +kernel
theorem dX7_safe_52 : decode cX7_safe 52 = .ok (.iconst 0, 1) := by decide +kernel
theorem dX7_safe_53 : decode cX7_safe 53 = .ok (.iadd, 1) := by decide +kernel
theorem dX7_safe_54 : decode cX7_safe 54 = .ok (.istore_n 2, 1) := by decide +kernel
theorem dX7_safe_55 : decode cX7_safe 55 = .ok (.iinc 3 1, 3) := by decide +kernel
theorem dX7_safe_58 : decode cX7_safe 58 = .ok (.goto (-52), 3) := by decide +kernel
theorem dX7_safe_61 : decode cX7_safe 61 = .ok (.iload_n 1, 1) := by decide +kernel
theorem dX7_safe_62 : decode cX7_safe 62 = .ok (.ifCond .ne 7, 3) := by decide +kernel
theorem dX7_safe_65 : decode cX7_safe 65 = .ok (.dconst 1, 1) := by decide +kernel
theorem dX7_safe_66 : decode cX7_safe 66 = .ok (.goto 8, 3) := by decide +kernel
theorem dX7_safe_69 : decode cX7_safe 69 = .ok (.iload_n 2, 1) := by decide +kernel
theorem dX7_safe_70 : decode cX7_safe 70 = .ok (.i2d, 1) := by decide +kernel
theorem dX7_safe_71 : decode cX7_safe 71 = .ok (.iload_n 1, 1) := by decide +kernel
theorem dX7_safe_72 : decode cX7_safe 72 = .ok (.i2d, 1) := by decide +kernel
theorem dX7_safe_73 : decode cX7_safe 73 = .ok (.ddiv, 1) := by decide +kernel
theorem dX7_safe_74 : decode cX7_safe 74 = .ok (.dreturn, 1) := by decide +kernel
set_option maxRecDepth 20000 in
theorem ggX7_safeShare_X7_safe : GoodIn wsX7_safeShare wsX7_safe := goodIn_r _ [6, 7, 8, 9, 10, 5, 11, 12, 13, 14, 15, 16, 17, 18, 19, 20, 21, 22, 23, 24, 25, 26, 27, 28, 29, 30, 31, 32, 33, 34, 35, 36, 37, 38, 39, 40, 41, 42, 43, 44, 45, 46, 47, 48, 49, 50, 51, 52, 53, 54, 55, 56, 57, 58, 59, 60, 61, 62, 63, 64, 65, 66, 67, 68, 69, 70] (by decide +kernel) (by decide +kernel)
set_option maxRecDepth 20000 in
theorem gX7_safeShare_X7_safe : GoodIn wsX7_safeShare (wsV RX7 160 RX7 yX7_safe wsX7_safe) := goodIn_app (goodIn_of _ (by decide +kernel)) ggX7_safeShare_X7_safe
theorem dX7_safeShare_0 : decode cX7_safeShare 0 = .ok (.aload_n 0, 1) := by decide +kernel
theorem dX7_safeShare_1 : decode cX7_safeShare 1 = .ok (.iconst 0, 1) := by decide +kernel
theorem dX7_safeShare_2 : decode cX7_safeShare 2 = .ok (.putfield 27, 3) := by decide +kernel
theorem dX7_safeShare_5 : decode cX7_safeShare 5 = .ok (.aload_n 0, 1) := by decide +kernel
theorem dX7_safeShare_6 : decode cX7_safeShare 6 = .ok (.invokevirtual 160, 3) := by decide +kernel
theorem dX7_safeShare_9 : decode cX7_safeShare 9 = .ok (.dreturn, 1) := by decide +kernel
set_option maxRecDepth 20000 in
theorem ggX7_digest_X7_counted : GoodIn wsX7_digest wsX7_counted := goodIn_r _ [12, 4, 13, 14, 15, 16, 17, 11, 18, 19, 20, 21, 22, 23, 24, 25, 26, 27, 28, 29, 30, 31, 32, 33, 34, 35, 36, 37, 38, 39, 40, 41, 42, 43, 44, 45, 46, 47, 48, 148, 149, 150, 151, 152, 153, 154, 155, 156, 157] (by decide +kernel) (by decide +kernel)
set_option maxRecDepth 20000 in
theorem gX7_digest_X7_counted : GoodIn wsX7_digest (wsV RX7 142 RX7 yX7_counted wsX7_counted) := goodIn_app (goodIn_of _ (by decide +kernel)) ggX7_digest_X7_counted
set_option maxRecDepth 20000 in
theorem ggX7_digest_X7_horses : GoodIn wsX7_digest wsX7_horses := goodIn_r _ [52, 4, 53, 54, 55, 11, 56, 30, 31, 32, 57, 58, 59, 60, 148, 149, 150, 151, 152, 153, 154, 155, 156, 157] (by decide +kernel) (by decide +kernel)
set_option maxRecDepth 20000 in
theorem gX7_digest_X7_horses : GoodIn wsX7_digest (wsV RX7 129 RX7 yX7_horses wsX7_horses) := goodIn_app (goodIn_of _ (by decide +kernel)) ggX7_digest_X7_horses
set_option maxRecDepth 20000 in
theorem ggX7_digest_X7_ifFirst : GoodIn wsX7_digest wsX7_ifFirst := goodIn_r _ [64, 4, 13, 65, 66, 67, 11, 68, 69, 70, 71, 72, 73, 74, 75, 76, 77, 78, 26, 27, 28, 29, 30, 31, 32, 79, 80, 81, 82, 83, 84, 85, 86, 87, 88, 89, 90, 91, 92, 93, 94, 95, 37, 38, 39, 40, 15, 16, 17, 18, 96, 97, 98, 99, 23, 24, 25, 148, 149, 150, 151, 152, 153, 154, 155, 156, 157] (by decide +kernel) (by decide +kernel)
set_option maxRecDepth 20000 in
theorem gX7_digest_X7_ifFirst : GoodIn wsX7_digest (wsV RX7 151 RX7 yX7_ifFirst wsX7_ifFirst) := goodIn_app (goodIn_of _ (by decide +kernel)) ggX7_digest_X7_ifFirst
set_option maxRecDepth 20000 in
theorem ggX7_digest_X7_covers : GoodIn wsX7_digest wsX7_covers := goodIn_r _ [103, 4, 65, 66, 67, 11, 68, 69, 70, 71, 72, 73, 74, 75, 76, 77, 78, 26, 27, 28, 29, 30, 31, 32, 79, 80, 81, 82, 83, 84, 85, 86, 87, 88, 89, 90, 91, 92, 93, 94, 95, 37, 38, 39, 40, 15, 16, 17, 18, 96, 97, 98, 99, 23, 24, 25, 148, 149, 150, 151, 152, 153, 154, 155, 156, 157] (by decide +kernel) (by decide +kernel)
set_option maxRecDepth 20000 in
theorem gX7_digest_X7_covers : GoodIn wsX7_digest (wsV RX7 157 RX7 yX7_covers wsX7_covers) := goodIn_app (goodIn_of _ (by decide +kernel)) ggX7_digest_X7_covers
set_option maxRecDepth 20000 in
theorem ggX7_digest_X7_byBuffer : GoodIn wsX7_digest wsX7_byBuffer := goodIn_r _ [107, 13, 108, 109, 110, 11, 111, 112, 6, 7, 113, 114, 115, 116, 117, 118, 119, 69, 70, 71, 72, 73, 74, 120, 121, 122, 123, 4, 124, 125, 126, 127, 75, 76, 77, 78, 26, 27, 28, 29, 30, 31, 32, 79, 80, 81, 82, 83, 84, 85, 86, 87, 88, 89, 90, 91, 92, 93, 94, 95, 37, 38, 39, 40, 15, 16, 17, 18, 96, 97, 98, 99, 23, 24, 25, 148, 149, 150, 151, 152, 153, 154, 155, 156, 157] (by decide +kernel) (by decide +kernel)
set_option maxRecDepth 20000 in
theorem gX7_digest_X7_byBuffer : GoodIn wsX7_digest (wsV RX7 145 RX7 yX7_byBuffer wsX7_byBuffer) := goodIn_app (goodIn_of _ (by decide +kernel)) ggX7_digest_X7_byBuffer
set_option maxRecDepth 20000 in
theorem ggX7_digest_X7_worstOne : GoodIn wsX7_digest wsX7_worstOne := goodIn_r _ [131, 4, 65, 66, 67, 11, 68, 69, 70, 71, 72, 73, 74, 75, 76, 77, 78, 26, 27, 28, 29, 30, 31, 32, 79, 80, 81, 82, 83, 84, 85, 86, 87, 88, 89, 90, 91, 92, 93, 94, 95, 37, 38, 39, 40, 15, 16, 17, 18, 96, 97, 98, 99, 23, 24, 25, 148, 149, 150, 151, 152, 153, 154, 155, 156, 157] (by decide +kernel) (by decide +kernel)
set_option maxRecDepth 20000 in
theorem gX7_digest_X7_worstOne : GoodIn wsX7_digest (wsV RX7 154 RX7 yX7_worstOne wsX7_worstOne) := goodIn_app (goodIn_of _ (by decide +kernel)) ggX7_digest_X7_worstOne
set_option maxRecDepth 20000 in
theorem ggX7_digest_X7_safe : GoodIn wsX7_digest wsX7_safe := goodIn_r _ [135, 4, 65, 66, 67, 11, 68, 69, 70, 71, 72, 73, 74, 75, 76, 77, 78, 26, 27, 28, 29, 30, 31, 32, 79, 80, 81, 82, 83, 84, 85, 86, 87, 88, 89, 90, 91, 92, 93, 94, 95, 37, 38, 39, 40, 15, 16, 17, 18, 96, 97, 98, 99, 23, 24, 25, 148, 149, 150, 151, 152, 153, 154, 155, 156, 157] (by decide +kernel) (by decide +kernel)
set_option maxRecDepth 20000 in
theorem gX7_digest_X7_safe : GoodIn wsX7_digest (wsV RX7 160 RX7 yX7_safe wsX7_safe) := goodIn_app (goodIn_of _ (by decide +kernel)) ggX7_digest_X7_safe
set_option maxRecDepth 20000 in
theorem ggX7_digest_Jxe99ae_doubleToLongBits_ccdee : GoodIn wsX7_digest wsJxe99ae_doubleToLongBits_ccdee := goodIn_r _ [139, 140, 141, 142, 143, 144, 145, 146, 138, 147] (by decide +kernel) (by decide +kernel)
set_option maxRecDepth 20000 in
theorem gX7_digest_Jxe99ae_doubleToLongBits_ccdee : GoodIn wsX7_digest (va_wsS RX7 168 yJxe99ae_doubleToLongBits_ccdee wsJxe99ae_doubleToLongBits_ccdee) := goodIn_app (goodIn_of _ (by decide +kernel)) ggX7_digest_Jxe99ae_doubleToLongBits_ccdee
theorem dX7_digest_0 : decode cX7_digest 0 = .ok (.aload_n 0, 1) := by decide +kernel
theorem dX7_digest_1 : decode cX7_digest 1 = .ok (.iconst 0, 1) := by decide +kernel
theorem dX7_digest_2 : decode cX7_digest 2 = .ok (.putfield 27, 3) := by decide +kernel
theorem dX7_digest_5 : decode cX7_digest 5 = .ok (.ldc2_w 164, 3) := by decide +kernel
theorem dX7_digest_8 : decode cX7_digest 8 = .ok (.lstore_n 1, 1) := by decide +kernel
theorem dX7_digest_9 : decode cX7_digest 9 = .ok (.iconst 0, 1) := by decide +kernel
theorem dX7_digest_10 : decode cX7_digest 10 = .ok (.istore_n 3, 1) := by decide +kernel
theorem dX7_digest_11 : decode cX7_digest 11 = .ok (.iload_n 3, 1) := by decide +kernel
theorem dX7_digest_12 : decode cX7_digest 12 = .ok (.bipush 14, 2) := by decide +kernel
theorem dX7_digest_14 : decode cX7_digest 14 = .ok (.if_icmp .ge 22, 3) := by decide +kernel
theorem dX7_digest_17 : decode cX7_digest 17 = .ok (.ldc2_w 166, 3) := by decide +kernel
theorem dX7_digest_20 : decode cX7_digest 20 = .ok (.lload_n 1, 1) := by decide +kernel
theorem dX7_digest_21 : decode cX7_digest 21 = .ok (.lmul, 1) := by decide +kernel
theorem dX7_digest_22 : decode cX7_digest 22 = .ok (.aload_n 0, 1) := by decide +kernel
theorem dX7_digest_23 : decode cX7_digest 23 = .ok (.iload_n 3, 1) := by decide +kernel
theorem dX7_digest_24 : decode cX7_digest 24 = .ok (.invokevirtual 142, 3) := by decide +kernel
theorem dX7_digest_27 : decode cX7_digest 27 = .ok (.i2l, 1) := by decide +kernel
theorem dX7_digest_28 : decode cX7_digest 28 = .ok (.ladd, 1) := by decide +kernel
theorem dX7_digest_29 : decode cX7_digest 29 = .ok (.lstore_n 1, 1) := by decide +kernel
theorem dX7_digest_30 : decode cX7_digest 30 = .ok (.iinc 3 1, 3) := by decide +kernel
theorem dX7_digest_33 : decode cX7_digest 33 = .ok (.goto (-22), 3) := by decide +kernel
theorem dX7_digest_36 : decode cX7_digest 36 = .ok (.ldc2_w 166, 3) := by decide +kernel
theorem dX7_digest_39 : decode cX7_digest 39 = .ok (.lload_n 1, 1) := by decide +kernel
theorem dX7_digest_40 : decode cX7_digest 40 = .ok (.lmul, 1) := by decide +kernel
theorem dX7_digest_41 : decode cX7_digest 41 = .ok (.aload_n 0, 1) := by decide +kernel
theorem dX7_digest_42 : decode cX7_digest 42 = .ok (.getfield 7, 3) := by decide +kernel
theorem dX7_digest_45 : decode cX7_digest 45 = .ok (.iconst 4, 1) := by decide +kernel
theorem dX7_digest_46 : decode cX7_digest 46 = .ok (.iaload, 1) := by decide +kernel
theorem dX7_digest_47 : decode cX7_digest 47 = .ok (.i2l, 1) := by decide +kernel
theorem dX7_digest_48 : decode cX7_digest 48 = .ok (.ladd, 1) := by decide +kernel
theorem dX7_digest_49 : decode cX7_digest 49 = .ok (.lstore_n 1, 1) := by decide +kernel
theorem dX7_digest_50 : decode cX7_digest 50 = .ok (.ldc2_w 166, 3) := by decide +kernel
theorem dX7_digest_53 : decode cX7_digest 53 = .ok (.lload_n 1, 1) := by decide +kernel
theorem dX7_digest_54 : decode cX7_digest 54 = .ok (.lmul, 1) := by decide +kernel
theorem dX7_digest_55 : decode cX7_digest 55 = .ok (.aload_n 0, 1) := by decide +kernel
theorem dX7_digest_56 : decode cX7_digest 56 = .ok (.getfield 7, 3) := by decide +kernel
theorem dX7_digest_59 : decode cX7_digest 59 = .ok (.iconst 5, 1) := by decide +kernel
theorem dX7_digest_60 : decode cX7_digest 60 = .ok (.iaload, 1) := by decide +kernel
theorem dX7_digest_61 : decode cX7_digest 61 = .ok (.i2l, 1) := by decide +kernel
theorem dX7_digest_62 : decode cX7_digest 62 = .ok (.ladd, 1) := by decide +kernel
theorem dX7_digest_63 : decode cX7_digest 63 = .ok (.lstore_n 1, 1) := by decide +kernel
theorem dX7_digest_64 : decode cX7_digest 64 = .ok (.iconst 0, 1) := by decide +kernel
theorem dX7_digest_65 : decode cX7_digest 65 = .ok (.istore_n 3, 1) := by decide +kernel
theorem dX7_digest_66 : decode cX7_digest 66 = .ok (.iload_n 3, 1) := by decide +kernel
theorem dX7_digest_67 : decode cX7_digest 67 = .ok (.aload_n 0, 1) := by decide +kernel
theorem dX7_digest_68 : decode cX7_digest 68 = .ok (.getfield 7, 3) := by decide +kernel
theorem dX7_digest_71 : decode cX7_digest 71 = .ok (.iconst 0, 1) := by decide +kernel
theorem dX7_digest_72 : decode cX7_digest 72 = .ok (.iaload, 1) := by decide +kernel
theorem dX7_digest_73 : decode cX7_digest 73 = .ok (.if_icmp .ge 66, 3) := by decide +kernel
theorem dX7_digest_76 : decode cX7_digest 76 = .ok (.iconst 0, 1) := by decide +kernel
theorem dX7_digest_77 : decode cX7_digest 77 = .ok (.istore 4, 2) := by decide +kernel
theorem dX7_digest_79 : decode cX7_digest 79 = .ok (.iload 4, 2) := by decide +kernel
theorem dX7_digest_81 : decode cX7_digest 81 = .ok (.bipush 9, 2) := by decide +kernel
theorem dX7_digest_83 : decode cX7_digest 83 = .ok (.if_icmp .ge 24, 3) := by decide +kernel
theorem dX7_digest_86 : decode cX7_digest 86 = .ok (.ldc2_w 166, 3) := by decide +kernel
theorem dX7_digest_89 : decode cX7_digest 89 = .ok (.lload_n 1, 1) := by decide +kernel
theorem dX7_digest_90 : decode cX7_digest 90 = .ok (.lmul, 1) := by decide +kernel
theorem dX7_digest_91 : decode cX7_digest 91 = .ok (.aload_n 0, 1) := by decide +kernel
theorem dX7_digest_92 : decode cX7_digest 92 = .ok (.iload_n 3, 1) := by decide +kernel
theorem dX7_digest_93 : decode cX7_digest 93 = .ok (.iload 4, 2) := by decide +kernel
theorem dX7_digest_95 : decode cX7_digest 95 = .ok (.invokevirtual 129, 3) := by decide +kernel
theorem dX7_digest_98 : decode cX7_digest 98 = .ok (.i2l, 1) := by decide +kernel
theorem dX7_digest_99 : decode cX7_digest 99 = .ok (.ladd, 1) := by decide +kernel
theorem dX7_digest_100 : decode cX7_digest 100 = .ok (.lstore_n 1, 1) := by decide +kernel
theorem dX7_digest_101 : decode cX7_digest 101 = .ok (.iinc 4 1, 3) := by decide +kernel
theorem dX7_digest_104 : decode cX7_digest 104 = .ok (.goto (-25), 3) := by decide +kernel
theorem dX7_digest_107 : decode cX7_digest 107 = .ok (.ldc2_w 166, 3) := by decide +kernel
theorem dX7_digest_110 : decode cX7_digest 110 = .ok (.lload_n 1, 1) := by decide +kernel
theorem dX7_digest_111 : decode cX7_digest 111 = .ok (.lmul, 1) := by decide +kernel
theorem dX7_digest_112 : decode cX7_digest 112 = .ok (.aload_n 0, 1) := by decide +kernel
theorem dX7_digest_113 : decode cX7_digest 113 = .ok (.iload_n 3, 1) := by decide +kernel
theorem dX7_digest_114 : decode cX7_digest 114 = .ok (.invokevirtual 151, 3) := by decide +kernel
theorem dX7_digest_117 : decode cX7_digest 117 = .ok (.i2l, 1) := by decide +kernel
theorem dX7_digest_118 : decode cX7_digest 118 = .ok (.ladd, 1) := by decide +kernel
theorem dX7_digest_119 : decode cX7_digest 119 = .ok (.lstore_n 1, 1) := by decide +kernel
theorem dX7_digest_120 : decode cX7_digest 120 = .ok (.ldc2_w 166, 3) := by decide +kernel
theorem dX7_digest_123 : decode cX7_digest 123 = .ok (.lload_n 1, 1) := by decide +kernel
theorem dX7_digest_124 : decode cX7_digest 124 = .ok (.lmul, 1) := by decide +kernel
theorem dX7_digest_125 : decode cX7_digest 125 = .ok (.aload_n 0, 1) := by decide +kernel
theorem dX7_digest_126 : decode cX7_digest 126 = .ok (.iload_n 3, 1) := by decide +kernel
theorem dX7_digest_127 : decode cX7_digest 127 = .ok (.invokevirtual 157, 3) := by decide +kernel
theorem dX7_digest_130 : decode cX7_digest 130 = .ok (.i2l, 1) := by decide +kernel
theorem dX7_digest_131 : decode cX7_digest 131 = .ok (.ladd, 1) := by decide +kernel
theorem dX7_digest_132 : decode cX7_digest 132 = .ok (.lstore_n 1, 1) := by decide +kernel
theorem dX7_digest_133 : decode cX7_digest 133 = .ok (.iinc 3 1, 3) := by decide +kernel
theorem dX7_digest_136 : decode cX7_digest 136 = .ok (.goto (-70), 3) := by decide +kernel
theorem dX7_digest_139 : decode cX7_digest 139 = .ok (.iconst 0, 1) := by decide +kernel
theorem dX7_digest_140 : decode cX7_digest 140 = .ok (.istore_n 3, 1) := by decide +kernel
theorem dX7_digest_141 : decode cX7_digest 141 = .ok (.iload_n 3, 1) := by decide +kernel
theorem dX7_digest_142 : decode cX7_digest 142 = .ok (.bipush 8, 2) := by decide +kernel
theorem dX7_digest_144 : decode cX7_digest 144 = .ok (.aload_n 0, 1) := by decide +kernel
theorem dX7_digest_145 : decode cX7_digest 145 = .ok (.getfield 7, 3) := by decide +kernel
theorem dX7_digest_148 : decode cX7_digest 148 = .ok (.iconst 1, 1) := by decide +kernel
theorem dX7_digest_149 : decode cX7_digest 149 = .ok (.iaload, 1) := by decide +kernel
theorem dX7_digest_150 : decode cX7_digest 150 = .ok (.imul, 1) := by decide +kernel
theorem dX7_digest_151 : decode cX7_digest 151 = .ok (.if_icmp .ge 26, 3) := by decide +kernel
theorem dX7_digest_154 : decode cX7_digest 154 = .ok (.ldc2_w 166, 3) := by decide +kernel
theorem dX7_digest_157 : decode cX7_digest 157 = .ok (.lload_n 1, 1) := by decide +kernel
theorem dX7_digest_158 : decode cX7_digest 158 = .ok (.lmul, 1) := by decide +kernel
theorem dX7_digest_159 : decode cX7_digest 159 = .ok (.aload_n 0, 1) := by decide +kernel
theorem dX7_digest_160 : decode cX7_digest 160 = .ok (.getfield 7, 3) := by decide +kernel
theorem dX7_digest_163 : decode cX7_digest 163 = .ok (.bipush 66, 2) := by decide +kernel
theorem dX7_digest_165 : decode cX7_digest 165 = .ok (.iload_n 3, 1) := by decide +kernel
theorem dX7_digest_166 : decode cX7_digest 166 = .ok (.iadd, 1) := by decide +kernel
theorem dX7_digest_167 : decode cX7_digest 167 = .ok (.iaload, 1) := by decide +kernel
theorem dX7_digest_168 : decode cX7_digest 168 = .ok (.i2l, 1) := by decide +kernel
theorem dX7_digest_169 : decode cX7_digest 169 = .ok (.ladd, 1) := by decide +kernel
theorem dX7_digest_170 : decode cX7_digest 170 = .ok (.lstore_n 1, 1) := by decide +kernel
theorem dX7_digest_171 : decode cX7_digest 171 = .ok (.iinc 3 1, 3) := by decide +kernel
theorem dX7_digest_174 : decode cX7_digest 174 = .ok (.goto (-33), 3) := by decide +kernel
theorem dX7_digest_177 : decode cX7_digest 177 = .ok (.iconst 0, 1) := by decide +kernel
theorem dX7_digest_178 : decode cX7_digest 178 = .ok (.istore_n 3, 1) := by decide +kernel
theorem dX7_digest_179 : decode cX7_digest 179 = .ok (.iload_n 3, 1) := by decide +kernel
theorem dX7_digest_180 : decode cX7_digest 180 = .ok (.iconst 5, 1) := by decide +kernel
theorem dX7_digest_181 : decode cX7_digest 181 = .ok (.aload_n 0, 1) := by decide +kernel
theorem dX7_digest_182 : decode cX7_digest 182 = .ok (.getfield 7, 3) := by decide +kernel
theorem dX7_digest_185 : decode cX7_digest 185 = .ok (.iconst 2, 1) := by decide +kernel
theorem dX7_digest_186 : decode cX7_digest 186 = .ok (.iaload, 1) := by decide +kernel
theorem dX7_digest_187 : decode cX7_digest 187 = .ok (.imul, 1) := by decide +kernel
theorem dX7_digest_188 : decode cX7_digest 188 = .ok (.if_icmp .ge 27, 3) := by decide +kernel
theorem dX7_digest_191 : decode cX7_digest 191 = .ok (.ldc2_w 166, 3) := by decide +kernel
theorem dX7_digest_194 : decode cX7_digest 194 = .ok (.lload_n 1, 1) := by decide +kernel
theorem dX7_digest_195 : decode cX7_digest 195 = .ok (.lmul, 1) := by decide +kernel
theorem dX7_digest_196 : decode cX7_digest 196 = .ok (.aload_n 0, 1) := by decide +kernel
theorem dX7_digest_197 : decode cX7_digest 197 = .ok (.getfield 7, 3) := by decide +kernel
theorem dX7_digest_200 : decode cX7_digest 200 = .ok (.sipush 258, 3) := by decide +kernel
theorem dX7_digest_203 : decode cX7_digest 203 = .ok (.iload_n 3, 1) := by decide +kernel
theorem dX7_digest_204 : decode cX7_digest 204 = .ok (.iadd, 1) := by decide +kernel
theorem dX7_digest_205 : decode cX7_digest 205 = .ok (.iaload, 1) := by decide +kernel
theorem dX7_digest_206 : decode cX7_digest 206 = .ok (.i2l, 1) := by decide +kernel
theorem dX7_digest_207 : decode cX7_digest 207 = .ok (.ladd, 1) := by decide +kernel
theorem dX7_digest_208 : decode cX7_digest 208 = .ok (.lstore_n 1, 1) := by decide +kernel
theorem dX7_digest_209 : decode cX7_digest 209 = .ok (.iinc 3 1, 3) := by decide +kernel
theorem dX7_digest_212 : decode cX7_digest 212 = .ok (.goto (-33), 3) := by decide +kernel
theorem dX7_digest_215 : decode cX7_digest 215 = .ok (.ldc2_w 166, 3) := by decide +kernel
theorem dX7_digest_218 : decode cX7_digest 218 = .ok (.lload_n 1, 1) := by decide +kernel
theorem dX7_digest_219 : decode cX7_digest 219 = .ok (.lmul, 1) := by decide +kernel
theorem dX7_digest_220 : decode cX7_digest 220 = .ok (.aload_n 0, 1) := by decide +kernel
theorem dX7_digest_221 : decode cX7_digest 221 = .ok (.invokevirtual 145, 3) := by decide +kernel
theorem dX7_digest_224 : decode cX7_digest 224 = .ok (.i2l, 1) := by decide +kernel
theorem dX7_digest_225 : decode cX7_digest 225 = .ok (.ladd, 1) := by decide +kernel
theorem dX7_digest_226 : decode cX7_digest 226 = .ok (.lstore_n 1, 1) := by decide +kernel
theorem dX7_digest_227 : decode cX7_digest 227 = .ok (.ldc2_w 166, 3) := by decide +kernel
theorem dX7_digest_230 : decode cX7_digest 230 = .ok (.lload_n 1, 1) := by decide +kernel
theorem dX7_digest_231 : decode cX7_digest 231 = .ok (.lmul, 1) := by decide +kernel
theorem dX7_digest_232 : decode cX7_digest 232 = .ok (.aload_n 0, 1) := by decide +kernel
theorem dX7_digest_233 : decode cX7_digest 233 = .ok (.invokevirtual 154, 3) := by decide +kernel
theorem dX7_digest_236 : decode cX7_digest 236 = .ok (.i2l, 1) := by decide +kernel
theorem dX7_digest_237 : decode cX7_digest 237 = .ok (.ladd, 1) := by decide +kernel
theorem dX7_digest_238 : decode cX7_digest 238 = .ok (.lstore_n 1, 1) := by decide +kernel
theorem dX7_digest_239 : decode cX7_digest 239 = .ok (.ldc2_w 166, 3) := by decide +kernel
theorem dX7_digest_242 : decode cX7_digest 242 = .ok (.lload_n 1, 1) := by decide +kernel
theorem dX7_digest_243 : decode cX7_digest 243 = .ok (.lmul, 1) := by decide +kernel
theorem dX7_digest_244 : decode cX7_digest 244 = .ok (.aload_n 0, 1) := by decide +kernel
theorem dX7_digest_245 : decode cX7_digest 245 = .ok (.invokevirtual 160, 3) := by decide +kernel
theorem dX7_digest_248 : decode cX7_digest 248 = .ok (.invokestatic 168, 3) := by decide +kernel
theorem dX7_digest_251 : decode cX7_digest 251 = .ok (.ladd, 1) := by decide +kernel
theorem dX7_digest_252 : decode cX7_digest 252 = .ok (.lstore_n 1, 1) := by decide +kernel
theorem dX7_digest_253 : decode cX7_digest 253 = .ok (.ldc2_w 166, 3) := by decide +kernel
theorem dX7_digest_256 : decode cX7_digest 256 = .ok (.lload_n 1, 1) := by decide +kernel
theorem dX7_digest_257 : decode cX7_digest 257 = .ok (.lmul, 1) := by decide +kernel
theorem dX7_digest_258 : decode cX7_digest 258 = .ok (.aload_n 0, 1) := by decide +kernel
theorem dX7_digest_259 : decode cX7_digest 259 = .ok (.getfield 13, 3) := by decide +kernel
theorem dX7_digest_262 : decode cX7_digest 262 = .ok (.iconst 0, 1) := by decide +kernel
theorem dX7_digest_263 : decode cX7_digest 263 = .ok (.baload, 1) := by decide +kernel
theorem dX7_digest_264 : decode cX7_digest 264 = .ok (.ifCond .eq 7, 3) := by decide +kernel
theorem dX7_digest_267 : decode cX7_digest 267 = .ok (.iconst 1, 1) := by decide +kernel
theorem dX7_digest_268 : decode cX7_digest 268 = .ok (.goto 4, 3) := by decide +kernel
theorem dX7_digest_271 : decode cX7_digest 271 = .ok (.iconst 0, 1) := by decide +kernel
theorem dX7_digest_272 : decode cX7_digest 272 = .ok (.i2l, 1) := by decide +kernel
theorem dX7_digest_273 : decode cX7_digest 273 = .ok (.ladd, 1) := by decide +kernel
theorem dX7_digest_274 : decode cX7_digest 274 = .ok (.lstore_n 1, 1) := by decide +kernel
theorem dX7_digest_275 : decode cX7_digest 275 = .ok (.ldc2_w 166, 3) := by decide +kernel
theorem dX7_digest_278 : decode cX7_digest 278 = .ok (.lload_n 1, 1) := by decide +kernel
theorem dX7_digest_279 : decode cX7_digest 279 = .ok (.lmul, 1) := by decide +kernel
theorem dX7_digest_280 : decode cX7_digest 280 = .ok (.aload_n 0, 1) := by decide +kernel
theorem dX7_digest_281 : decode cX7_digest 281 = .ok (.getfield 13, 3) := by decide +kernel
theorem dX7_digest_284 : decode cX7_digest 284 = .ok (.iconst 1, 1) := by decide +kernel
theorem dX7_digest_285 : decode cX7_digest 285 = .ok (.baload, 1) := by decide +kernel
theorem dX7_digest_286 : decode cX7_digest 286 = .ok (.ifCond .eq 7, 3) := by decide +kernel
theorem dX7_digest_289 : decode cX7_digest 289 = .ok (.iconst 1, 1) := by decide +kernel
theorem dX7_digest_290 : decode cX7_digest 290 = .ok (.goto 4, 3) := by decide +kernel
theorem dX7_digest_293 : decode cX7_digest 293 = .ok (.iconst 0, 1) := by decide +kernel
theorem dX7_digest_294 : decode cX7_digest 294 = .ok (.i2l, 1) := by decide +kernel
theorem dX7_digest_295 : decode cX7_digest 295 = .ok (.ladd, 1) := by decide +kernel
theorem dX7_digest_296 : decode cX7_digest 296 = .ok (.lstore_n 1, 1) := by decide +kernel
theorem dX7_digest_297 : decode cX7_digest 297 = .ok (.ldc2_w 166, 3) := by decide +kernel
theorem dX7_digest_300 : decode cX7_digest 300 = .ok (.lload_n 1, 1) := by decide +kernel
theorem dX7_digest_301 : decode cX7_digest 301 = .ok (.lmul, 1) := by decide +kernel
theorem dX7_digest_302 : decode cX7_digest 302 = .ok (.aload_n 0, 1) := by decide +kernel
theorem dX7_digest_303 : decode cX7_digest 303 = .ok (.getfield 87, 3) := by decide +kernel
theorem dX7_digest_306 : decode cX7_digest 306 = .ok (.i2l, 1) := by decide +kernel
theorem dX7_digest_307 : decode cX7_digest 307 = .ok (.ladd, 1) := by decide +kernel
theorem dX7_digest_308 : decode cX7_digest 308 = .ok (.lstore_n 1, 1) := by decide +kernel
theorem dX7_digest_309 : decode cX7_digest 309 = .ok (.iconst 0, 1) := by decide +kernel
theorem dX7_digest_310 : decode cX7_digest 310 = .ok (.istore_n 3, 1) := by decide +kernel
theorem dX7_digest_311 : decode cX7_digest 311 = .ok (.iload_n 3, 1) := by decide +kernel
theorem dX7_digest_312 : decode cX7_digest 312 = .ok (.aload_n 0, 1) := by decide +kernel
theorem dX7_digest_313 : decode cX7_digest 313 = .ok (.getfield 87, 3) := by decide +kernel
theorem dX7_digest_316 : decode cX7_digest 316 = .ok (.if_icmp .ge 23, 3) := by decide +kernel
theorem dX7_digest_319 : decode cX7_digest 319 = .ok (.ldc2_w 166, 3) := by decide +kernel
theorem dX7_digest_322 : decode cX7_digest 322 = .ok (.lload_n 1, 1) := by decide +kernel
theorem dX7_digest_323 : decode cX7_digest 323 = .ok (.lmul, 1) := by decide +kernel
theorem dX7_digest_324 : decode cX7_digest 324 = .ok (.aload_n 0, 1) := by decide +kernel
theorem dX7_digest_325 : decode cX7_digest 325 = .ok (.getfield 17, 3) := by decide +kernel
theorem dX7_digest_328 : decode cX7_digest 328 = .ok (.iload_n 3, 1) := by decide +kernel
theorem dX7_digest_329 : decode cX7_digest 329 = .ok (.caload, 1) := by decide +kernel
theorem dX7_digest_330 : decode cX7_digest 330 = .ok (.i2l, 1) := by decide +kernel
theorem dX7_digest_331 : decode cX7_digest 331 = .ok (.ladd, 1) := by decide +kernel
theorem dX7_digest_332 : decode cX7_digest 332 = .ok (.lstore_n 1, 1) := by decide +kernel
theorem dX7_digest_333 : decode cX7_digest 333 = .ok (.iinc 3 1, 3) := by decide +kernel
theorem dX7_digest_336 : decode cX7_digest 336 = .ok (.goto (-25), 3) := by decide +kernel
theorem dX7_digest_339 : decode cX7_digest 339 = .ok (.lload_n 1, 1) := by decide +kernel
theorem dX7_digest_340 : decode cX7_digest 340 = .ok (.lreturn, 1) := by decide +kernel
theorem dJxe99ae_isNaN_b9ae7_0 : decode cJxe99ae_isNaN_b9ae7 0 = .ok (.dload_n 0, 1) := by decide +kernel
theorem dJxe99ae_isNaN_b9ae7_1 : decode cJxe99ae_isNaN_b9ae7 1 = .ok (.dload_n 0, 1) := by decide +kernel
theorem dJxe99ae_isNaN_b9ae7_2 : decode cJxe99ae_isNaN_b9ae7 2 = .ok (.dcmp .l, 1) := by decide +kernel
theorem dJxe99ae_isNaN_b9ae7_3 : decode cJxe99ae_isNaN_b9ae7 3 = .ok (.ifCond .eq 7, 3) := by decide +kernel
theorem dJxe99ae_isNaN_b9ae7_6 : decode cJxe99ae_isNaN_b9ae7 6 = .ok (.iconst 1, 1) := by decide +kernel
theorem dJxe99ae_isNaN_b9ae7_7 : decode cJxe99ae_isNaN_b9ae7 7 = .ok (.goto 4, 3) := by decide +kernel
theorem dJxe99ae_isNaN_b9ae7_10 : decode cJxe99ae_isNaN_b9ae7 10 = .ok (.iconst 0, 1) := by decide +kernel
theorem dJxe99ae_isNaN_b9ae7_11 : decode cJxe99ae_isNaN_b9ae7 11 = .ok (.ireturn, 1) := by decide +kernel
set_option maxRecDepth 20000 in
theorem ggJxe99ae_doubleToLongBits_ccdee_Jxe99ae_isNaN_b9ae7 : GoodIn wsJxe99ae_doubleToLongBits_ccdee wsJxe99ae_isNaN_b9ae7 := goodIn_r _ [9] (by decide +kernel) (by decide +kernel)
set_option maxRecDepth 20000 in
theorem gJxe99ae_doubleToLongBits_ccdee_Jxe99ae_isNaN_b9ae7 : GoodIn wsJxe99ae_doubleToLongBits_ccdee (va_wsS RJxe99ae 122 yJxe99ae_isNaN_b9ae7 wsJxe99ae_isNaN_b9ae7) := goodIn_app (goodIn_of _ (by decide +kernel)) ggJxe99ae_doubleToLongBits_ccdee_Jxe99ae_isNaN_b9ae7
theorem dJxe99ae_doubleToLongBits_ccdee_0 : decode cJxe99ae_doubleToLongBits_ccdee 0 = .ok (.dload_n 0, 1) := by decide +kernel
theorem dJxe99ae_doubleToLongBits_ccdee_1 : decode cJxe99ae_doubleToLongBits_ccdee 1 = .ok (.invokestatic 122, 3) := by decide +kernel
theorem dJxe99ae_doubleToLongBits_ccdee_4 : decode cJxe99ae_doubleToLongBits_ccdee 4 = .ok (.ifCond .ne 8, 3) := by decide +kernel
theorem dJxe99ae_doubleToLongBits_ccdee_7 : decode cJxe99ae_doubleToLongBits_ccdee 7 = .ok (.dload_n 0, 1) := by decide +kernel
theorem dJxe99ae_doubleToLongBits_ccdee_8 : decode cJxe99ae_doubleToLongBits_ccdee 8 = .ok (.invokestatic 134, 3) := by decide +kernel
theorem dJxe99ae_doubleToLongBits_ccdee_11 : decode cJxe99ae_doubleToLongBits_ccdee 11 = .ok (.lreturn, 1) := by decide +kernel
theorem dJxe99ae_doubleToLongBits_ccdee_12 : decode cJxe99ae_doubleToLongBits_ccdee 12 = .ok (.ldc2_w 137, 3) := by decide +kernel
theorem dJxe99ae_doubleToLongBits_ccdee_15 : decode cJxe99ae_doubleToLongBits_ccdee 15 = .ok (.lreturn, 1) := by decide +kernel
theorem dJ9_min_7cf53_0 : decode cJ9_min_7cf53 0 = .ok (.iload_n 0, 1) := by decide +kernel
theorem dJ9_min_7cf53_1 : decode cJ9_min_7cf53 1 = .ok (.iload_n 1, 1) := by decide +kernel
theorem dJ9_min_7cf53_2 : decode cJ9_min_7cf53 2 = .ok (.if_icmp .gt 7, 3) := by decide +kernel
theorem dJ9_min_7cf53_5 : decode cJ9_min_7cf53 5 = .ok (.iload_n 0, 1) := by decide +kernel
theorem dJ9_min_7cf53_6 : decode cJ9_min_7cf53 6 = .ok (.goto 4, 3) := by decide +kernel
theorem dJ9_min_7cf53_9 : decode cJ9_min_7cf53 9 = .ok (.iload_n 1, 1) := by decide +kernel
theorem dJ9_min_7cf53_10 : decode cJ9_min_7cf53 10 = .ok (.ireturn, 1) := by decide +kernel
set_option maxRecDepth 20000 in
theorem ggL_horse_X6_horse : GoodIn wsL_horse wsX6_horse := goodIn_ca (goodIn_ca (goodIn_r _ [7, 8, 9, 10, 11, 12, 6, 13, 14, 15, 16, 17, 18, 19, 20, 21, 22, 23, 24, 25, 26, 27, 28, 29, 30, 31, 32, 33, 34, 35, 36, 37, 38, 39, 40, 41, 42, 43, 44, 45, 46, 47, 48, 49, 50, 51, 52, 53, 54, 55, 56, 57, 58, 59, 60, 61, 62, 63, 64, 65, 66, 67, 68, 69, 70, 71, 72, 73, 74, 75, 76, 77, 78, 79, 80, 81, 82, 83, 84, 85, 86, 87, 88, 89, 90, 91, 92, 93, 94, 95, 96, 97, 98, 99, 100] (by decide +kernel) (by decide +kernel)) (goodIn_sub (fun _ h => List.mem_cons_of_mem _ (List.mem_append_left _ (List.mem_append_right _ h))) (by decide +kernel))) (goodIn_sub (fun _ h => List.mem_cons_of_mem _ (List.mem_append_right _ h)) (by decide +kernel))
set_option maxRecDepth 20000 in
theorem gL_horse_X6_horse : GoodIn wsL_horse (wsV RL 7 RX6 yX6_horse wsX6_horse) := goodIn_app (goodIn_of _ (by decide +kernel)) ggL_horse_X6_horse
