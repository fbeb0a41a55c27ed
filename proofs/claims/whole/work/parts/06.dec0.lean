theorem dX0_init_0 : decode cX0_init 0 = .ok (.aload_n 0, 1) := by decide +kernel
theorem dX0_init_1 : decode cX0_init 1 = .ok (.invokespecial 3, 3) := by decide +kernel
theorem dX0_init_4 : decode cX0_init 4 = .ok (.aload_n 0, 1) := by decide +kernel
theorem dX0_init_5 : decode cX0_init 5 = .ok (.bipush 10, 2) := by decide +kernel
theorem dX0_init_7 : decode cX0_init 7 = .ok (.newarray .int, 2) := by decide +kernel
theorem dX0_init_9 : decode cX0_init 9 = .ok (.putfield 9, 3) := by decide +kernel
theorem dX0_init_12 : decode cX0_init 12 = .ok (.aload_n 0, 1) := by decide +kernel
theorem dX0_init_13 : decode cX0_init 13 = .ok (.bipush 10, 2) := by decide +kernel
theorem dX0_init_15 : decode cX0_init 15 = .ok (.newarray .int, 2) := by decide +kernel
theorem dX0_init_17 : decode cX0_init 17 = .ok (.putfield 15, 3) := by decide +kernel
theorem dX0_init_20 : decode cX0_init 20 = .ok (.return_, 1) := by decide +kernel
theorem dX0_begin_0 : decode cX0_begin 0 = .ok (.iconst 0, 1) := by decide +kernel
theorem dX0_begin_1 : decode cX0_begin 1 = .ok (.istore_n 2, 1) := by decide +kernel
theorem dX0_begin_2 : decode cX0_begin 2 = .ok (.iload_n 2, 1) := by decide +kernel
theorem dX0_begin_3 : decode cX0_begin 3 = .ok (.aload_n 0, 1) := by decide +kernel
theorem dX0_begin_4 : decode cX0_begin 4 = .ok (.getfield 9, 3) := by decide +kernel
theorem dX0_begin_7 : decode cX0_begin 7 = .ok (.arraylength, 1) := by decide +kernel
theorem dX0_begin_8 : decode cX0_begin 8 = .ok (.if_icmp .ge 32, 3) := by decide +kernel
theorem dX0_begin_11 : decode cX0_begin 11 = .ok (.iload_n 2, 1) := by decide +kernel
theorem dX0_begin_12 : decode cX0_begin 12 = .ok (.aload_n 0, 1) := by decide +kernel
theorem dX0_begin_13 : decode cX0_begin 13 = .ok (.getfield 15, 3) := by decide +kernel
theorem dX0_begin_16 : decode cX0_begin 16 = .ok (.arraylength, 1) := by decide +kernel
theorem dX0_begin_17 : decode cX0_begin 17 = .ok (.if_icmp .ge 23, 3) := by decide +kernel
theorem dX0_begin_20 : decode cX0_begin 20 = .ok (.aload_n 0, 1) := by decide +kernel
theorem dX0_begin_21 : decode cX0_begin 21 = .ok (.getfield 9, 3) := by decide +kernel
theorem dX0_begin_24 : decode cX0_begin 24 = .ok (.iload_n 2, 1) := by decide +kernel
theorem dX0_begin_25 : decode cX0_begin 25 = .ok (.iconst (-1), 1) := by decide +kernel
theorem dX0_begin_26 : decode cX0_begin 26 = .ok (.iastore, 1) := by decide +kernel
theorem dX0_begin_27 : decode cX0_begin 27 = .ok (.aload_n 0, 1) := by decide +kernel
theorem dX0_begin_28 : decode cX0_begin 28 = .ok (.getfield 15, 3) := by decide +kernel
theorem dX0_begin_31 : decode cX0_begin 31 = .ok (.iload_n 2, 1) := by decide +kernel
theorem dX0_begin_32 : decode cX0_begin 32 = .ok (.iconst (-1), 1) := by decide +kernel
theorem dX0_begin_33 : decode cX0_begin 33 = .ok (.iastore, 1) := by decide +kernel
theorem dX0_begin_34 : decode cX0_begin 34 = .ok (.iinc 2 1, 3) := by decide +kernel
theorem dX0_begin_37 : decode cX0_begin 37 = .ok (.goto (-35), 3) := by decide +kernel
theorem dX0_begin_40 : decode cX0_begin 40 = .ok (.aload_n 0, 1) := by decide +kernel
theorem dX0_begin_41 : decode cX0_begin 41 = .ok (.iload_n 1, 1) := by decide +kernel
theorem dX0_begin_42 : decode cX0_begin 42 = .ok (.putfield 18, 3) := by decide +kernel
theorem dX0_begin_45 : decode cX0_begin 45 = .ok (.aload_n 0, 1) := by decide +kernel
theorem dX0_begin_46 : decode cX0_begin 46 = .ok (.iconst 0, 1) := by decide +kernel
theorem dX0_begin_47 : decode cX0_begin 47 = .ok (.putfield 22, 3) := by decide +kernel
theorem dX0_begin_50 : decode cX0_begin 50 = .ok (.aload_n 0, 1) := by decide +kernel
theorem dX0_begin_51 : decode cX0_begin 51 = .ok (.iconst 1, 1) := by decide +kernel
theorem dX0_begin_52 : decode cX0_begin 52 = .ok (.putfield 25, 3) := by decide +kernel
theorem dX0_begin_55 : decode cX0_begin 55 = .ok (.return_, 1) := by decide +kernel
theorem dX0_arrive_0 : decode cX0_arrive 0 = .ok (.iload_n 1, 1) := by decide +kernel
theorem dX0_arrive_1 : decode cX0_arrive 1 = .ok (.ifCond .lt 12, 3) := by decide +kernel
theorem dX0_arrive_4 : decode cX0_arrive 4 = .ok (.iload_n 1, 1) := by decide +kernel
theorem dX0_arrive_5 : decode cX0_arrive 5 = .ok (.aload_n 0, 1) := by decide +kernel
theorem dX0_arrive_6 : decode cX0_arrive 6 = .ok (.getfield 9, 3) := by decide +kernel
theorem dX0_arrive_9 : decode cX0_arrive 9 = .ok (.arraylength, 1) := by decide +kernel
theorem dX0_arrive_10 : decode cX0_arrive 10 = .ok (.if_icmp .lt 4, 3) := by decide +kernel
theorem dX0_arrive_13 : decode cX0_arrive 13 = .ok (.return_, 1) := by decide +kernel
theorem dX0_arrive_14 : decode cX0_arrive 14 = .ok (.iload_n 2, 1) := by decide +kernel
theorem dX0_arrive_15 : decode cX0_arrive 15 = .ok (.ifCond .ne 13, 3) := by decide +kernel
theorem dX0_arrive_18 : decode cX0_arrive 18 = .ok (.aload_n 0, 1) := by decide +kernel
theorem dX0_arrive_19 : decode cX0_arrive 19 = .ok (.aload_n 0, 1) := by decide +kernel
theorem dX0_arrive_20 : decode cX0_arrive 20 = .ok (.getfield 22, 3) := by decide +kernel
theorem dX0_arrive_23 : decode cX0_arrive 23 = .ok (.iconst 1, 1) := by decide +kernel
theorem dX0_arrive_24 : decode cX0_arrive 24 = .ok (.iadd, 1) := by decide +kernel
theorem dX0_arrive_25 : decode cX0_arrive 25 = .ok (.putfield 25, 3) := by decide +kernel
theorem dX0_arrive_28 : decode cX0_arrive 28 = .ok (.aload_n 0, 1) := by decide +kernel
theorem dX0_arrive_29 : decode cX0_arrive 29 = .ok (.dup, 1) := by decide +kernel
theorem dX0_arrive_30 : decode cX0_arrive 30 = .ok (.getfield 22, 3) := by decide +kernel
theorem dX0_arrive_33 : decode cX0_arrive 33 = .ok (.iconst 1, 1) := by decide +kernel
theorem dX0_arrive_34 : decode cX0_arrive 34 = .ok (.iadd, 1) := by decide +kernel
theorem dX0_arrive_35 : decode cX0_arrive 35 = .ok (.putfield 22, 3) := by decide +kernel
theorem dX0_arrive_38 : decode cX0_arrive 38 = .ok (.aload_n 0, 1) := by decide +kernel
theorem dX0_arrive_39 : decode cX0_arrive 39 = .ok (.getfield 9, 3) := by decide +kernel
theorem dX0_arrive_42 : decode cX0_arrive 42 = .ok (.iload_n 1, 1) := by decide +kernel
theorem dX0_arrive_43 : decode cX0_arrive 43 = .ok (.aload_n 0, 1) := by decide +kernel
theorem dX0_arrive_44 : decode cX0_arrive 44 = .ok (.getfield 25, 3) := by decide +kernel
theorem dX0_arrive_47 : decode cX0_arrive 47 = .ok (.iastore, 1) := by decide +kernel
theorem dX0_arrive_48 : decode cX0_arrive 48 = .ok (.iconst 0, 1) := by decide +kernel
theorem dX0_arrive_49 : decode cX0_arrive 49 = .ok (.istore_n 3, 1) := by decide +kernel
theorem dX0_arrive_50 : decode cX0_arrive 50 = .ok (.iload_n 3, 1) := by decide +kernel
theorem dX0_arrive_51 : decode cX0_arrive 51 = .ok (.aload_n 0, 1) := by decide +kernel
theorem dX0_arrive_52 : decode cX0_arrive 52 = .ok (.getfield 9, 3) := by decide +kernel
theorem dX0_arrive_55 : decode cX0_arrive 55 = .ok (.arraylength, 1) := by decide +kernel
theorem dX0_arrive_56 : decode cX0_arrive 56 = .ok (.if_icmp .ge 48, 3) := by decide +kernel
theorem dX0_arrive_59 : decode cX0_arrive 59 = .ok (.iload_n 3, 1) := by decide +kernel
theorem dX0_arrive_60 : decode cX0_arrive 60 = .ok (.aload_n 0, 1) := by decide +kernel
theorem dX0_arrive_61 : decode cX0_arrive 61 = .ok (.getfield 15, 3) := by decide +kernel
theorem dX0_arrive_64 : decode cX0_arrive 64 = .ok (.arraylength, 1) := by decide +kernel
theorem dX0_arrive_65 : decode cX0_arrive 65 = .ok (.if_icmp .ge 39, 3) := by decide +kernel
theorem dX0_arrive_68 : decode cX0_arrive 68 = .ok (.aload_n 0, 1) := by decide +kernel
theorem dX0_arrive_69 : decode cX0_arrive 69 = .ok (.getfield 9, 3) := by decide +kernel
theorem dX0_arrive_72 : decode cX0_arrive 72 = .ok (.iload_n 3, 1) := by decide +kernel
theorem dX0_arrive_73 : decode cX0_arrive 73 = .ok (.iaload, 1) := by decide +kernel
theorem dX0_arrive_74 : decode cX0_arrive 74 = .ok (.aload_n 0, 1) := by decide +kernel
theorem dX0_arrive_75 : decode cX0_arrive 75 = .ok (.getfield 25, 3) := by decide +kernel
theorem dX0_arrive_78 : decode cX0_arrive 78 = .ok (.if_icmp .ne 20, 3) := by decide +kernel
theorem dX0_arrive_81 : decode cX0_arrive 81 = .ok (.aload_n 0, 1) := by decide +kernel
theorem dX0_arrive_82 : decode cX0_arrive 82 = .ok (.getfield 15, 3) := by decide +kernel
theorem dX0_arrive_85 : decode cX0_arrive 85 = .ok (.iload_n 3, 1) := by decide +kernel
theorem dX0_arrive_86 : decode cX0_arrive 86 = .ok (.aload_n 0, 1) := by decide +kernel
theorem dX0_arrive_87 : decode cX0_arrive 87 = .ok (.getfield 22, 3) := by decide +kernel
theorem dX0_arrive_90 : decode cX0_arrive 90 = .ok (.aload_n 0, 1) := by decide +kernel
theorem dX0_arrive_91 : decode cX0_arrive 91 = .ok (.getfield 25, 3) := by decide +kernel
theorem dX0_arrive_94 : decode cX0_arrive 94 = .ok (.isub, 1) := by decide +kernel
theorem dX0_arrive_95 : decode cX0_arrive 95 = .ok (.iconst 1, 1) := by decide +kernel
theorem dX0_arrive_96 : decode cX0_arrive 96 = .ok (.iadd, 1) := by decide +kernel
theorem dX0_arrive_97 : decode cX0_arrive 97 = .ok (.iastore, 1) := by decide +kernel
theorem dX0_arrive_98 : decode cX0_arrive 98 = .ok (.iinc 3 1, 3) := by decide +kernel
theorem dX0_arrive_101 : decode cX0_arrive 101 = .ok (.goto (-51), 3) := by decide +kernel
theorem dX0_arrive_104 : decode cX0_arrive 104 = .ok (.return_, 1) := by decide +kernel
theorem dX0_places_0 : decode cX0_places 0 = .ok (.aload_n 0, 1) := by decide +kernel
theorem dX0_places_1 : decode cX0_places 1 = .ok (.getfield 18, 3) := by decide +kernel
theorem dX0_places_4 : decode cX0_places 4 = .ok (.ireturn, 1) := by decide +kernel
theorem dX0_placeOf_0 : decode cX0_placeOf 0 = .ok (.iload_n 1, 1) := by decide +kernel
theorem dX0_placeOf_1 : decode cX0_placeOf 1 = .ok (.ifCond .lt 21, 3) := by decide +kernel
theorem dX0_placeOf_4 : decode cX0_placeOf 4 = .ok (.iload_n 1, 1) := by decide +kernel
theorem dX0_placeOf_5 : decode cX0_placeOf 5 = .ok (.aload_n 0, 1) := by decide +kernel
theorem dX0_placeOf_6 : decode cX0_placeOf 6 = .ok (.getfield 9, 3) := by decide +kernel
theorem dX0_placeOf_9 : decode cX0_placeOf 9 = .ok (.arraylength, 1) := by decide +kernel
theorem dX0_placeOf_10 : decode cX0_placeOf 10 = .ok (.if_icmp .ge 12, 3) := by decide +kernel
theorem dX0_placeOf_13 : decode cX0_placeOf 13 = .ok (.aload_n 0, 1) := by decide +kernel
theorem dX0_placeOf_14 : decode cX0_placeOf 14 = .ok (.getfield 9, 3) := by decide +kernel
theorem dX0_placeOf_17 : decode cX0_placeOf 17 = .ok (.iload_n 1, 1) := by decide +kernel
theorem dX0_placeOf_18 : decode cX0_placeOf 18 = .ok (.iaload, 1) := by decide +kernel
theorem dX0_placeOf_19 : decode cX0_placeOf 19 = .ok (.goto 4, 3) := by decide +kernel
theorem dX0_placeOf_22 : decode cX0_placeOf 22 = .ok (.iconst (-1), 1) := by decide +kernel
theorem dX0_placeOf_23 : decode cX0_placeOf 23 = .ok (.ireturn, 1) := by decide +kernel
theorem dX0_groupOf_0 : decode cX0_groupOf 0 = .ok (.iload_n 1, 1) := by decide +kernel
theorem dX0_groupOf_1 : decode cX0_groupOf 1 = .ok (.ifCond .lt 21, 3) := by decide +kernel
theorem dX0_groupOf_4 : decode cX0_groupOf 4 = .ok (.iload_n 1, 1) := by decide +kernel
theorem dX0_groupOf_5 : decode cX0_groupOf 5 = .ok (.aload_n 0, 1) := by decide +kernel
theorem dX0_groupOf_6 : decode cX0_groupOf 6 = .ok (.getfield 15, 3) := by decide +kernel
theorem dX0_groupOf_9 : decode cX0_groupOf 9 = .ok (.arraylength, 1) := by decide +kernel
theorem dX0_groupOf_10 : decode cX0_groupOf 10 = .ok (.if_icmp .ge 12, 3) := by decide +kernel
theorem dX0_groupOf_13 : decode cX0_groupOf 13 = .ok (.aload_n 0, 1) := by decide +kernel
theorem dX0_groupOf_14 : decode cX0_groupOf 14 = .ok (.getfield 15, 3) := by decide +kernel
theorem dX0_groupOf_17 : decode cX0_groupOf 17 = .ok (.iload_n 1, 1) := by decide +kernel
theorem dX0_groupOf_18 : decode cX0_groupOf 18 = .ok (.iaload, 1) := by decide +kernel
theorem dX0_groupOf_19 : decode cX0_groupOf 19 = .ok (.goto 4, 3) := by decide +kernel
theorem dX0_groupOf_22 : decode cX0_groupOf 22 = .ok (.iconst (-1), 1) := by decide +kernel
theorem dX0_groupOf_23 : decode cX0_groupOf 23 = .ok (.ireturn, 1) := by decide +kernel
set_option maxRecDepth 20000 in
theorem ggX1_init_X4_init : GoodIn wsX1_init wsX4_init := goodIn_r _ [15, 16, 2, 3, 17, 18, 19, 20, 21] (by decide +kernel) (by decide +kernel)
set_option maxRecDepth 20000 in
theorem gX1_init_X4_init : GoodIn wsX1_init (wsX4_init) := ggX1_init_X4_init
theorem dX1_init_0 : decode cX1_init 0 = .ok (.aload_n 0, 1) := by decide +kernel
theorem dX1_init_1 : decode cX1_init 1 = .ok (.invokespecial 3, 3) := by decide +kernel
theorem dX1_init_4 : decode cX1_init 4 = .ok (.aload_n 0, 1) := by decide +kernel
theorem dX1_init_5 : decode cX1_init 5 = .ok (.new 9, 3) := by decide +kernel
theorem dX1_init_8 : decode cX1_init 8 = .ok (.dup, 1) := by decide +kernel
theorem dX1_init_9 : decode cX1_init 9 = .ok (.bipush 9, 2) := by decide +kernel
theorem dX1_init_11 : decode cX1_init 11 = .ok (.bipush 90, 2) := by decide +kernel
theorem dX1_init_13 : decode cX1_init 13 = .ok (.newarray .int, 2) := by decide +kernel
theorem dX1_init_15 : decode cX1_init 15 = .ok (.invokespecial 11, 3) := by decide +kernel
theorem dX1_init_18 : decode cX1_init 18 = .ok (.putfield 14, 3) := by decide +kernel
theorem dX1_init_21 : decode cX1_init 21 = .ok (.aload_n 0, 1) := by decide +kernel
theorem dX1_init_22 : decode cX1_init 22 = .ok (.new 9, 3) := by decide +kernel
theorem dX1_init_25 : decode cX1_init 25 = .ok (.dup, 1) := by decide +kernel
theorem dX1_init_26 : decode cX1_init 26 = .ok (.bipush 8, 2) := by decide +kernel
theorem dX1_init_28 : decode cX1_init 28 = .ok (.sipush 192, 3) := by decide +kernel
theorem dX1_init_31 : decode cX1_init 31 = .ok (.newarray .int, 2) := by decide +kernel
theorem dX1_init_33 : decode cX1_init 33 = .ok (.invokespecial 11, 3) := by decide +kernel
theorem dX1_init_36 : decode cX1_init 36 = .ok (.putfield 20, 3) := by decide +kernel
theorem dX1_init_39 : decode cX1_init 39 = .ok (.aload_n 0, 1) := by decide +kernel
theorem dX1_init_40 : decode cX1_init 40 = .ok (.new 9, 3) := by decide +kernel
theorem dX1_init_43 : decode cX1_init 43 = .ok (.dup, 1) := by decide +kernel
theorem dX1_init_44 : decode cX1_init 44 = .ok (.iconst 5, 1) := by decide +kernel
theorem dX1_init_45 : decode cX1_init 45 = .ok (.bipush 30, 2) := by decide +kernel
theorem dX1_init_47 : decode cX1_init 47 = .ok (.newarray .int, 2) := by decide +kernel
theorem dX1_init_49 : decode cX1_init 49 = .ok (.invokespecial 11, 3) := by decide +kernel
theorem dX1_init_52 : decode cX1_init 52 = .ok (.putfield 23, 3) := by decide +kernel
theorem dX1_init_55 : decode cX1_init 55 = .ok (.aload_n 0, 1) := by decide +kernel
theorem dX1_init_56 : decode cX1_init 56 = .ok (.iconst 5, 1) := by decide +kernel
theorem dX1_init_57 : decode cX1_init 57 = .ok (.putfield 26, 3) := by decide +kernel
theorem dX1_init_60 : decode cX1_init 60 = .ok (.aload_n 0, 1) := by decide +kernel
theorem dX1_init_61 : decode cX1_init 61 = .ok (.sipush 10000, 3) := by decide +kernel
theorem dX1_init_64 : decode cX1_init 64 = .ok (.putfield 30, 3) := by decide +kernel
theorem dX1_init_67 : decode cX1_init 67 = .ok (.return_, 1) := by decide +kernel
set_option maxRecDepth 20000 in
theorem ggX1_copyFrom_X4_copyFrom : GoodIn wsX1_copyFrom wsX4_copyFrom := goodIn_r _ [11, 12, 13, 14, 15, 16, 17, 18, 19, 20, 21, 28, 29, 30] (by decide +kernel) (by decide +kernel)
set_option maxRecDepth 20000 in
theorem gX1_copyFrom_X4_copyFrom : GoodIn wsX1_copyFrom (wsV RX1 33 RX4 yX4_copyFrom wsX4_copyFrom) := goodIn_app (goodIn_of _ (by decide +kernel)) ggX1_copyFrom_X4_copyFrom
theorem dX1_copyFrom_0 : decode cX1_copyFrom 0 = .ok (.aload_n 0, 1) := by decide +kernel
theorem dX1_copyFrom_1 : decode cX1_copyFrom 1 = .ok (.getfield 14, 3) := by decide +kernel
theorem dX1_copyFrom_4 : decode cX1_copyFrom 4 = .ok (.aload_n 1, 1) := by decide +kernel
theorem dX1_copyFrom_5 : decode cX1_copyFrom 5 = .ok (.getfield 14, 3) := by decide +kernel
theorem dX1_copyFrom_8 : decode cX1_copyFrom 8 = .ok (.invokevirtual 33, 3) := by decide +kernel
theorem dX1_copyFrom_11 : decode cX1_copyFrom 11 = .ok (.aload_n 0, 1) := by decide +kernel
theorem dX1_copyFrom_12 : decode cX1_copyFrom 12 = .ok (.getfield 20, 3) := by decide +kernel
theorem dX1_copyFrom_15 : decode cX1_copyFrom 15 = .ok (.aload_n 1, 1) := by decide +kernel
theorem dX1_copyFrom_16 : decode cX1_copyFrom 16 = .ok (.getfield 20, 3) := by decide +kernel
theorem dX1_copyFrom_19 : decode cX1_copyFrom 19 = .ok (.invokevirtual 33, 3) := by decide +kernel
theorem dX1_copyFrom_22 : decode cX1_copyFrom 22 = .ok (.aload_n 0, 1) := by decide +kernel
theorem dX1_copyFrom_23 : decode cX1_copyFrom 23 = .ok (.getfield 23, 3) := by decide +kernel
theorem dX1_copyFrom_26 : decode cX1_copyFrom 26 = .ok (.aload_n 1, 1) := by decide +kernel
theorem dX1_copyFrom_27 : decode cX1_copyFrom 27 = .ok (.getfield 23, 3) := by decide +kernel
theorem dX1_copyFrom_30 : decode cX1_copyFrom 30 = .ok (.invokevirtual 33, 3) := by decide +kernel
theorem dX1_copyFrom_33 : decode cX1_copyFrom 33 = .ok (.aload_n 0, 1) := by decide +kernel
theorem dX1_copyFrom_34 : decode cX1_copyFrom 34 = .ok (.aload_n 1, 1) := by decide +kernel
theorem dX1_copyFrom_35 : decode cX1_copyFrom 35 = .ok (.getfield 37, 3) := by decide +kernel
theorem dX1_copyFrom_38 : decode cX1_copyFrom 38 = .ok (.putfield 37, 3) := by decide +kernel
theorem dX1_copyFrom_41 : decode cX1_copyFrom 41 = .ok (.aload_n 0, 1) := by decide +kernel
theorem dX1_copyFrom_42 : decode cX1_copyFrom 42 = .ok (.aload_n 1, 1) := by decide +kernel
theorem dX1_copyFrom_43 : decode cX1_copyFrom 43 = .ok (.getfield 26, 3) := by decide +kernel
theorem dX1_copyFrom_46 : decode cX1_copyFrom 46 = .ok (.putfield 26, 3) := by decide +kernel
theorem dX1_copyFrom_49 : decode cX1_copyFrom 49 = .ok (.aload_n 0, 1) := by decide +kernel
theorem dX1_copyFrom_50 : decode cX1_copyFrom 50 = .ok (.aload_n 1, 1) := by decide +kernel
theorem dX1_copyFrom_51 : decode cX1_copyFrom 51 = .ok (.getfield 30, 3) := by decide +kernel
theorem dX1_copyFrom_54 : decode cX1_copyFrom 54 = .ok (.putfield 30, 3) := by decide +kernel
theorem dX1_copyFrom_57 : decode cX1_copyFrom 57 = .ok (.return_, 1) := by decide +kernel
set_option maxRecDepth 20000 in
theorem ggX1_addHorse_X4_addRow : GoodIn wsX1_addHorse wsX4_addRow := goodIn_r _ [6, 7, 8, 9, 10, 11, 5, 12, 13, 21, 22, 23] (by decide +kernel) (by decide +kernel)
set_option maxRecDepth 20000 in
theorem gX1_addHorse_X4_addRow : GoodIn wsX1_addHorse (wsV RX1 41 RX4 yX4_addRow wsX4_addRow) := goodIn_app (goodIn_of _ (by decide +kernel)) ggX1_addHorse_X4_addRow
set_option maxRecDepth 20000 in
theorem ggX1_addHorse_X4_put : GoodIn wsX1_addHorse wsX4_put := goodIn_r _ [12, 8, 7, 13, 21, 22, 23] (by decide +kernel) (by decide +kernel)
set_option maxRecDepth 20000 in
theorem gX1_addHorse_X4_put : GoodIn wsX1_addHorse (wsV RX1 45 RX4 yX4_put wsX4_put) := goodIn_app (goodIn_of _ (by decide +kernel)) ggX1_addHorse_X4_put
theorem dX1_addHorse_0 : decode cX1_addHorse 0 = .ok (.aload_n 0, 1) := by decide +kernel
theorem dX1_addHorse_1 : decode cX1_addHorse 1 = .ok (.getfield 14, 3) := by decide +kernel
theorem dX1_addHorse_4 : decode cX1_addHorse 4 = .ok (.invokevirtual 41, 3) := by decide +kernel
theorem dX1_addHorse_7 : decode cX1_addHorse 7 = .ok (.istore_n 3, 1) := by decide +kernel
theorem dX1_addHorse_8 : decode cX1_addHorse 8 = .ok (.aload_n 0, 1) := by decide +kernel
theorem dX1_addHorse_9 : decode cX1_addHorse 9 = .ok (.getfield 14, 3) := by decide +kernel
theorem dX1_addHorse_12 : decode cX1_addHorse 12 = .ok (.iload_n 3, 1) := by decide +kernel
theorem dX1_addHorse_13 : decode cX1_addHorse 13 = .ok (.iconst 0, 1) := by decide +kernel
theorem dX1_addHorse_14 : decode cX1_addHorse 14 = .ok (.iload_n 1, 1) := by decide +kernel
theorem dX1_addHorse_15 : decode cX1_addHorse 15 = .ok (.invokevirtual 45, 3) := by decide +kernel
theorem dX1_addHorse_18 : decode cX1_addHorse 18 = .ok (.aload_n 0, 1) := by decide +kernel
theorem dX1_addHorse_19 : decode cX1_addHorse 19 = .ok (.getfield 14, 3) := by decide +kernel
theorem dX1_addHorse_22 : decode cX1_addHorse 22 = .ok (.iload_n 3, 1) := by decide +kernel
theorem dX1_addHorse_23 : decode cX1_addHorse 23 = .ok (.iconst 1, 1) := by decide +kernel
theorem dX1_addHorse_24 : decode cX1_addHorse 24 = .ok (.iload_n 2, 1) := by decide +kernel
theorem dX1_addHorse_25 : decode cX1_addHorse 25 = .ok (.invokevirtual 45, 3) := by decide +kernel
theorem dX1_addHorse_28 : decode cX1_addHorse 28 = .ok (.aload_n 0, 1) := by decide +kernel
theorem dX1_addHorse_29 : decode cX1_addHorse 29 = .ok (.getfield 14, 3) := by decide +kernel
theorem dX1_addHorse_32 : decode cX1_addHorse 32 = .ok (.iload_n 3, 1) := by decide +kernel
theorem dX1_addHorse_33 : decode cX1_addHorse 33 = .ok (.iconst 2, 1) := by decide +kernel
theorem dX1_addHorse_34 : decode cX1_addHorse 34 = .ok (.iconst 1, 1) := by decide +kernel
theorem dX1_addHorse_35 : decode cX1_addHorse 35 = .ok (.invokevirtual 45, 3) := by decide +kernel
theorem dX1_addHorse_38 : decode cX1_addHorse 38 = .ok (.aload_n 0, 1) := by decide +kernel
theorem dX1_addHorse_39 : decode cX1_addHorse 39 = .ok (.getfield 14, 3) := by decide +kernel
theorem dX1_addHorse_42 : decode cX1_addHorse 42 = .ok (.iload_n 3, 1) := by decide +kernel
theorem dX1_addHorse_43 : decode cX1_addHorse 43 = .ok (.bipush 7, 2) := by decide +kernel
theorem dX1_addHorse_45 : decode cX1_addHorse 45 = .ok (.iconst (-1), 1) := by decide +kernel
theorem dX1_addHorse_46 : decode cX1_addHorse 46 = .ok (.invokevirtual 45, 3) := by decide +kernel
theorem dX1_addHorse_49 : decode cX1_addHorse 49 = .ok (.aload_n 0, 1) := by decide +kernel
theorem dX1_addHorse_50 : decode cX1_addHorse 50 = .ok (.getfield 14, 3) := by decide +kernel
theorem dX1_addHorse_53 : decode cX1_addHorse 53 = .ok (.iload_n 3, 1) := by decide +kernel
theorem dX1_addHorse_54 : decode cX1_addHorse 54 = .ok (.bipush 8, 2) := by decide +kernel
theorem dX1_addHorse_56 : decode cX1_addHorse 56 = .ok (.iconst (-1), 1) := by decide +kernel
theorem dX1_addHorse_57 : decode cX1_addHorse 57 = .ok (.invokevirtual 45, 3) := by decide +kernel
theorem dX1_addHorse_60 : decode cX1_addHorse 60 = .ok (.iload_n 3, 1) := by decide +kernel
theorem dX1_addHorse_61 : decode cX1_addHorse 61 = .ok (.ireturn, 1) := by decide +kernel
set_option maxRecDepth 20000 in
theorem ggX1_addBet_X4_addRow : GoodIn wsX1_addBet wsX4_addRow := goodIn_r _ [7, 8, 9, 10, 11, 12, 6, 13, 14, 31, 32, 33] (by decide +kernel) (by decide +kernel)
set_option maxRecDepth 20000 in
theorem gX1_addBet_X4_addRow : GoodIn wsX1_addBet (wsV RX1 41 RX4 yX4_addRow wsX4_addRow) := goodIn_app (goodIn_of _ (by decide +kernel)) ggX1_addBet_X4_addRow
set_option maxRecDepth 20000 in
theorem ggX1_addBet_X4_put : GoodIn wsX1_addBet wsX4_put := goodIn_r _ [13, 9, 8, 14, 31, 32, 33] (by decide +kernel) (by decide +kernel)
set_option maxRecDepth 20000 in
theorem gX1_addBet_X4_put : GoodIn wsX1_addBet (wsV RX1 45 RX4 yX4_put wsX4_put) := goodIn_app (goodIn_of _ (by decide +kernel)) ggX1_addBet_X4_put
set_option maxRecDepth 20000 in
theorem ggX1_addBet_X4_cell : GoodIn wsX1_addBet wsX4_cell := goodIn_r _ [19, 9, 8, 14, 31, 32, 33] (by decide +kernel) (by decide +kernel)
set_option maxRecDepth 20000 in
theorem gX1_addBet_X4_cell : GoodIn wsX1_addBet (wsV RX1 49 RX4 yX4_cell wsX4_cell) := goodIn_app (goodIn_of _ (by decide +kernel)) ggX1_addBet_X4_cell
set_option maxRecDepth 20000 in
theorem ggX1_addBet_X4_raise : GoodIn wsX1_addBet wsX4_raise := goodIn_r _ [23, 24, 17, 18, 6, 19, 9, 8, 14, 10, 11, 12, 13, 31, 32, 33] (by decide +kernel) (by decide +kernel)
set_option maxRecDepth 20000 in
theorem gX1_addBet_X4_raise : GoodIn wsX1_addBet (wsV RX1 53 RX4 yX4_raise wsX4_raise) := goodIn_app (goodIn_of _ (by decide +kernel)) ggX1_addBet_X4_raise
theorem dX1_addBet_0 : decode cX1_addBet 0 = .ok (.aload_n 0, 1) := by decide +kernel
theorem dX1_addBet_1 : decode cX1_addBet 1 = .ok (.getfield 20, 3) := by decide +kernel
theorem dX1_addBet_4 : decode cX1_addBet 4 = .ok (.invokevirtual 41, 3) := by decide +kernel
theorem dX1_addBet_7 : decode cX1_addBet 7 = .ok (.istore 4, 2) := by decide +kernel
theorem dX1_addBet_9 : decode cX1_addBet 9 = .ok (.aload_n 0, 1) := by decide +kernel
theorem dX1_addBet_10 : decode cX1_addBet 10 = .ok (.getfield 20, 3) := by decide +kernel
theorem dX1_addBet_13 : decode cX1_addBet 13 = .ok (.iload 4, 2) := by decide +kernel
theorem dX1_addBet_15 : decode cX1_addBet 15 = .ok (.iconst 0, 1) := by decide +kernel
theorem dX1_addBet_16 : decode cX1_addBet 16 = .ok (.iload_n 1, 1) := by decide +kernel
theorem dX1_addBet_17 : decode cX1_addBet 17 = .ok (.invokevirtual 45, 3) := by decide +kernel
theorem dX1_addBet_20 : decode cX1_addBet 20 = .ok (.aload_n 0, 1) := by decide +kernel
theorem dX1_addBet_21 : decode cX1_addBet 21 = .ok (.getfield 20, 3) := by decide +kernel
theorem dX1_addBet_24 : decode cX1_addBet 24 = .ok (.iload 4, 2) := by decide +kernel
theorem dX1_addBet_26 : decode cX1_addBet 26 = .ok (.iconst 1, 1) := by decide +kernel
theorem dX1_addBet_27 : decode cX1_addBet 27 = .ok (.iload_n 2, 1) := by decide +kernel
theorem dX1_addBet_28 : decode cX1_addBet 28 = .ok (.invokevirtual 45, 3) := by decide +kernel
theorem dX1_addBet_31 : decode cX1_addBet 31 = .ok (.aload_n 0, 1) := by decide +kernel
theorem dX1_addBet_32 : decode cX1_addBet 32 = .ok (.getfield 20, 3) := by decide +kernel
theorem dX1_addBet_35 : decode cX1_addBet 35 = .ok (.iload 4, 2) := by decide +kernel
theorem dX1_addBet_37 : decode cX1_addBet 37 = .ok (.iconst 2, 1) := by decide +kernel
theorem dX1_addBet_38 : decode cX1_addBet 38 = .ok (.iload_n 3, 1) := by decide +kernel
theorem dX1_addBet_39 : decode cX1_addBet 39 = .ok (.ifCond .eq 7, 3) := by decide +kernel
theorem dX1_addBet_42 : decode cX1_addBet 42 = .ok (.iconst 1, 1) := by decide +kernel
theorem dX1_addBet_43 : decode cX1_addBet 43 = .ok (.goto 4, 3) := by decide +kernel
theorem dX1_addBet_46 : decode cX1_addBet 46 = .ok (.iconst 0, 1) := by decide +kernel
theorem dX1_addBet_47 : decode cX1_addBet 47 = .ok (.invokevirtual 45, 3) := by decide +kernel
theorem dX1_addBet_50 : decode cX1_addBet 50 = .ok (.aload_n 0, 1) := by decide +kernel
theorem dX1_addBet_51 : decode cX1_addBet 51 = .ok (.getfield 20, 3) := by decide +kernel
theorem dX1_addBet_54 : decode cX1_addBet 54 = .ok (.iload 4, 2) := by decide +kernel
theorem dX1_addBet_56 : decode cX1_addBet 56 = .ok (.iconst 3, 1) := by decide +kernel
theorem dX1_addBet_57 : decode cX1_addBet 57 = .ok (.aload_n 0, 1) := by decide +kernel
theorem dX1_addBet_58 : decode cX1_addBet 58 = .ok (.getfield 14, 3) := by decide +kernel
theorem dX1_addBet_61 : decode cX1_addBet 61 = .ok (.iload_n 1, 1) := by decide +kernel
theorem dX1_addBet_62 : decode cX1_addBet 62 = .ok (.iconst 0, 1) := by decide +kernel
theorem dX1_addBet_63 : decode cX1_addBet 63 = .ok (.invokevirtual 49, 3) := by decide +kernel
theorem dX1_addBet_66 : decode cX1_addBet 66 = .ok (.invokevirtual 45, 3) := by decide +kernel
theorem dX1_addBet_69 : decode cX1_addBet 69 = .ok (.aload_n 0, 1) := by decide +kernel
theorem dX1_addBet_70 : decode cX1_addBet 70 = .ok (.getfield 20, 3) := by decide +kernel
theorem dX1_addBet_73 : decode cX1_addBet 73 = .ok (.iload 4, 2) := by decide +kernel
theorem dX1_addBet_75 : decode cX1_addBet 75 = .ok (.iconst 4, 1) := by decide +kernel
theorem dX1_addBet_76 : decode cX1_addBet 76 = .ok (.aload_n 0, 1) := by decide +kernel
theorem dX1_addBet_77 : decode cX1_addBet 77 = .ok (.getfield 14, 3) := by decide +kernel
theorem dX1_addBet_80 : decode cX1_addBet 80 = .ok (.iload_n 1, 1) := by decide +kernel
theorem dX1_addBet_81 : decode cX1_addBet 81 = .ok (.iconst 1, 1) := by decide +kernel
theorem dX1_addBet_82 : decode cX1_addBet 82 = .ok (.invokevirtual 49, 3) := by decide +kernel
theorem dX1_addBet_85 : decode cX1_addBet 85 = .ok (.invokevirtual 45, 3) := by decide +kernel
theorem dX1_addBet_88 : decode cX1_addBet 88 = .ok (.aload_n 0, 1) := by decide +kernel
theorem dX1_addBet_89 : decode cX1_addBet 89 = .ok (.getfield 20, 3) := by decide +kernel
theorem dX1_addBet_92 : decode cX1_addBet 92 = .ok (.iload 4, 2) := by decide +kernel
theorem dX1_addBet_94 : decode cX1_addBet 94 = .ok (.bipush 6, 2) := by decide +kernel
theorem dX1_addBet_96 : decode cX1_addBet 96 = .ok (.iconst (-1), 1) := by decide +kernel
theorem dX1_addBet_97 : decode cX1_addBet 97 = .ok (.invokevirtual 45, 3) := by decide +kernel
theorem dX1_addBet_100 : decode cX1_addBet 100 = .ok (.aload_n 0, 1) := by decide +kernel
theorem dX1_addBet_101 : decode cX1_addBet 101 = .ok (.getfield 20, 3) := by decide +kernel
theorem dX1_addBet_104 : decode cX1_addBet 104 = .ok (.iload 4, 2) := by decide +kernel
theorem dX1_addBet_106 : decode cX1_addBet 106 = .ok (.bipush 7, 2) := by decide +kernel
theorem dX1_addBet_108 : decode cX1_addBet 108 = .ok (.iconst (-1), 1) := by decide +kernel
theorem dX1_addBet_109 : decode cX1_addBet 109 = .ok (.invokevirtual 45, 3) := by decide +kernel
theorem dX1_addBet_112 : decode cX1_addBet 112 = .ok (.aload_n 0, 1) := by decide +kernel
theorem dX1_addBet_113 : decode cX1_addBet 113 = .ok (.getfield 14, 3) := by decide +kernel
theorem dX1_addBet_116 : decode cX1_addBet 116 = .ok (.iload_n 1, 1) := by decide +kernel
theorem dX1_addBet_117 : decode cX1_addBet 117 = .ok (.iconst 4, 1) := by decide +kernel
theorem dX1_addBet_118 : decode cX1_addBet 118 = .ok (.iconst 1, 1) := by decide +kernel
theorem dX1_addBet_119 : decode cX1_addBet 119 = .ok (.invokevirtual 53, 3) := by decide +kernel
theorem dX1_addBet_122 : decode cX1_addBet 122 = .ok (.aload_n 0, 1) := by decide +kernel
theorem dX1_addBet_123 : decode cX1_addBet 123 = .ok (.getfield 14, 3) := by decide +kernel
theorem dX1_addBet_126 : decode cX1_addBet 126 = .ok (.iload_n 1, 1) := by decide +kernel
theorem dX1_addBet_127 : decode cX1_addBet 127 = .ok (.iconst 5, 1) := by decide +kernel
theorem dX1_addBet_128 : decode cX1_addBet 128 = .ok (.iload_n 2, 1) := by decide +kernel
theorem dX1_addBet_129 : decode cX1_addBet 129 = .ok (.invokevirtual 53, 3) := by decide +kernel
theorem dX1_addBet_132 : decode cX1_addBet 132 = .ok (.aload_n 0, 1) := by decide +kernel
theorem dX1_addBet_133 : decode cX1_addBet 133 = .ok (.getfield 14, 3) := by decide +kernel
theorem dX1_addBet_136 : decode cX1_addBet 136 = .ok (.iload_n 1, 1) := by decide +kernel
theorem dX1_addBet_137 : decode cX1_addBet 137 = .ok (.bipush 6, 2) := by decide +kernel
theorem dX1_addBet_139 : decode cX1_addBet 139 = .ok (.iload_n 3, 1) := by decide +kernel
theorem dX1_addBet_140 : decode cX1_addBet 140 = .ok (.ifCond .eq 7, 3) := by decide +kernel
theorem dX1_addBet_143 : decode cX1_addBet 143 = .ok (.iload_n 2, 1) := by decide +kernel
theorem dX1_addBet_144 : decode cX1_addBet 144 = .ok (.goto 4, 3) := by decide +kernel
theorem dX1_addBet_147 : decode cX1_addBet 147 = .ok (.iconst 0, 1) := by decide +kernel
theorem dX1_addBet_148 : decode cX1_addBet 148 = .ok (.invokevirtual 53, 3) := by decide +kernel
theorem dX1_addBet_151 : decode cX1_addBet 151 = .ok (.iload 4, 2) := by decide +kernel
theorem dX1_addBet_153 : decode cX1_addBet 153 = .ok (.ireturn, 1) := by decide +kernel
set_option maxRecDepth 20000 in
theorem ggX1_addLaid_X4_addRow : GoodIn wsX1_addLaid wsX4_addRow := goodIn_r _ [6, 7, 8, 9, 10, 11, 5, 12, 13, 21, 22, 23] (by decide +kernel) (by decide +kernel)
set_option maxRecDepth 20000 in
theorem gX1_addLaid_X4_addRow : GoodIn wsX1_addLaid (wsV RX1 41 RX4 yX4_addRow wsX4_addRow) := goodIn_app (goodIn_of _ (by decide +kernel)) ggX1_addLaid_X4_addRow
set_option maxRecDepth 20000 in
theorem ggX1_addLaid_X4_put : GoodIn wsX1_addLaid wsX4_put := goodIn_r _ [12, 8, 7, 13, 21, 22, 23] (by decide +kernel) (by decide +kernel)
set_option maxRecDepth 20000 in
theorem gX1_addLaid_X4_put : GoodIn wsX1_addLaid (wsV RX1 45 RX4 yX4_put wsX4_put) := goodIn_app (goodIn_of _ (by decide +kernel)) ggX1_addLaid_X4_put
theorem dX1_addLaid_0 : decode cX1_addLaid 0 = .ok (.aload_n 0, 1) := by decide +kernel
theorem dX1_addLaid_1 : decode cX1_addLaid 1 = .ok (.getfield 23, 3) := by decide +kernel
theorem dX1_addLaid_4 : decode cX1_addLaid 4 = .ok (.invokevirtual 41, 3) := by decide +kernel
theorem dX1_addLaid_7 : decode cX1_addLaid 7 = .ok (.istore 5, 2) := by decide +kernel
theorem dX1_addLaid_9 : decode cX1_addLaid 9 = .ok (.aload_n 0, 1) := by decide +kernel
theorem dX1_addLaid_10 : decode cX1_addLaid 10 = .ok (.getfield 23, 3) := by decide +kernel
theorem dX1_addLaid_13 : decode cX1_addLaid 13 = .ok (.iload 5, 2) := by decide +kernel
theorem dX1_addLaid_15 : decode cX1_addLaid 15 = .ok (.iconst 0, 1) := by decide +kernel
theorem dX1_addLaid_16 : decode cX1_addLaid 16 = .ok (.iload_n 1, 1) := by decide +kernel
theorem dX1_addLaid_17 : decode cX1_addLaid 17 = .ok (.invokevirtual 45, 3) := by decide +kernel
theorem dX1_addLaid_20 : decode cX1_addLaid 20 = .ok (.aload_n 0, 1) := by decide +kernel
theorem dX1_addLaid_21 : decode cX1_addLaid 21 = .ok (.getfield 23, 3) := by decide +kernel
theorem dX1_addLaid_24 : decode cX1_addLaid 24 = .ok (.iload 5, 2) := by decide +kernel
theorem dX1_addLaid_26 : decode cX1_addLaid 26 = .ok (.iconst 1, 1) := by decide +kernel
theorem dX1_addLaid_27 : decode cX1_addLaid 27 = .ok (.iload_n 2, 1) := by decide +kernel
theorem dX1_addLaid_28 : decode cX1_addLaid 28 = .ok (.invokevirtual 45, 3) := by decide +kernel
theorem dX1_addLaid_31 : decode cX1_addLaid 31 = .ok (.aload_n 0, 1) := by decide +kernel
theorem dX1_addLaid_32 : decode cX1_addLaid 32 = .ok (.getfield 23, 3) := by decide +kernel
theorem dX1_addLaid_35 : decode cX1_addLaid 35 = .ok (.iload 5, 2) := by decide +kernel
theorem dX1_addLaid_37 : decode cX1_addLaid 37 = .ok (.iconst 2, 1) := by decide +kernel
theorem dX1_addLaid_38 : decode cX1_addLaid 38 = .ok (.iload_n 3, 1) := by decide +kernel
theorem dX1_addLaid_39 : decode cX1_addLaid 39 = .ok (.invokevirtual 45, 3) := by decide +kernel
theorem dX1_addLaid_42 : decode cX1_addLaid 42 = .ok (.aload_n 0, 1) := by decide +kernel
theorem dX1_addLaid_43 : decode cX1_addLaid 43 = .ok (.getfield 23, 3) := by decide +kernel
theorem dX1_addLaid_46 : decode cX1_addLaid 46 = .ok (.iload 5, 2) := by decide +kernel
theorem dX1_addLaid_48 : decode cX1_addLaid 48 = .ok (.iconst 3, 1) := by decide +kernel
theorem dX1_addLaid_49 : decode cX1_addLaid 49 = .ok (.iload 4, 2) := by decide +kernel
theorem dX1_addLaid_51 : decode cX1_addLaid 51 = .ok (.invokevirtual 45, 3) := by decide +kernel
theorem dX1_addLaid_54 : decode cX1_addLaid 54 = .ok (.aload_n 0, 1) := by decide +kernel
theorem dX1_addLaid_55 : decode cX1_addLaid 55 = .ok (.getfield 23, 3) := by decide +kernel
theorem dX1_addLaid_58 : decode cX1_addLaid 58 = .ok (.iload 5, 2) := by decide +kernel
theorem dX1_addLaid_60 : decode cX1_addLaid 60 = .ok (.iconst 4, 1) := by decide +kernel
theorem dX1_addLaid_61 : decode cX1_addLaid 61 = .ok (.iconst (-1), 1) := by decide +kernel
theorem dX1_addLaid_62 : decode cX1_addLaid 62 = .ok (.invokevirtual 45, 3) := by decide +kernel
theorem dX1_addLaid_65 : decode cX1_addLaid 65 = .ok (.iload 5, 2) := by decide +kernel
theorem dX1_addLaid_67 : decode cX1_addLaid 67 = .ok (.ireturn, 1) := by decide +kernel
set_option maxRecDepth 20000 in
theorem ggX1_takeOut_X1_partOfPrice : GoodIn wsX1_takeOut wsX1_partOfPrice := goodIn_r _ [11, 5, 12, 13, 14, 15, 16, 17, 18, 19, 28, 29, 30, 31, 32, 33, 34, 35, 36] (by decide +kernel) (by decide +kernel)
set_option maxRecDepth 20000 in
theorem gX1_takeOut_X1_partOfPrice : GoodIn wsX1_takeOut (wsV RX1 56 RX1 yX1_partOfPrice wsX1_partOfPrice) := goodIn_app (goodIn_of _ (by decide +kernel)) ggX1_takeOut_X1_partOfPrice
set_option maxRecDepth 20000 in
theorem ggX1_takeOut_X4_put : GoodIn wsX1_takeOut wsX4_put := goodIn_r _ [23, 17, 18, 19, 34, 35, 36] (by decide +kernel) (by decide +kernel)
set_option maxRecDepth 20000 in
theorem gX1_takeOut_X4_put : GoodIn wsX1_takeOut (wsV RX1 45 RX4 yX4_put wsX4_put) := goodIn_app (goodIn_of _ (by decide +kernel)) ggX1_takeOut_X4_put
set_option maxRecDepth 20000 in
theorem ggX1_takeOut_X4_size : GoodIn wsX1_takeOut wsX4_size := goodIn_r _ [27, 18, 34, 35, 36] (by decide +kernel) (by decide +kernel)
set_option maxRecDepth 20000 in
theorem gX1_takeOut_X4_size : GoodIn wsX1_takeOut (wsV RX1 64 RX4 yX4_size wsX4_size) := goodIn_app (goodIn_of _ (by decide +kernel)) ggX1_takeOut_X4_size
set_option maxRecDepth 20000 in
theorem ggX1_takeOut_X4_cell : GoodIn wsX1_takeOut wsX4_cell := goodIn_r _ [16, 17, 18, 19, 34, 35, 36] (by decide +kernel) (by decide +kernel)
set_option maxRecDepth 20000 in
theorem gX1_takeOut_X4_cell : GoodIn wsX1_takeOut (wsV RX1 49 RX4 yX4_cell wsX4_cell) := goodIn_app (goodIn_of _ (by decide +kernel)) ggX1_takeOut_X4_cell
theorem dX1_takeOut_0 : decode cX1_takeOut 0 = .ok (.bipush 75, 2) := by decide +kernel
theorem dX1_takeOut_2 : decode cX1_takeOut 2 = .ok (.aload_n 0, 1) := by decide +kernel
theorem dX1_takeOut_3 : decode cX1_takeOut 3 = .ok (.bipush 100, 2) := by decide +kernel
theorem dX1_takeOut_5 : decode cX1_takeOut 5 = .ok (.iload_n 1, 1) := by decide +kernel
theorem dX1_takeOut_6 : decode cX1_takeOut 6 = .ok (.invokevirtual 56, 3) := by decide +kernel
theorem dX1_takeOut_9 : decode cX1_takeOut 9 = .ok (.invokestatic 59, 3) := by decide +kernel
theorem dX1_takeOut_12 : decode cX1_takeOut 12 = .ok (.istore_n 2, 1) := by decide +kernel
theorem dX1_takeOut_13 : decode cX1_takeOut 13 = .ok (.aload_n 0, 1) := by decide +kernel
theorem dX1_takeOut_14 : decode cX1_takeOut 14 = .ok (.getfield 14, 3) := by decide +kernel
theorem dX1_takeOut_17 : decode cX1_takeOut 17 = .ok (.iload_n 1, 1) := by decide +kernel
theorem dX1_takeOut_18 : decode cX1_takeOut 18 = .ok (.iconst 2, 1) := by decide +kernel
theorem dX1_takeOut_19 : decode cX1_takeOut 19 = .ok (.iconst 0, 1) := by decide +kernel
theorem dX1_takeOut_20 : decode cX1_takeOut 20 = .ok (.invokevirtual 45, 3) := by decide +kernel
theorem dX1_takeOut_23 : decode cX1_takeOut 23 = .ok (.aload_n 0, 1) := by decide +kernel
theorem dX1_takeOut_24 : decode cX1_takeOut 24 = .ok (.getfield 14, 3) := by decide +kernel
theorem dX1_takeOut_27 : decode cX1_takeOut 27 = .ok (.iload_n 1, 1) := by decide +kernel
theorem dX1_takeOut_28 : decode cX1_takeOut 28 = .ok (.iconst 3, 1) := by decide +kernel
theorem dX1_takeOut_29 : decode cX1_takeOut 29 = .ok (.iload_n 2, 1) := by decide +kernel
theorem dX1_takeOut_30 : decode cX1_takeOut 30 = .ok (.invokevirtual 45, 3) := by decide +kernel
theorem dX1_takeOut_33 : decode cX1_takeOut 33 = .ok (.iconst 0, 1) := by decide +kernel
theorem dX1_takeOut_34 : decode cX1_takeOut 34 = .ok (.istore_n 3, 1) := by decide +kernel
theorem dX1_takeOut_35 : decode cX1_takeOut 35 = .ok (.iload_n 3, 1) := by decide +kernel
theorem dX1_takeOut_36 : decode cX1_takeOut 36 = .ok (.aload_n 0, 1) := by decide +kernel
theorem dX1_takeOut_37 : decode cX1_takeOut 37 = .ok (.getfield 20, 3) := by decide +kernel
theorem dX1_takeOut_40 : decode cX1_takeOut 40 = .ok (.invokevirtual 64, 3) := by decide +kernel
theorem dX1_takeOut_43 : decode cX1_takeOut 43 = .ok (.if_icmp .ge 34, 3) := by decide +kernel
theorem dX1_takeOut_46 : decode cX1_takeOut 46 = .ok (.aload_n 0, 1) := by decide +kernel
theorem dX1_takeOut_47 : decode cX1_takeOut 47 = .ok (.getfield 20, 3) := by decide +kernel
theorem dX1_takeOut_50 : decode cX1_takeOut 50 = .ok (.iload_n 3, 1) := by decide +kernel
theorem dX1_takeOut_51 : decode cX1_takeOut 51 = .ok (.iconst 5, 1) := by decide +kernel
theorem dX1_takeOut_52 : decode cX1_takeOut 52 = .ok (.bipush 90, 2) := by decide +kernel
theorem dX1_takeOut_54 : decode cX1_takeOut 54 = .ok (.aload_n 0, 1) := by decide +kernel
theorem dX1_takeOut_55 : decode cX1_takeOut 55 = .ok (.getfield 20, 3) := by decide +kernel
theorem dX1_takeOut_58 : decode cX1_takeOut 58 = .ok (.iload_n 3, 1) := by decide +kernel
theorem dX1_takeOut_59 : decode cX1_takeOut 59 = .ok (.iconst 5, 1) := by decide +kernel
theorem dX1_takeOut_60 : decode cX1_takeOut 60 = .ok (.invokevirtual 49, 3) := by decide +kernel
theorem dX1_takeOut_63 : decode cX1_takeOut 63 = .ok (.iload_n 2, 1) := by decide +kernel
theorem dX1_takeOut_64 : decode cX1_takeOut 64 = .ok (.iadd, 1) := by decide +kernel
theorem dX1_takeOut_65 : decode cX1_takeOut 65 = .ok (.invokestatic 59, 3) := by decide +kernel
theorem dX1_takeOut_68 : decode cX1_takeOut 68 = .ok (.invokevirtual 45, 3) := by decide +kernel
theorem dX1_takeOut_71 : decode cX1_takeOut 71 = .ok (.iinc 3 1, 3) := by decide +kernel
theorem dX1_takeOut_74 : decode cX1_takeOut 74 = .ok (.goto (-39), 3) := by decide +kernel
theorem dX1_takeOut_77 : decode cX1_takeOut 77 = .ok (.iload_n 2, 1) := by decide +kernel
theorem dX1_takeOut_78 : decode cX1_takeOut 78 = .ok (.ireturn, 1) := by decide +kernel
set_option maxRecDepth 20000 in
theorem ggX1_partOfPrice_X4_cell : GoodIn wsX1_partOfPrice wsX4_cell := goodIn_r _ [6, 7, 8, 9, 16, 17, 18] (by decide +kernel) (by decide +kernel)
set_option maxRecDepth 20000 in
theorem gX1_partOfPrice_X4_cell : GoodIn wsX1_partOfPrice (wsV RX1 49 RX4 yX4_cell wsX4_cell) := goodIn_app (goodIn_of _ (by decide +kernel)) ggX1_partOfPrice_X4_cell
theorem dX1_partOfPrice_0 : decode cX1_partOfPrice 0 = .ok (.aload_n 0, 1) := by decide +kernel
theorem dX1_partOfPrice_1 : decode cX1_partOfPrice 1 = .ok (.getfield 14, 3) := by decide +kernel
theorem dX1_partOfPrice_4 : decode cX1_partOfPrice 4 = .ok (.iload_n 2, 1) := by decide +kernel
theorem dX1_partOfPrice_5 : decode cX1_partOfPrice 5 = .ok (.iconst 1, 1) := by decide +kernel
theorem dX1_partOfPrice_6 : decode cX1_partOfPrice 6 = .ok (.invokevirtual 49, 3) := by decide +kernel
theorem dX1_partOfPrice_9 : decode cX1_partOfPrice 9 = .ok (.istore_n 3, 1) := by decide +kernel
theorem dX1_partOfPrice_10 : decode cX1_partOfPrice 10 = .ok (.aload_n 0, 1) := by decide +kernel
theorem dX1_partOfPrice_11 : decode cX1_partOfPrice 11 = .ok (.getfield 14, 3) := by decide +kernel
theorem dX1_partOfPrice_14 : decode cX1_partOfPrice 14 = .ok (.iload_n 2, 1) := by decide +kernel
theorem dX1_partOfPrice_15 : decode cX1_partOfPrice 15 = .ok (.iconst 0, 1) := by decide +kernel
theorem dX1_partOfPrice_16 : decode cX1_partOfPrice 16 = .ok (.invokevirtual 49, 3) := by decide +kernel
theorem dX1_partOfPrice_19 : decode cX1_partOfPrice 19 = .ok (.iload_n 3, 1) := by decide +kernel
theorem dX1_partOfPrice_20 : decode cX1_partOfPrice 20 = .ok (.iadd, 1) := by decide +kernel
theorem dX1_partOfPrice_21 : decode cX1_partOfPrice 21 = .ok (.istore 4, 2) := by decide +kernel
theorem dX1_partOfPrice_23 : decode cX1_partOfPrice 23 = .ok (.iload 4, 2) := by decide +kernel
theorem dX1_partOfPrice_25 : decode cX1_partOfPrice 25 = .ok (.ifCond .le 12, 3) := by decide +kernel
theorem dX1_partOfPrice_28 : decode cX1_partOfPrice 28 = .ok (.iload_n 1, 1) := by decide +kernel
theorem dX1_partOfPrice_29 : decode cX1_partOfPrice 29 = .ok (.iload_n 3, 1) := by decide +kernel
theorem dX1_partOfPrice_30 : decode cX1_partOfPrice 30 = .ok (.imul, 1) := by decide +kernel
theorem dX1_partOfPrice_31 : decode cX1_partOfPrice 31 = .ok (.iload 4, 2) := by decide +kernel
theorem dX1_partOfPrice_33 : decode cX1_partOfPrice 33 = .ok (.idiv, 1) := by decide +kernel
theorem dX1_partOfPrice_34 : decode cX1_partOfPrice 34 = .ok (.goto 4, 3) := by decide +kernel
theorem dX1_partOfPrice_37 : decode cX1_partOfPrice 37 = .ok (.iconst 0, 1) := by decide +kernel
theorem dX1_partOfPrice_38 : decode cX1_partOfPrice 38 = .ok (.ireturn, 1) := by decide +kernel
set_option maxRecDepth 20000 in
theorem ggX1_runs_X4_cell : GoodIn wsX1_runs wsX4_cell := goodIn_r _ [6, 7, 8, 9, 16, 17, 18] (by decide +kernel) (by decide +kernel)
set_option maxRecDepth 20000 in
theorem gX1_runs_X4_cell : GoodIn wsX1_runs (wsV RX1 49 RX4 yX4_cell wsX4_cell) := goodIn_app (goodIn_of _ (by decide +kernel)) ggX1_runs_X4_cell
theorem dX1_runs_0 : decode cX1_runs 0 = .ok (.aload_n 0, 1) := by decide +kernel
theorem dX1_runs_1 : decode cX1_runs 1 = .ok (.getfield 14, 3) := by decide +kernel
theorem dX1_runs_4 : decode cX1_runs 4 = .ok (.iload_n 1, 1) := by decide +kernel
theorem dX1_runs_5 : decode cX1_runs 5 = .ok (.iconst 2, 1) := by decide +kernel
theorem dX1_runs_6 : decode cX1_runs 6 = .ok (.invokevirtual 49, 3) := by decide +kernel
theorem dX1_runs_9 : decode cX1_runs 9 = .ok (.iconst 1, 1) := by decide +kernel
theorem dX1_runs_10 : decode cX1_runs 10 = .ok (.if_icmp .ne 7, 3) := by decide +kernel
theorem dX1_runs_13 : decode cX1_runs 13 = .ok (.iconst 1, 1) := by decide +kernel
theorem dX1_runs_14 : decode cX1_runs 14 = .ok (.goto 4, 3) := by decide +kernel
theorem dX1_runs_17 : decode cX1_runs 17 = .ok (.iconst 0, 1) := by decide +kernel
theorem dX1_runs_18 : decode cX1_runs 18 = .ok (.ireturn, 1) := by decide +kernel
set_option maxRecDepth 20000 in
theorem ggX1_running_X4_sum : GoodIn wsX1_running wsX4_sum := goodIn_r _ [6, 7, 8, 9, 10, 5, 11, 12, 13, 20, 21, 22] (by decide +kernel) (by decide +kernel)
set_option maxRecDepth 20000 in
theorem gX1_running_X4_sum : GoodIn wsX1_running (wsV RX1 67 RX4 yX4_sum wsX4_sum) := goodIn_app (goodIn_of _ (by decide +kernel)) ggX1_running_X4_sum
theorem dX1_running_0 : decode cX1_running 0 = .ok (.aload_n 0, 1) := by decide +kernel
theorem dX1_running_1 : decode cX1_running 1 = .ok (.getfield 14, 3) := by decide +kernel
theorem dX1_running_4 : decode cX1_running 4 = .ok (.iconst 2, 1) := by decide +kernel
theorem dX1_running_5 : decode cX1_running 5 = .ok (.invokevirtual 67, 3) := by decide +kernel
theorem dX1_running_8 : decode cX1_running 8 = .ok (.ireturn, 1) := by decide +kernel
set_option maxRecDepth 20000 in
theorem ggX1_places_X1_running : GoodIn wsX1_places wsX1_running := goodIn_r _ [5, 6, 7, 8, 9, 10, 11, 12, 13, 14, 15, 16, 17, 18, 19, 20, 21, 22, 23, 24, 25, 26, 27] (by decide +kernel) (by decide +kernel)
set_option maxRecDepth 20000 in
theorem gX1_places_X1_running : GoodIn wsX1_places (wsV RX1 71 RX1 yX1_running wsX1_running) := goodIn_app (goodIn_of _ (by decide +kernel)) ggX1_places_X1_running
theorem dX1_places_0 : decode cX1_places 0 = .ok (.aload_n 0, 1) := by decide +kernel
theorem dX1_places_1 : decode cX1_places 1 = .ok (.invokevirtual 71, 3) := by decide +kernel
theorem dX1_places_4 : decode cX1_places 4 = .ok (.istore_n 1, 1) := by decide +kernel
theorem dX1_places_5 : decode cX1_places 5 = .ok (.iload_n 1, 1) := by decide +kernel
theorem dX1_places_6 : decode cX1_places 6 = .ok (.iconst 4, 1) := by decide +kernel
theorem dX1_places_7 : decode cX1_places 7 = .ok (.if_icmp .gt 5, 3) := by decide +kernel
theorem dX1_places_10 : decode cX1_places 10 = .ok (.iconst 0, 1) := by decide +kernel
theorem dX1_places_11 : decode cX1_places 11 = .ok (.ireturn, 1) := by decide +kernel
theorem dX1_places_12 : decode cX1_places 12 = .ok (.iload_n 1, 1) := by decide +kernel
theorem dX1_places_13 : decode cX1_places 13 = .ok (.bipush 7, 2) := by decide +kernel
theorem dX1_places_15 : decode cX1_places 15 = .ok (.if_icmp .gt 7, 3) := by decide +kernel
theorem dX1_places_18 : decode cX1_places 18 = .ok (.iconst 2, 1) := by decide +kernel
theorem dX1_places_19 : decode cX1_places 19 = .ok (.goto 4, 3) := by decide +kernel
theorem dX1_places_22 : decode cX1_places 22 = .ok (.iconst 3, 1) := by decide +kernel
theorem dX1_places_23 : decode cX1_places 23 = .ok (.ireturn, 1) := by decide +kernel
set_option maxRecDepth 20000 in
theorem ggX1_round_X4_size : GoodIn wsX1_round wsX4_size := goodIn_r _ [6, 7, 29, 30, 31] (by decide +kernel) (by decide +kernel)
set_option maxRecDepth 20000 in
theorem gX1_round_X4_size : GoodIn wsX1_round (wsV RX1 64 RX4 yX4_size wsX4_size) := goodIn_app (goodIn_of _ (by decide +kernel)) ggX1_round_X4_size
set_option maxRecDepth 20000 in
theorem ggX1_round_X1_runs : GoodIn wsX1_round wsX1_runs := goodIn_r _ [12, 1, 13, 14, 15, 5, 16, 17, 7, 18, 23, 24, 25, 26, 27, 28, 29, 30, 31] (by decide +kernel) (by decide +kernel)
set_option maxRecDepth 20000 in
theorem gX1_round_X1_runs : GoodIn wsX1_round (wsV RX1 74 RX1 yX1_runs wsX1_runs) := goodIn_app (goodIn_of _ (by decide +kernel)) ggX1_round_X1_runs
set_option maxRecDepth 20000 in
theorem ggX1_round_X1_partOfPrice : GoodIn wsX1_round wsX1_partOfPrice := goodIn_r _ [22, 1, 13, 14, 15, 5, 16, 17, 7, 18, 23, 24, 25, 26, 27, 28, 29, 30, 31] (by decide +kernel) (by decide +kernel)
set_option maxRecDepth 20000 in
theorem gX1_round_X1_partOfPrice : GoodIn wsX1_round (wsV RX1 56 RX1 yX1_partOfPrice wsX1_partOfPrice) := goodIn_app (goodIn_of _ (by decide +kernel)) ggX1_round_X1_partOfPrice
theorem dX1_round_0 : decode cX1_round 0 = .ok (.iconst 0, 1) := by decide +kernel
theorem dX1_round_1 : decode cX1_round 1 = .ok (.istore_n 1, 1) := by decide +kernel
theorem dX1_round_2 : decode cX1_round 2 = .ok (.iconst 0, 1) := by decide +kernel
theorem dX1_round_3 : decode cX1_round 3 = .ok (.istore_n 2, 1) := by decide +kernel
theorem dX1_round_4 : decode cX1_round 4 = .ok (.iload_n 2, 1) := by decide +kernel
theorem dX1_round_5 : decode cX1_round 5 = .ok (.aload_n 0, 1) := by decide +kernel
theorem dX1_round_6 : decode cX1_round 6 = .ok (.getfield 14, 3) := by decide +kernel
theorem dX1_round_9 : decode cX1_round 9 = .ok (.invokevirtual 64, 3) := by decide +kernel
theorem dX1_round_12 : decode cX1_round 12 = .ok (.if_icmp .ge 28, 3) := by decide +kernel
theorem dX1_round_15 : decode cX1_round 15 = .ok (.aload_n 0, 1) := by decide +kernel
theorem dX1_round_16 : decode cX1_round 16 = .ok (.iload_n 2, 1) := by decide +kernel
theorem dX1_round_17 : decode cX1_round 17 = .ok (.invokevirtual 74, 3) := by decide +kernel
theorem dX1_round_20 : decode cX1_round 20 = .ok (.ifCond .eq 14, 3) := by decide +kernel
theorem dX1_round_23 : decode cX1_round 23 = .ok (.iload_n 1, 1) := by decide +kernel
theorem dX1_round_24 : decode cX1_round 24 = .ok (.aload_n 0, 1) := by decide +kernel
theorem dX1_round_25 : decode cX1_round 25 = .ok (.sipush 1000, 3) := by decide +kernel
theorem dX1_round_28 : decode cX1_round 28 = .ok (.iload_n 2, 1) := by decide +kernel
theorem dX1_round_29 : decode cX1_round 29 = .ok (.invokevirtual 56, 3) := by decide +kernel
theorem dX1_round_32 : decode cX1_round 32 = .ok (.iadd, 1) := by decide +kernel
theorem dX1_round_33 : decode cX1_round 33 = .ok (.istore_n 1, 1) := by decide +kernel
theorem dX1_round_34 : decode cX1_round 34 = .ok (.iinc 2 1, 3) := by decide +kernel
theorem dX1_round_37 : decode cX1_round 37 = .ok (.goto (-33), 3) := by decide +kernel
theorem dX1_round_40 : decode cX1_round 40 = .ok (.iload_n 1, 1) := by decide +kernel
theorem dX1_round_41 : decode cX1_round 41 = .ok (.ireturn, 1) := by decide +kernel
set_option maxRecDepth 20000 in
theorem ggX1_wholeStake_X4_cell : GoodIn wsX1_wholeStake wsX4_cell := goodIn_r _ [6, 7, 8, 9, 16, 17, 18] (by decide +kernel) (by decide +kernel)
set_option maxRecDepth 20000 in
theorem gX1_wholeStake_X4_cell : GoodIn wsX1_wholeStake (wsV RX1 49 RX4 yX4_cell wsX4_cell) := goodIn_app (goodIn_of _ (by decide +kernel)) ggX1_wholeStake_X4_cell
theorem dX1_wholeStake_0 : decode cX1_wholeStake 0 = .ok (.aload_n 0, 1) := by decide +kernel
theorem dX1_wholeStake_1 : decode cX1_wholeStake 1 = .ok (.getfield 20, 3) := by decide +kernel
theorem dX1_wholeStake_4 : decode cX1_wholeStake 4 = .ok (.iload_n 1, 1) := by decide +kernel
theorem dX1_wholeStake_5 : decode cX1_wholeStake 5 = .ok (.iconst 1, 1) := by decide +kernel
theorem dX1_wholeStake_6 : decode cX1_wholeStake 6 = .ok (.invokevirtual 49, 3) := by decide +kernel
theorem dX1_wholeStake_9 : decode cX1_wholeStake 9 = .ok (.iconst 1, 1) := by decide +kernel
theorem dX1_wholeStake_10 : decode cX1_wholeStake 10 = .ok (.aload_n 0, 1) := by decide +kernel
theorem dX1_wholeStake_11 : decode cX1_wholeStake 11 = .ok (.getfield 20, 3) := by decide +kernel
theorem dX1_wholeStake_14 : decode cX1_wholeStake 14 = .ok (.iload_n 1, 1) := by decide +kernel
theorem dX1_wholeStake_15 : decode cX1_wholeStake 15 = .ok (.iconst 2, 1) := by decide +kernel
theorem dX1_wholeStake_16 : decode cX1_wholeStake 16 = .ok (.invokevirtual 49, 3) := by decide +kernel
theorem dX1_wholeStake_19 : decode cX1_wholeStake 19 = .ok (.iadd, 1) := by decide +kernel
theorem dX1_wholeStake_20 : decode cX1_wholeStake 20 = .ok (.imul, 1) := by decide +kernel
theorem dX1_wholeStake_21 : decode cX1_wholeStake 21 = .ok (.ireturn, 1) := by decide +kernel
set_option maxRecDepth 20000 in
theorem ggX1_stakes_X4_size : GoodIn wsX1_stakes wsX4_size := goodIn_r _ [6, 7, 25, 26, 27] (by decide +kernel) (by decide +kernel)
set_option maxRecDepth 20000 in
theorem gX1_stakes_X4_size : GoodIn wsX1_stakes (wsV RX1 64 RX4 yX4_size wsX4_size) := goodIn_app (goodIn_of _ (by decide +kernel)) ggX1_stakes_X4_size
set_option maxRecDepth 20000 in
theorem ggX1_stakes_X1_wholeStake : GoodIn wsX1_stakes wsX1_wholeStake := goodIn_r _ [12, 1, 13, 14, 15, 5, 16, 17, 7, 18, 19, 20, 21, 22, 23, 24, 25, 26, 27] (by decide +kernel) (by decide +kernel)
set_option maxRecDepth 20000 in
theorem gX1_stakes_X1_wholeStake : GoodIn wsX1_stakes (wsV RX1 78 RX1 yX1_wholeStake wsX1_wholeStake) := goodIn_app (goodIn_of _ (by decide +kernel)) ggX1_stakes_X1_wholeStake
theorem dX1_stakes_0 : decode cX1_stakes 0 = .ok (.iconst 0, 1) := by decide +kernel
theorem dX1_stakes_1 : decode cX1_stakes 1 = .ok (.istore_n 1, 1) := by decide +kernel
theorem dX1_stakes_2 : decode cX1_stakes 2 = .ok (.iconst 0, 1) := by decide +kernel
theorem dX1_stakes_3 : decode cX1_stakes 3 = .ok (.istore_n 2, 1) := by decide +kernel
theorem dX1_stakes_4 : decode cX1_stakes 4 = .ok (.iload_n 2, 1) := by decide +kernel
theorem dX1_stakes_5 : decode cX1_stakes 5 = .ok (.aload_n 0, 1) := by decide +kernel
theorem dX1_stakes_6 : decode cX1_stakes 6 = .ok (.getfield 20, 3) := by decide +kernel
theorem dX1_stakes_9 : decode cX1_stakes 9 = .ok (.invokevirtual 64, 3) := by decide +kernel
theorem dX1_stakes_12 : decode cX1_stakes 12 = .ok (.if_icmp .ge 17, 3) := by decide +kernel
theorem dX1_stakes_15 : decode cX1_stakes 15 = .ok (.iload_n 1, 1) := by decide +kernel
theorem dX1_stakes_16 : decode cX1_stakes 16 = .ok (.aload_n 0, 1) := by decide +kernel
theorem dX1_stakes_17 : decode cX1_stakes 17 = .ok (.iload_n 2, 1) := by decide +kernel
theorem dX1_stakes_18 : decode cX1_stakes 18 = .ok (.invokevirtual 78, 3) := by decide +kernel
theorem dX1_stakes_21 : decode cX1_stakes 21 = .ok (.iadd, 1) := by decide +kernel
theorem dX1_stakes_22 : decode cX1_stakes 22 = .ok (.istore_n 1, 1) := by decide +kernel
theorem dX1_stakes_23 : decode cX1_stakes 23 = .ok (.iinc 2 1, 3) := by decide +kernel
theorem dX1_stakes_26 : decode cX1_stakes 26 = .ok (.goto (-22), 3) := by decide +kernel
theorem dX1_stakes_29 : decode cX1_stakes 29 = .ok (.iload_n 1, 1) := by decide +kernel
theorem dX1_stakes_30 : decode cX1_stakes 30 = .ok (.ireturn, 1) := by decide +kernel
theorem dX1_paid_0 : decode cX1_paid 0 = .ok (.iload_n 2, 1) := by decide +kernel
theorem dX1_paid_1 : decode cX1_paid 1 = .ok (.ifCond .gt 5, 3) := by decide +kernel
theorem dX1_paid_4 : decode cX1_paid 4 = .ok (.iload_n 0, 1) := by decide +kernel
theorem dX1_paid_5 : decode cX1_paid 5 = .ok (.ireturn, 1) := by decide +kernel
theorem dX1_paid_6 : decode cX1_paid 6 = .ok (.iload_n 0, 1) := by decide +kernel
theorem dX1_paid_7 : decode cX1_paid 7 = .ok (.iload_n 0, 1) := by decide +kernel
theorem dX1_paid_8 : decode cX1_paid 8 = .ok (.iload_n 1, 1) := by decide +kernel
theorem dX1_paid_9 : decode cX1_paid 9 = .ok (.imul, 1) := by decide +kernel
theorem dX1_paid_10 : decode cX1_paid 10 = .ok (.iload_n 2, 1) := by decide +kernel
theorem dX1_paid_11 : decode cX1_paid 11 = .ok (.idiv, 1) := by decide +kernel
theorem dX1_paid_12 : decode cX1_paid 12 = .ok (.bipush 100, 2) := by decide +kernel
theorem dX1_paid_14 : decode cX1_paid 14 = .ok (.iload_n 3, 1) := by decide +kernel
theorem dX1_paid_15 : decode cX1_paid 15 = .ok (.isub, 1) := by decide +kernel
theorem dX1_paid_16 : decode cX1_paid 16 = .ok (.imul, 1) := by decide +kernel
theorem dX1_paid_17 : decode cX1_paid 17 = .ok (.bipush 100, 2) := by decide +kernel
theorem dX1_paid_19 : decode cX1_paid 19 = .ok (.idiv, 1) := by decide +kernel
theorem dX1_paid_20 : decode cX1_paid 20 = .ok (.iadd, 1) := by decide +kernel
theorem dX1_paid_21 : decode cX1_paid 21 = .ok (.ireturn, 1) := by decide +kernel
set_option maxRecDepth 20000 in
theorem ggX1_winPart_X4_cell : GoodIn wsX1_winPart wsX4_cell := goodIn_r _ [6, 7, 8, 9, 31, 32, 33] (by decide +kernel) (by decide +kernel)
set_option maxRecDepth 20000 in
theorem gX1_winPart_X4_cell : GoodIn wsX1_winPart (wsV RX1 49 RX4 yX4_cell wsX4_cell) := goodIn_app (goodIn_of _ (by decide +kernel)) ggX1_winPart_X4_cell
set_option maxRecDepth 20000 in
theorem ggX1_winPart_X0_groupOf : GoodIn wsX1_winPart wsX0_groupOf := goodIn_r _ [14, 15, 34, 35, 36, 37, 38] (by decide +kernel) (by decide +kernel)
set_option maxRecDepth 20000 in
theorem gX1_winPart_X0_groupOf : GoodIn wsX1_winPart (wsV RX1 81 RX0 yX0_groupOf wsX0_groupOf) := goodIn_app (goodIn_of _ (by decide +kernel)) ggX1_winPart_X0_groupOf
set_option maxRecDepth 20000 in
theorem ggX1_winPart_X0_placeOf : GoodIn wsX1_winPart wsX0_placeOf := goodIn_r _ [19, 20, 34, 35, 36, 37, 38] (by decide +kernel) (by decide +kernel)
set_option maxRecDepth 20000 in
theorem gX1_winPart_X0_placeOf : GoodIn wsX1_winPart (wsV RX1 86 RX0 yX0_placeOf wsX0_placeOf) := goodIn_app (goodIn_of _ (by decide +kernel)) ggX1_winPart_X0_placeOf
set_option maxRecDepth 20000 in
theorem ggX1_winPart_X1_paid : GoodIn wsX1_winPart wsX1_paid := goodIn_r _ [24] (by decide +kernel) (by decide +kernel)
set_option maxRecDepth 20000 in
theorem gX1_winPart_X1_paid : GoodIn wsX1_winPart (va_wsS RX1 89 yX1_paid wsX1_paid) := goodIn_app (goodIn_of _ (by decide +kernel)) ggX1_winPart_X1_paid
theorem dX1_winPart_0 : decode cX1_winPart 0 = .ok (.aload_n 0, 1) := by decide +kernel
theorem dX1_winPart_1 : decode cX1_winPart 1 = .ok (.getfield 20, 3) := by decide +kernel
theorem dX1_winPart_4 : decode cX1_winPart 4 = .ok (.iload_n 1, 1) := by decide +kernel
theorem dX1_winPart_5 : decode cX1_winPart 5 = .ok (.iconst 0, 1) := by decide +kernel
theorem dX1_winPart_6 : decode cX1_winPart 6 = .ok (.invokevirtual 49, 3) := by decide +kernel
theorem dX1_winPart_9 : decode cX1_winPart 9 = .ok (.istore_n 3, 1) := by decide +kernel
theorem dX1_winPart_10 : decode cX1_winPart 10 = .ok (.aload_n 2, 1) := by decide +kernel
theorem dX1_winPart_11 : decode cX1_winPart 11 = .ok (.iload_n 3, 1) := by decide +kernel
theorem dX1_winPart_12 : decode cX1_winPart 12 = .ok (.invokevirtual 81, 3) := by decide +kernel
theorem dX1_winPart_15 : decode cX1_winPart 15 = .ok (.istore 4, 2) := by decide +kernel
theorem dX1_winPart_17 : decode cX1_winPart 17 = .ok (.aload_n 2, 1) := by decide +kernel
theorem dX1_winPart_18 : decode cX1_winPart 18 = .ok (.iload_n 3, 1) := by decide +kernel
theorem dX1_winPart_19 : decode cX1_winPart 19 = .ok (.invokevirtual 86, 3) := by decide +kernel
theorem dX1_winPart_22 : decode cX1_winPart 22 = .ok (.iconst 1, 1) := by decide +kernel
theorem dX1_winPart_23 : decode cX1_winPart 23 = .ok (.if_icmp .ne 8, 3) := by decide +kernel
theorem dX1_winPart_26 : decode cX1_winPart 26 = .ok (.iload 4, 2) := by decide +kernel
theorem dX1_winPart_28 : decode cX1_winPart 28 = .ok (.ifCond .gt 5, 3) := by decide +kernel
theorem dX1_winPart_31 : decode cX1_winPart 31 = .ok (.iconst 0, 1) := by decide +kernel
theorem dX1_winPart_32 : decode cX1_winPart 32 = .ok (.ireturn, 1) := by decide +kernel
theorem dX1_winPart_33 : decode cX1_winPart 33 = .ok (.aload_n 0, 1) := by decide +kernel
theorem dX1_winPart_34 : decode cX1_winPart 34 = .ok (.getfield 20, 3) := by decide +kernel
theorem dX1_winPart_37 : decode cX1_winPart 37 = .ok (.iload_n 1, 1) := by decide +kernel
theorem dX1_winPart_38 : decode cX1_winPart 38 = .ok (.iconst 1, 1) := by decide +kernel
theorem dX1_winPart_39 : decode cX1_winPart 39 = .ok (.invokevirtual 49, 3) := by decide +kernel
theorem dX1_winPart_42 : decode cX1_winPart 42 = .ok (.iload 4, 2) := by decide +kernel
theorem dX1_winPart_44 : decode cX1_winPart 44 = .ok (.idiv, 1) := by decide +kernel
theorem dX1_winPart_45 : decode cX1_winPart 45 = .ok (.aload_n 0, 1) := by decide +kernel
theorem dX1_winPart_46 : decode cX1_winPart 46 = .ok (.getfield 20, 3) := by decide +kernel
theorem dX1_winPart_49 : decode cX1_winPart 49 = .ok (.iload_n 1, 1) := by decide +kernel
theorem dX1_winPart_50 : decode cX1_winPart 50 = .ok (.iconst 3, 1) := by decide +kernel
theorem dX1_winPart_51 : decode cX1_winPart 51 = .ok (.invokevirtual 49, 3) := by decide +kernel
theorem dX1_winPart_54 : decode cX1_winPart 54 = .ok (.aload_n 0, 1) := by decide +kernel
theorem dX1_winPart_55 : decode cX1_winPart 55 = .ok (.getfield 20, 3) := by decide +kernel
theorem dX1_winPart_58 : decode cX1_winPart 58 = .ok (.iload_n 1, 1) := by decide +kernel
theorem dX1_winPart_59 : decode cX1_winPart 59 = .ok (.iconst 4, 1) := by decide +kernel
theorem dX1_winPart_60 : decode cX1_winPart 60 = .ok (.invokevirtual 49, 3) := by decide +kernel
theorem dX1_winPart_63 : decode cX1_winPart 63 = .ok (.aload_n 0, 1) := by decide +kernel
theorem dX1_winPart_64 : decode cX1_winPart 64 = .ok (.getfield 20, 3) := by decide +kernel
theorem dX1_winPart_67 : decode cX1_winPart 67 = .ok (.iload_n 1, 1) := by decide +kernel
theorem dX1_winPart_68 : decode cX1_winPart 68 = .ok (.iconst 5, 1) := by decide +kernel
theorem dX1_winPart_69 : decode cX1_winPart 69 = .ok (.invokevirtual 49, 3) := by decide +kernel
theorem dX1_winPart_72 : decode cX1_winPart 72 = .ok (.invokestatic 89, 3) := by decide +kernel
theorem dX1_winPart_75 : decode cX1_winPart 75 = .ok (.ireturn, 1) := by decide +kernel
set_option maxRecDepth 20000 in
theorem ggX1_placePart_X4_cell : GoodIn wsX1_placePart wsX4_cell := goodIn_r _ [11, 12, 13, 14, 41, 42, 43] (by decide +kernel) (by decide +kernel)
set_option maxRecDepth 20000 in
theorem gX1_placePart_X4_cell : GoodIn wsX1_placePart (wsV RX1 49 RX4 yX4_cell wsX4_cell) := goodIn_app (goodIn_of _ (by decide +kernel)) ggX1_placePart_X4_cell
set_option maxRecDepth 20000 in
theorem ggX1_placePart_X0_places : GoodIn wsX1_placePart wsX0_places := goodIn_r _ [19, 20, 44, 45, 46, 47, 48] (by decide +kernel) (by decide +kernel)
set_option maxRecDepth 20000 in
theorem gX1_placePart_X0_places : GoodIn wsX1_placePart (wsV RX1 93 RX0 yX0_places wsX0_places) := goodIn_app (goodIn_of _ (by decide +kernel)) ggX1_placePart_X0_places
set_option maxRecDepth 20000 in
theorem ggX1_placePart_X0_groupOf : GoodIn wsX1_placePart wsX0_groupOf := goodIn_r _ [24, 25, 44, 45, 46, 47, 48] (by decide +kernel) (by decide +kernel)
set_option maxRecDepth 20000 in
theorem gX1_placePart_X0_groupOf : GoodIn wsX1_placePart (wsV RX1 81 RX0 yX0_groupOf wsX0_groupOf) := goodIn_app (goodIn_of _ (by decide +kernel)) ggX1_placePart_X0_groupOf
set_option maxRecDepth 20000 in
theorem ggX1_placePart_X0_placeOf : GoodIn wsX1_placePart wsX0_placeOf := goodIn_r _ [29, 30, 44, 45, 46, 47, 48] (by decide +kernel) (by decide +kernel)
set_option maxRecDepth 20000 in
theorem gX1_placePart_X0_placeOf : GoodIn wsX1_placePart (wsV RX1 86 RX0 yX0_placeOf wsX0_placeOf) := goodIn_app (goodIn_of _ (by decide +kernel)) ggX1_placePart_X0_placeOf
set_option maxRecDepth 20000 in
theorem ggX1_placePart_X1_paid : GoodIn wsX1_placePart wsX1_paid := goodIn_r _ [34] (by decide +kernel) (by decide +kernel)
set_option maxRecDepth 20000 in
theorem gX1_placePart_X1_paid : GoodIn wsX1_placePart (va_wsS RX1 89 yX1_paid wsX1_paid) := goodIn_app (goodIn_of _ (by decide +kernel)) ggX1_placePart_X1_paid
theorem dX1_placePart_0 : decode cX1_placePart 0 = .ok (.aload_n 0, 1) := by decide +kernel
theorem dX1_placePart_1 : decode cX1_placePart 1 = .ok (.getfield 20, 3) := by decide +kernel
theorem dX1_placePart_4 : decode cX1_placePart 4 = .ok (.iload_n 1, 1) := by decide +kernel
theorem dX1_placePart_5 : decode cX1_placePart 5 = .ok (.iconst 2, 1) := by decide +kernel
theorem dX1_placePart_6 : decode cX1_placePart 6 = .ok (.invokevirtual 49, 3) := by decide +kernel
theorem dX1_placePart_9 : decode cX1_placePart 9 = .ok (.ifCond .ne 5, 3) := by decide +kernel
theorem dX1_placePart_12 : decode cX1_placePart 12 = .ok (.iconst 0, 1) := by decide +kernel
theorem dX1_placePart_13 : decode cX1_placePart 13 = .ok (.ireturn, 1) := by decide +kernel
theorem dX1_placePart_14 : decode cX1_placePart 14 = .ok (.aload_n 0, 1) := by decide +kernel
theorem dX1_placePart_15 : decode cX1_placePart 15 = .ok (.getfield 20, 3) := by decide +kernel
theorem dX1_placePart_18 : decode cX1_placePart 18 = .ok (.iload_n 1, 1) := by decide +kernel
theorem dX1_placePart_19 : decode cX1_placePart 19 = .ok (.iconst 1, 1) := by decide +kernel
theorem dX1_placePart_20 : decode cX1_placePart 20 = .ok (.invokevirtual 49, 3) := by decide +kernel
theorem dX1_placePart_23 : decode cX1_placePart 23 = .ok (.istore_n 3, 1) := by decide +kernel
theorem dX1_placePart_24 : decode cX1_placePart 24 = .ok (.aload_n 2, 1) := by decide +kernel
theorem dX1_placePart_25 : decode cX1_placePart 25 = .ok (.invokevirtual 93, 3) := by decide +kernel
theorem dX1_placePart_28 : decode cX1_placePart 28 = .ok (.ifCond .ne 5, 3) := by decide +kernel
theorem dX1_placePart_31 : decode cX1_placePart 31 = .ok (.iload_n 3, 1) := by decide +kernel
theorem dX1_placePart_32 : decode cX1_placePart 32 = .ok (.ireturn, 1) := by decide +kernel
theorem dX1_placePart_33 : decode cX1_placePart 33 = .ok (.aload_n 0, 1) := by decide +kernel
theorem dX1_placePart_34 : decode cX1_placePart 34 = .ok (.getfield 20, 3) := by decide +kernel
theorem dX1_placePart_37 : decode cX1_placePart 37 = .ok (.iload_n 1, 1) := by decide +kernel
theorem dX1_placePart_38 : decode cX1_placePart 38 = .ok (.iconst 0, 1) := by decide +kernel
theorem dX1_placePart_39 : decode cX1_placePart 39 = .ok (.invokevirtual 49, 3) := by decide +kernel
theorem dX1_placePart_42 : decode cX1_placePart 42 = .ok (.istore 4, 2) := by decide +kernel
theorem dX1_placePart_44 : decode cX1_placePart 44 = .ok (.aload_n 2, 1) := by decide +kernel
theorem dX1_placePart_45 : decode cX1_placePart 45 = .ok (.iload 4, 2) := by decide +kernel
theorem dX1_placePart_47 : decode cX1_placePart 47 = .ok (.invokevirtual 81, 3) := by decide +kernel
theorem dX1_placePart_50 : decode cX1_placePart 50 = .ok (.istore 5, 2) := by decide +kernel
theorem dX1_placePart_52 : decode cX1_placePart 52 = .ok (.iload 5, 2) := by decide +kernel
theorem dX1_placePart_54 : decode cX1_placePart 54 = .ok (.aload_n 2, 1) := by decide +kernel
theorem dX1_placePart_55 : decode cX1_placePart 55 = .ok (.invokevirtual 93, 3) := by decide +kernel
theorem dX1_placePart_58 : decode cX1_placePart 58 = .ok (.aload_n 2, 1) := by decide +kernel
theorem dX1_placePart_59 : decode cX1_placePart 59 = .ok (.iload 4, 2) := by decide +kernel
theorem dX1_placePart_61 : decode cX1_placePart 61 = .ok (.invokevirtual 86, 3) := by decide +kernel
theorem dX1_placePart_64 : decode cX1_placePart 64 = .ok (.isub, 1) := by decide +kernel
theorem dX1_placePart_65 : decode cX1_placePart 65 = .ok (.iconst 1, 1) := by decide +kernel
theorem dX1_placePart_66 : decode cX1_placePart 66 = .ok (.iadd, 1) := by decide +kernel
theorem dX1_placePart_67 : decode cX1_placePart 67 = .ok (.invokestatic 59, 3) := by decide +kernel
theorem dX1_placePart_70 : decode cX1_placePart 70 = .ok (.istore 6, 2) := by decide +kernel
theorem dX1_placePart_72 : decode cX1_placePart 72 = .ok (.iload 5, 2) := by decide +kernel
theorem dX1_placePart_74 : decode cX1_placePart 74 = .ok (.ifCond .le 8, 3) := by decide +kernel
theorem dX1_placePart_77 : decode cX1_placePart 77 = .ok (.iload 6, 2) := by decide +kernel
theorem dX1_placePart_79 : decode cX1_placePart 79 = .ok (.ifCond .gt 5, 3) := by decide +kernel
theorem dX1_placePart_82 : decode cX1_placePart 82 = .ok (.iconst 0, 1) := by decide +kernel
theorem dX1_placePart_83 : decode cX1_placePart 83 = .ok (.ireturn, 1) := by decide +kernel
theorem dX1_placePart_84 : decode cX1_placePart 84 = .ok (.iload_n 3, 1) := by decide +kernel
theorem dX1_placePart_85 : decode cX1_placePart 85 = .ok (.iload 6, 2) := by decide +kernel
theorem dX1_placePart_87 : decode cX1_placePart 87 = .ok (.imul, 1) := by decide +kernel
theorem dX1_placePart_88 : decode cX1_placePart 88 = .ok (.iload 5, 2) := by decide +kernel
theorem dX1_placePart_90 : decode cX1_placePart 90 = .ok (.idiv, 1) := by decide +kernel
theorem dX1_placePart_91 : decode cX1_placePart 91 = .ok (.aload_n 0, 1) := by decide +kernel
theorem dX1_placePart_92 : decode cX1_placePart 92 = .ok (.getfield 20, 3) := by decide +kernel
theorem dX1_placePart_95 : decode cX1_placePart 95 = .ok (.iload_n 1, 1) := by decide +kernel
theorem dX1_placePart_96 : decode cX1_placePart 96 = .ok (.iconst 3, 1) := by decide +kernel
theorem dX1_placePart_97 : decode cX1_placePart 97 = .ok (.invokevirtual 49, 3) := by decide +kernel
theorem dX1_placePart_100 : decode cX1_placePart 100 = .ok (.aload_n 0, 1) := by decide +kernel
theorem dX1_placePart_101 : decode cX1_placePart 101 = .ok (.getfield 20, 3) := by decide +kernel
theorem dX1_placePart_104 : decode cX1_placePart 104 = .ok (.iload_n 1, 1) := by decide +kernel
theorem dX1_placePart_105 : decode cX1_placePart 105 = .ok (.iconst 4, 1) := by decide +kernel
theorem dX1_placePart_106 : decode cX1_placePart 106 = .ok (.invokevirtual 49, 3) := by decide +kernel
theorem dX1_placePart_109 : decode cX1_placePart 109 = .ok (.aload_n 0, 1) := by decide +kernel
theorem dX1_placePart_110 : decode cX1_placePart 110 = .ok (.getfield 26, 3) := by decide +kernel
theorem dX1_placePart_113 : decode cX1_placePart 113 = .ok (.imul, 1) := by decide +kernel
theorem dX1_placePart_114 : decode cX1_placePart 114 = .ok (.aload_n 0, 1) := by decide +kernel
theorem dX1_placePart_115 : decode cX1_placePart 115 = .ok (.getfield 20, 3) := by decide +kernel
theorem dX1_placePart_118 : decode cX1_placePart 118 = .ok (.iload_n 1, 1) := by decide +kernel
theorem dX1_placePart_119 : decode cX1_placePart 119 = .ok (.iconst 5, 1) := by decide +kernel
theorem dX1_placePart_120 : decode cX1_placePart 120 = .ok (.invokevirtual 49, 3) := by decide +kernel
theorem dX1_placePart_123 : decode cX1_placePart 123 = .ok (.invokestatic 89, 3) := by decide +kernel
theorem dX1_placePart_126 : decode cX1_placePart 126 = .ok (.ireturn, 1) := by decide +kernel
set_option maxRecDepth 20000 in
theorem ggX1_returnOf_X4_cell : GoodIn wsX1_returnOf wsX4_cell := goodIn_r _ [6, 7, 8, 9, 58, 59, 60] (by decide +kernel) (by decide +kernel)
set_option maxRecDepth 20000 in
theorem gX1_returnOf_X4_cell : GoodIn wsX1_returnOf (wsV RX1 49 RX4 yX4_cell wsX4_cell) := goodIn_app (goodIn_of _ (by decide +kernel)) ggX1_returnOf_X4_cell
set_option maxRecDepth 20000 in
theorem ggX1_returnOf_X1_runs : GoodIn wsX1_returnOf wsX1_runs := goodIn_r _ [14, 15, 2, 3, 4, 5, 6, 7, 8, 9, 52, 53, 54, 55, 56, 57, 58, 59, 60] (by decide +kernel) (by decide +kernel)
set_option maxRecDepth 20000 in
theorem gX1_returnOf_X1_runs : GoodIn wsX1_returnOf (wsV RX1 74 RX1 yX1_runs wsX1_runs) := goodIn_app (goodIn_of _ (by decide +kernel)) ggX1_returnOf_X1_runs
set_option maxRecDepth 20000 in
theorem ggX1_returnOf_X1_wholeStake : GoodIn wsX1_returnOf wsX1_wholeStake := goodIn_r _ [19, 1, 2, 3, 4, 5, 6, 7, 8, 9, 52, 53, 54, 55, 56, 57, 58, 59, 60] (by decide +kernel) (by decide +kernel)
set_option maxRecDepth 20000 in
theorem gX1_returnOf_X1_wholeStake : GoodIn wsX1_returnOf (wsV RX1 78 RX1 yX1_wholeStake wsX1_wholeStake) := goodIn_app (goodIn_of _ (by decide +kernel)) ggX1_returnOf_X1_wholeStake
set_option maxRecDepth 20000 in
theorem ggX1_returnOf_X1_winPart : GoodIn wsX1_returnOf wsX1_winPart := goodIn_r _ [23, 1, 2, 3, 4, 5, 6, 7, 8, 9, 24, 25, 26, 27, 28, 29, 30, 31, 32, 33, 34, 35, 36, 13, 37, 52, 53, 54, 55, 56, 57, 58, 59, 60, 61, 62, 63, 64, 65] (by decide +kernel) (by decide +kernel)
set_option maxRecDepth 20000 in
theorem gX1_returnOf_X1_winPart : GoodIn wsX1_returnOf (wsV RX1 96 RX1 yX1_winPart wsX1_winPart) := goodIn_app (goodIn_of _ (by decide +kernel)) ggX1_returnOf_X1_winPart
set_option maxRecDepth 20000 in
theorem ggX1_returnOf_X1_placePart : GoodIn wsX1_returnOf wsX1_placePart := goodIn_r _ [41, 1, 42, 43, 44, 45, 46, 2, 3, 4, 5, 6, 7, 8, 9, 47, 48, 49, 27, 50, 51, 24, 25, 26, 28, 29, 30, 31, 32, 33, 34, 35, 36, 13, 37, 52, 53, 54, 55, 56, 57, 58, 59, 60, 61, 62, 63, 64, 65] (by decide +kernel) (by decide +kernel)
set_option maxRecDepth 20000 in
theorem gX1_returnOf_X1_placePart : GoodIn wsX1_returnOf (wsV RX1 100 RX1 yX1_placePart wsX1_placePart) := goodIn_app (goodIn_of _ (by decide +kernel)) ggX1_returnOf_X1_placePart
theorem dX1_returnOf_0 : decode cX1_returnOf 0 = .ok (.aload_n 0, 1) := by decide +kernel
theorem dX1_returnOf_1 : decode cX1_returnOf 1 = .ok (.aload_n 0, 1) := by decide +kernel
theorem dX1_returnOf_2 : decode cX1_returnOf 2 = .ok (.getfield 20, 3) := by decide +kernel
theorem dX1_returnOf_5 : decode cX1_returnOf 5 = .ok (.iload_n 1, 1) := by decide +kernel
theorem dX1_returnOf_6 : decode cX1_returnOf 6 = .ok (.iconst 0, 1) := by decide +kernel
theorem dX1_returnOf_7 : decode cX1_returnOf 7 = .ok (.invokevirtual 49, 3) := by decide +kernel
theorem dX1_returnOf_10 : decode cX1_returnOf 10 = .ok (.invokevirtual 74, 3) := by decide +kernel
theorem dX1_returnOf_13 : decode cX1_returnOf 13 = .ok (.ifCond .ne 9, 3) := by decide +kernel
theorem dX1_returnOf_16 : decode cX1_returnOf 16 = .ok (.aload_n 0, 1) := by decide +kernel
theorem dX1_returnOf_17 : decode cX1_returnOf 17 = .ok (.iload_n 1, 1) := by decide +kernel
theorem dX1_returnOf_18 : decode cX1_returnOf 18 = .ok (.invokevirtual 78, 3) := by decide +kernel
theorem dX1_returnOf_21 : decode cX1_returnOf 21 = .ok (.ireturn, 1) := by decide +kernel
theorem dX1_returnOf_22 : decode cX1_returnOf 22 = .ok (.aload_n 0, 1) := by decide +kernel
theorem dX1_returnOf_23 : decode cX1_returnOf 23 = .ok (.iload_n 1, 1) := by decide +kernel
theorem dX1_returnOf_24 : decode cX1_returnOf 24 = .ok (.aload_n 2, 1) := by decide +kernel
theorem dX1_returnOf_25 : decode cX1_returnOf 25 = .ok (.invokevirtual 96, 3) := by decide +kernel
theorem dX1_returnOf_28 : decode cX1_returnOf 28 = .ok (.aload_n 0, 1) := by decide +kernel
theorem dX1_returnOf_29 : decode cX1_returnOf 29 = .ok (.iload_n 1, 1) := by decide +kernel
theorem dX1_returnOf_30 : decode cX1_returnOf 30 = .ok (.aload_n 2, 1) := by decide +kernel
theorem dX1_returnOf_31 : decode cX1_returnOf 31 = .ok (.invokevirtual 100, 3) := by decide +kernel
theorem dX1_returnOf_34 : decode cX1_returnOf 34 = .ok (.iadd, 1) := by decide +kernel
theorem dX1_returnOf_35 : decode cX1_returnOf 35 = .ok (.ireturn, 1) := by decide +kernel
set_option maxRecDepth 20000 in
theorem ggX1_reasonOf_X4_cell : GoodIn wsX1_reasonOf wsX4_cell := goodIn_r _ [6, 7, 8, 9, 54, 55, 56] (by decide +kernel) (by decide +kernel)
set_option maxRecDepth 20000 in
theorem gX1_reasonOf_X4_cell : GoodIn wsX1_reasonOf (wsV RX1 49 RX4 yX4_cell wsX4_cell) := goodIn_app (goodIn_of _ (by decide +kernel)) ggX1_reasonOf_X4_cell
set_option maxRecDepth 20000 in
theorem ggX1_reasonOf_X1_runs : GoodIn wsX1_reasonOf wsX1_runs := goodIn_r _ [14, 15, 2, 3, 4, 5, 6, 7, 8, 9, 48, 49, 50, 51, 52, 53, 54, 55, 56] (by decide +kernel) (by decide +kernel)
set_option maxRecDepth 20000 in
theorem gX1_reasonOf_X1_runs : GoodIn wsX1_reasonOf (wsV RX1 74 RX1 yX1_runs wsX1_runs) := goodIn_app (goodIn_of _ (by decide +kernel)) ggX1_reasonOf_X1_runs
set_option maxRecDepth 20000 in
theorem ggX1_reasonOf_X1_winPart : GoodIn wsX1_reasonOf wsX1_winPart := goodIn_r _ [19, 1, 2, 3, 4, 5, 6, 7, 8, 9, 20, 21, 22, 23, 24, 25, 26, 27, 28, 29, 30, 31, 32, 13, 33, 48, 49, 50, 51, 52, 53, 54, 55, 56, 57, 58, 59, 60, 61] (by decide +kernel) (by decide +kernel)
set_option maxRecDepth 20000 in
theorem gX1_reasonOf_X1_winPart : GoodIn wsX1_reasonOf (wsV RX1 96 RX1 yX1_winPart wsX1_winPart) := goodIn_app (goodIn_of _ (by decide +kernel)) ggX1_reasonOf_X1_winPart
set_option maxRecDepth 20000 in
theorem ggX1_reasonOf_X1_placePart : GoodIn wsX1_reasonOf wsX1_placePart := goodIn_r _ [37, 1, 38, 39, 40, 41, 42, 2, 3, 4, 5, 6, 7, 8, 9, 43, 44, 45, 23, 46, 47, 20, 21, 22, 24, 25, 26, 27, 28, 29, 30, 31, 32, 13, 33, 48, 49, 50, 51, 52, 53, 54, 55, 56, 57, 58, 59, 60, 61] (by decide +kernel) (by decide +kernel)
set_option maxRecDepth 20000 in
theorem gX1_reasonOf_X1_placePart : GoodIn wsX1_reasonOf (wsV RX1 100 RX1 yX1_placePart wsX1_placePart) := goodIn_app (goodIn_of _ (by decide +kernel)) ggX1_reasonOf_X1_placePart
set_option maxRecDepth 20000 in
theorem ggX1_reasonOf_X0_places : GoodIn wsX1_reasonOf wsX0_places := goodIn_r _ [46, 47, 57, 58, 59, 60, 61] (by decide +kernel) (by decide +kernel)
set_option maxRecDepth 20000 in
theorem gX1_reasonOf_X0_places : GoodIn wsX1_reasonOf (wsV RX1 93 RX0 yX0_places wsX0_places) := goodIn_app (goodIn_of _ (by decide +kernel)) ggX1_reasonOf_X0_places
theorem dX1_reasonOf_0 : decode cX1_reasonOf 0 = .ok (.aload_n 0, 1) := by decide +kernel
theorem dX1_reasonOf_1 : decode cX1_reasonOf 1 = .ok (.aload_n 0, 1) := by decide +kernel
theorem dX1_reasonOf_2 : decode cX1_reasonOf 2 = .ok (.getfield 20, 3) := by decide +kernel
theorem dX1_reasonOf_5 : decode cX1_reasonOf 5 = .ok (.iload_n 1, 1) := by decide +kernel
theorem dX1_reasonOf_6 : decode cX1_reasonOf 6 = .ok (.iconst 0, 1) := by decide +kernel
theorem dX1_reasonOf_7 : decode cX1_reasonOf 7 = .ok (.invokevirtual 49, 3) := by decide +kernel
theorem dX1_reasonOf_10 : decode cX1_reasonOf 10 = .ok (.invokevirtual 74, 3) := by decide +kernel
theorem dX1_reasonOf_13 : decode cX1_reasonOf 13 = .ok (.ifCond .ne 5, 3) := by decide +kernel
theorem dX1_reasonOf_16 : decode cX1_reasonOf 16 = .ok (.iconst 1, 1) := by decide +kernel
theorem dX1_reasonOf_17 : decode cX1_reasonOf 17 = .ok (.ireturn, 1) := by decide +kernel
theorem dX1_reasonOf_18 : decode cX1_reasonOf 18 = .ok (.aload_n 0, 1) := by decide +kernel
theorem dX1_reasonOf_19 : decode cX1_reasonOf 19 = .ok (.iload_n 1, 1) := by decide +kernel
theorem dX1_reasonOf_20 : decode cX1_reasonOf 20 = .ok (.aload_n 2, 1) := by decide +kernel
theorem dX1_reasonOf_21 : decode cX1_reasonOf 21 = .ok (.invokevirtual 96, 3) := by decide +kernel
theorem dX1_reasonOf_24 : decode cX1_reasonOf 24 = .ok (.ifCond .le 5, 3) := by decide +kernel
theorem dX1_reasonOf_27 : decode cX1_reasonOf 27 = .ok (.iconst 2, 1) := by decide +kernel
theorem dX1_reasonOf_28 : decode cX1_reasonOf 28 = .ok (.ireturn, 1) := by decide +kernel
theorem dX1_reasonOf_29 : decode cX1_reasonOf 29 = .ok (.aload_n 0, 1) := by decide +kernel
theorem dX1_reasonOf_30 : decode cX1_reasonOf 30 = .ok (.iload_n 1, 1) := by decide +kernel
theorem dX1_reasonOf_31 : decode cX1_reasonOf 31 = .ok (.aload_n 2, 1) := by decide +kernel
theorem dX1_reasonOf_32 : decode cX1_reasonOf 32 = .ok (.invokevirtual 100, 3) := by decide +kernel
theorem dX1_reasonOf_35 : decode cX1_reasonOf 35 = .ok (.ifCond .ne 5, 3) := by decide +kernel
theorem dX1_reasonOf_38 : decode cX1_reasonOf 38 = .ok (.iconst 0, 1) := by decide +kernel
theorem dX1_reasonOf_39 : decode cX1_reasonOf 39 = .ok (.ireturn, 1) := by decide +kernel
theorem dX1_reasonOf_40 : decode cX1_reasonOf 40 = .ok (.aload_n 2, 1) := by decide +kernel
theorem dX1_reasonOf_41 : decode cX1_reasonOf 41 = .ok (.invokevirtual 93, 3) := by decide +kernel
theorem dX1_reasonOf_44 : decode cX1_reasonOf 44 = .ok (.ifCond .ne 7, 3) := by decide +kernel
theorem dX1_reasonOf_47 : decode cX1_reasonOf 47 = .ok (.iconst 4, 1) := by decide +kernel
theorem dX1_reasonOf_48 : decode cX1_reasonOf 48 = .ok (.goto 4, 3) := by decide +kernel
theorem dX1_reasonOf_51 : decode cX1_reasonOf 51 = .ok (.iconst 3, 1) := by decide +kernel
theorem dX1_reasonOf_52 : decode cX1_reasonOf 52 = .ok (.ireturn, 1) := by decide +kernel
set_option maxRecDepth 20000 in
theorem ggX1_returnOfLaid_X4_cell : GoodIn wsX1_returnOfLaid wsX4_cell := goodIn_r _ [6, 7, 8, 9, 36, 37, 38] (by decide +kernel) (by decide +kernel)
set_option maxRecDepth 20000 in
theorem gX1_returnOfLaid_X4_cell : GoodIn wsX1_returnOfLaid (wsV RX1 49 RX4 yX4_cell wsX4_cell) := goodIn_app (goodIn_of _ (by decide +kernel)) ggX1_returnOfLaid_X4_cell
set_option maxRecDepth 20000 in
theorem ggX1_returnOfLaid_X1_runs : GoodIn wsX1_returnOfLaid wsX1_runs := goodIn_r _ [14, 15, 2, 3, 4, 5, 6, 7, 8, 9, 30, 31, 32, 33, 34, 35, 36, 37, 38] (by decide +kernel) (by decide +kernel)
set_option maxRecDepth 20000 in
theorem gX1_returnOfLaid_X1_runs : GoodIn wsX1_returnOfLaid (wsV RX1 74 RX1 yX1_runs wsX1_runs) := goodIn_app (goodIn_of _ (by decide +kernel)) ggX1_returnOfLaid_X1_runs
set_option maxRecDepth 20000 in
theorem ggX1_returnOfLaid_X0_groupOf : GoodIn wsX1_returnOfLaid wsX0_groupOf := goodIn_r _ [20, 21, 39, 40, 41, 42, 43] (by decide +kernel) (by decide +kernel)
set_option maxRecDepth 20000 in
theorem gX1_returnOfLaid_X0_groupOf : GoodIn wsX1_returnOfLaid (wsV RX1 81 RX0 yX0_groupOf wsX0_groupOf) := goodIn_app (goodIn_of _ (by decide +kernel)) ggX1_returnOfLaid_X0_groupOf
set_option maxRecDepth 20000 in
theorem ggX1_returnOfLaid_X0_placeOf : GoodIn wsX1_returnOfLaid wsX0_placeOf := goodIn_r _ [25, 26, 39, 40, 41, 42, 43] (by decide +kernel) (by decide +kernel)
set_option maxRecDepth 20000 in
theorem gX1_returnOfLaid_X0_placeOf : GoodIn wsX1_returnOfLaid (wsV RX1 86 RX0 yX0_placeOf wsX0_placeOf) := goodIn_app (goodIn_of _ (by decide +kernel)) ggX1_returnOfLaid_X0_placeOf
set_option maxRecDepth 20000 in
theorem ggX1_returnOfLaid_X1_paid : GoodIn wsX1_returnOfLaid wsX1_paid := goodIn_r _ [29] (by decide +kernel) (by decide +kernel)
set_option maxRecDepth 20000 in
theorem gX1_returnOfLaid_X1_paid : GoodIn wsX1_returnOfLaid (va_wsS RX1 89 yX1_paid wsX1_paid) := goodIn_app (goodIn_of _ (by decide +kernel)) ggX1_returnOfLaid_X1_paid
theorem dX1_returnOfLaid_0 : decode cX1_returnOfLaid 0 = .ok (.aload_n 0, 1) := by decide +kernel
theorem dX1_returnOfLaid_1 : decode cX1_returnOfLaid 1 = .ok (.getfield 23, 3) := by decide +kernel
theorem dX1_returnOfLaid_4 : decode cX1_returnOfLaid 4 = .ok (.iload_n 1, 1) := by decide +kernel
theorem dX1_returnOfLaid_5 : decode cX1_returnOfLaid 5 = .ok (.iconst 0, 1) := by decide +kernel
theorem dX1_returnOfLaid_6 : decode cX1_returnOfLaid 6 = .ok (.invokevirtual 49, 3) := by decide +kernel
theorem dX1_returnOfLaid_9 : decode cX1_returnOfLaid 9 = .ok (.istore_n 3, 1) := by decide +kernel
theorem dX1_returnOfLaid_10 : decode cX1_returnOfLaid 10 = .ok (.aload_n 0, 1) := by decide +kernel
theorem dX1_returnOfLaid_11 : decode cX1_returnOfLaid 11 = .ok (.getfield 23, 3) := by decide +kernel
theorem dX1_returnOfLaid_14 : decode cX1_returnOfLaid 14 = .ok (.iload_n 1, 1) := by decide +kernel
theorem dX1_returnOfLaid_15 : decode cX1_returnOfLaid 15 = .ok (.iconst 1, 1) := by decide +kernel
theorem dX1_returnOfLaid_16 : decode cX1_returnOfLaid 16 = .ok (.invokevirtual 49, 3) := by decide +kernel
theorem dX1_returnOfLaid_19 : decode cX1_returnOfLaid 19 = .ok (.istore 4, 2) := by decide +kernel
theorem dX1_returnOfLaid_21 : decode cX1_returnOfLaid 21 = .ok (.aload_n 0, 1) := by decide +kernel
theorem dX1_returnOfLaid_22 : decode cX1_returnOfLaid 22 = .ok (.iload_n 3, 1) := by decide +kernel
theorem dX1_returnOfLaid_23 : decode cX1_returnOfLaid 23 = .ok (.invokevirtual 74, 3) := by decide +kernel
theorem dX1_returnOfLaid_26 : decode cX1_returnOfLaid 26 = .ok (.ifCond .ne 6, 3) := by decide +kernel
theorem dX1_returnOfLaid_29 : decode cX1_returnOfLaid 29 = .ok (.iload 4, 2) := by decide +kernel
theorem dX1_returnOfLaid_31 : decode cX1_returnOfLaid 31 = .ok (.ireturn, 1) := by decide +kernel
theorem dX1_returnOfLaid_32 : decode cX1_returnOfLaid 32 = .ok (.aload_n 2, 1) := by decide +kernel
theorem dX1_returnOfLaid_33 : decode cX1_returnOfLaid 33 = .ok (.iload_n 3, 1) := by decide +kernel
theorem dX1_returnOfLaid_34 : decode cX1_returnOfLaid 34 = .ok (.invokevirtual 81, 3) := by decide +kernel
theorem dX1_returnOfLaid_37 : decode cX1_returnOfLaid 37 = .ok (.istore 5, 2) := by decide +kernel
theorem dX1_returnOfLaid_39 : decode cX1_returnOfLaid 39 = .ok (.aload_n 2, 1) := by decide +kernel
theorem dX1_returnOfLaid_40 : decode cX1_returnOfLaid 40 = .ok (.iload_n 3, 1) := by decide +kernel
theorem dX1_returnOfLaid_41 : decode cX1_returnOfLaid 41 = .ok (.invokevirtual 86, 3) := by decide +kernel
theorem dX1_returnOfLaid_44 : decode cX1_returnOfLaid 44 = .ok (.iconst 1, 1) := by decide +kernel
theorem dX1_returnOfLaid_45 : decode cX1_returnOfLaid 45 = .ok (.if_icmp .ne 8, 3) := by decide +kernel
theorem dX1_returnOfLaid_48 : decode cX1_returnOfLaid 48 = .ok (.iload 5, 2) := by decide +kernel
theorem dX1_returnOfLaid_50 : decode cX1_returnOfLaid 50 = .ok (.ifCond .gt 5, 3) := by decide +kernel
theorem dX1_returnOfLaid_53 : decode cX1_returnOfLaid 53 = .ok (.iconst 0, 1) := by decide +kernel
theorem dX1_returnOfLaid_54 : decode cX1_returnOfLaid 54 = .ok (.ireturn, 1) := by decide +kernel
theorem dX1_returnOfLaid_55 : decode cX1_returnOfLaid 55 = .ok (.iload 4, 2) := by decide +kernel
theorem dX1_returnOfLaid_57 : decode cX1_returnOfLaid 57 = .ok (.iload 5, 2) := by decide +kernel
theorem dX1_returnOfLaid_59 : decode cX1_returnOfLaid 59 = .ok (.idiv, 1) := by decide +kernel
theorem dX1_returnOfLaid_60 : decode cX1_returnOfLaid 60 = .ok (.aload_n 0, 1) := by decide +kernel
theorem dX1_returnOfLaid_61 : decode cX1_returnOfLaid 61 = .ok (.getfield 23, 3) := by decide +kernel
theorem dX1_returnOfLaid_64 : decode cX1_returnOfLaid 64 = .ok (.iload_n 1, 1) := by decide +kernel
theorem dX1_returnOfLaid_65 : decode cX1_returnOfLaid 65 = .ok (.iconst 2, 1) := by decide +kernel
theorem dX1_returnOfLaid_66 : decode cX1_returnOfLaid 66 = .ok (.invokevirtual 49, 3) := by decide +kernel
theorem dX1_returnOfLaid_69 : decode cX1_returnOfLaid 69 = .ok (.aload_n 0, 1) := by decide +kernel
theorem dX1_returnOfLaid_70 : decode cX1_returnOfLaid 70 = .ok (.getfield 23, 3) := by decide +kernel
theorem dX1_returnOfLaid_73 : decode cX1_returnOfLaid 73 = .ok (.iload_n 1, 1) := by decide +kernel
theorem dX1_returnOfLaid_74 : decode cX1_returnOfLaid 74 = .ok (.iconst 3, 1) := by decide +kernel
theorem dX1_returnOfLaid_75 : decode cX1_returnOfLaid 75 = .ok (.invokevirtual 49, 3) := by decide +kernel
theorem dX1_returnOfLaid_78 : decode cX1_returnOfLaid 78 = .ok (.iconst 0, 1) := by decide +kernel
theorem dX1_returnOfLaid_79 : decode cX1_returnOfLaid 79 = .ok (.invokestatic 89, 3) := by decide +kernel
theorem dX1_returnOfLaid_82 : decode cX1_returnOfLaid 82 = .ok (.ireturn, 1) := by decide +kernel
set_option maxRecDepth 20000 in
theorem ggX1_wouldWin_X1_stakes : GoodIn wsX1_wouldWin wsX1_stakes := goodIn_r _ [8, 3, 9, 10, 11, 12, 13, 14, 15, 16, 17, 7, 18, 19, 20, 21, 22, 23, 24, 75, 76, 77, 78, 79, 80, 81, 82, 83] (by decide +kernel) (by decide +kernel)
set_option maxRecDepth 20000 in
theorem gX1_wouldWin_X1_stakes : GoodIn wsX1_wouldWin (wsV RX1 104 RX1 yX1_stakes wsX1_stakes) := goodIn_app (goodIn_of _ (by decide +kernel)) ggX1_wouldWin_X1_stakes
set_option maxRecDepth 20000 in
theorem ggX1_wouldWin_X4_sum : GoodIn wsX1_wouldWin wsX4_sum := goodIn_r _ [28, 14, 29, 20, 21, 12, 22, 23, 24, 81, 82, 83] (by decide +kernel) (by decide +kernel)
set_option maxRecDepth 20000 in
theorem gX1_wouldWin_X4_sum : GoodIn wsX1_wouldWin (wsV RX1 67 RX4 yX4_sum wsX4_sum) := goodIn_app (goodIn_of _ (by decide +kernel)) ggX1_wouldWin_X4_sum
set_option maxRecDepth 20000 in
theorem ggX1_wouldWin_X4_size : GoodIn wsX1_wouldWin wsX4_size := goodIn_r _ [13, 14, 81, 82, 83] (by decide +kernel) (by decide +kernel)
set_option maxRecDepth 20000 in
theorem gX1_wouldWin_X4_size : GoodIn wsX1_wouldWin (wsV RX1 64 RX4 yX4_size wsX4_size) := goodIn_app (goodIn_of _ (by decide +kernel)) ggX1_wouldWin_X4_size
set_option maxRecDepth 20000 in
theorem ggX1_wouldWin_X1_returnOf : GoodIn wsX1_wouldWin wsX1_returnOf := goodIn_r _ [33, 3, 19, 20, 21, 12, 22, 23, 14, 24, 34, 35, 36, 7, 37, 38, 15, 16, 17, 18, 39, 40, 41, 42, 43, 44, 45, 46, 47, 48, 49, 50, 51, 52, 53, 54, 55, 56, 57, 58, 59, 60, 61, 62, 63, 64, 65, 66, 67, 68, 69, 70, 75, 76, 77, 78, 79, 80, 81, 82, 83, 84, 85, 86, 87, 88] (by decide +kernel) (by decide +kernel)
set_option maxRecDepth 20000 in
theorem gX1_wouldWin_X1_returnOf : GoodIn wsX1_wouldWin (wsV RX1 107 RX1 yX1_returnOf wsX1_returnOf) := goodIn_app (goodIn_of _ (by decide +kernel)) ggX1_wouldWin_X1_returnOf
set_option maxRecDepth 20000 in
theorem ggX1_wouldWin_X1_returnOfLaid : GoodIn wsX1_wouldWin wsX1_returnOfLaid := goodIn_r _ [74, 2, 19, 20, 21, 12, 22, 23, 14, 24, 34, 35, 36, 7, 37, 38, 43, 44, 45, 46, 47, 48, 49, 50, 51, 52, 53, 54, 55, 56, 75, 76, 77, 78, 79, 80, 81, 82, 83, 84, 85, 86, 87, 88] (by decide +kernel) (by decide +kernel)
set_option maxRecDepth 20000 in
theorem gX1_wouldWin_X1_returnOfLaid : GoodIn wsX1_wouldWin (wsV RX1 110 RX1 yX1_returnOfLaid wsX1_returnOfLaid) := goodIn_app (goodIn_of _ (by decide +kernel)) ggX1_wouldWin_X1_returnOfLaid
theorem dX1_wouldWin_0 : decode cX1_wouldWin 0 = .ok (.ldc 103, 2) := by decide +kernel
theorem dX1_wouldWin_2 : decode cX1_wouldWin 2 = .ok (.aload_n 0, 1) := by decide +kernel
theorem dX1_wouldWin_3 : decode cX1_wouldWin 3 = .ok (.invokevirtual 104, 3) := by decide +kernel
theorem dX1_wouldWin_6 : decode cX1_wouldWin 6 = .ok (.iadd, 1) := by decide +kernel
theorem dX1_wouldWin_7 : decode cX1_wouldWin 7 = .ok (.aload_n 0, 1) := by decide +kernel
theorem dX1_wouldWin_8 : decode cX1_wouldWin 8 = .ok (.getfield 23, 3) := by decide +kernel
theorem dX1_wouldWin_11 : decode cX1_wouldWin 11 = .ok (.iconst 1, 1) := by decide +kernel
theorem dX1_wouldWin_12 : decode cX1_wouldWin 12 = .ok (.invokevirtual 67, 3) := by decide +kernel
theorem dX1_wouldWin_15 : decode cX1_wouldWin 15 = .ok (.isub, 1) := by decide +kernel
theorem dX1_wouldWin_16 : decode cX1_wouldWin 16 = .ok (.istore_n 2, 1) := by decide +kernel
theorem dX1_wouldWin_17 : decode cX1_wouldWin 17 = .ok (.iconst 0, 1) := by decide +kernel
theorem dX1_wouldWin_18 : decode cX1_wouldWin 18 = .ok (.istore_n 3, 1) := by decide +kernel
theorem dX1_wouldWin_19 : decode cX1_wouldWin 19 = .ok (.iload_n 3, 1) := by decide +kernel
theorem dX1_wouldWin_20 : decode cX1_wouldWin 20 = .ok (.aload_n 0, 1) := by decide +kernel
theorem dX1_wouldWin_21 : decode cX1_wouldWin 21 = .ok (.getfield 20, 3) := by decide +kernel
theorem dX1_wouldWin_24 : decode cX1_wouldWin 24 = .ok (.invokevirtual 64, 3) := by decide +kernel
theorem dX1_wouldWin_27 : decode cX1_wouldWin 27 = .ok (.if_icmp .ge 18, 3) := by decide +kernel
theorem dX1_wouldWin_30 : decode cX1_wouldWin 30 = .ok (.iload_n 2, 1) := by decide +kernel
theorem dX1_wouldWin_31 : decode cX1_wouldWin 31 = .ok (.aload_n 0, 1) := by decide +kernel
theorem dX1_wouldWin_32 : decode cX1_wouldWin 32 = .ok (.iload_n 3, 1) := by decide +kernel
theorem dX1_wouldWin_33 : decode cX1_wouldWin 33 = .ok (.aload_n 1, 1) := by decide +kernel
theorem dX1_wouldWin_34 : decode cX1_wouldWin 34 = .ok (.invokevirtual 107, 3) := by decide +kernel
theorem dX1_wouldWin_37 : decode cX1_wouldWin 37 = .ok (.isub, 1) := by decide +kernel
theorem dX1_wouldWin_38 : decode cX1_wouldWin 38 = .ok (.istore_n 2, 1) := by decide +kernel
theorem dX1_wouldWin_39 : decode cX1_wouldWin 39 = .ok (.iinc 3 1, 3) := by decide +kernel
theorem dX1_wouldWin_42 : decode cX1_wouldWin 42 = .ok (.goto (-23), 3) := by decide +kernel
theorem dX1_wouldWin_45 : decode cX1_wouldWin 45 = .ok (.iconst 0, 1) := by decide +kernel
theorem dX1_wouldWin_46 : decode cX1_wouldWin 46 = .ok (.istore_n 3, 1) := by decide +kernel
theorem dX1_wouldWin_47 : decode cX1_wouldWin 47 = .ok (.iload_n 3, 1) := by decide +kernel
theorem dX1_wouldWin_48 : decode cX1_wouldWin 48 = .ok (.aload_n 0, 1) := by decide +kernel
theorem dX1_wouldWin_49 : decode cX1_wouldWin 49 = .ok (.getfield 23, 3) := by decide +kernel
theorem dX1_wouldWin_52 : decode cX1_wouldWin 52 = .ok (.invokevirtual 64, 3) := by decide +kernel
theorem dX1_wouldWin_55 : decode cX1_wouldWin 55 = .ok (.if_icmp .ge 18, 3) := by decide +kernel
theorem dX1_wouldWin_58 : decode cX1_wouldWin 58 = .ok (.iload_n 2, 1) := by decide +kernel
theorem dX1_wouldWin_59 : decode cX1_wouldWin 59 = .ok (.aload_n 0, 1) := by decide +kernel
theorem dX1_wouldWin_60 : decode cX1_wouldWin 60 = .ok (.iload_n 3, 1) := by decide +kernel
theorem dX1_wouldWin_61 : decode cX1_wouldWin 61 = .ok (.aload_n 1, 1) := by decide +kernel
theorem dX1_wouldWin_62 : decode cX1_wouldWin 62 = .ok (.invokevirtual 110, 3) := by decide +kernel
theorem dX1_wouldWin_65 : decode cX1_wouldWin 65 = .ok (.iadd, 1) := by decide +kernel
theorem dX1_wouldWin_66 : decode cX1_wouldWin 66 = .ok (.istore_n 2, 1) := by decide +kernel
theorem dX1_wouldWin_67 : decode cX1_wouldWin 67 = .ok (.iinc 3 1, 3) := by decide +kernel
theorem dX1_wouldWin_70 : decode cX1_wouldWin 70 = .ok (.goto (-23), 3) := by decide +kernel
theorem dX1_wouldWin_73 : decode cX1_wouldWin 73 = .ok (.iload_n 2, 1) := by decide +kernel
theorem dX1_wouldWin_74 : decode cX1_wouldWin 74 = .ok (.ireturn, 1) := by decide +kernel
set_option maxRecDepth 20000 in
theorem ggX1_settleBy_X4_size : GoodIn wsX1_settleBy wsX4_size := goodIn_r _ [9, 10, 80, 81, 82] (by decide +kernel) (by decide +kernel)
set_option maxRecDepth 20000 in
theorem gX1_settleBy_X4_size : GoodIn wsX1_settleBy (wsV RX1 64 RX4 yX4_size wsX4_size) := goodIn_app (goodIn_of _ (by decide +kernel)) ggX1_settleBy_X4_size
set_option maxRecDepth 20000 in
theorem ggX1_settleBy_X0_placeOf : GoodIn wsX1_settleBy wsX0_placeOf := goodIn_r _ [15, 16, 83, 84, 85, 86, 87] (by decide +kernel) (by decide +kernel)
set_option maxRecDepth 20000 in
theorem gX1_settleBy_X0_placeOf : GoodIn wsX1_settleBy (wsV RX1 86 RX0 yX0_placeOf wsX0_placeOf) := goodIn_app (goodIn_of _ (by decide +kernel)) ggX1_settleBy_X0_placeOf
set_option maxRecDepth 20000 in
theorem ggX1_settleBy_X4_put : GoodIn wsX1_settleBy wsX4_put := goodIn_r _ [20, 21, 10, 22, 80, 81, 82] (by decide +kernel) (by decide +kernel)
set_option maxRecDepth 20000 in
theorem gX1_settleBy_X4_put : GoodIn wsX1_settleBy (wsV RX1 45 RX4 yX4_put wsX4_put) := goodIn_app (goodIn_of _ (by decide +kernel)) ggX1_settleBy_X4_put
set_option maxRecDepth 20000 in
theorem ggX1_settleBy_X0_groupOf : GoodIn wsX1_settleBy wsX0_groupOf := goodIn_r _ [26, 27, 83, 84, 85, 86, 87] (by decide +kernel) (by decide +kernel)
set_option maxRecDepth 20000 in
theorem gX1_settleBy_X0_groupOf : GoodIn wsX1_settleBy (wsV RX1 81 RX0 yX0_groupOf wsX0_groupOf) := goodIn_app (goodIn_of _ (by decide +kernel)) ggX1_settleBy_X0_groupOf
set_option maxRecDepth 20000 in
theorem ggX1_settleBy_X1_returnOf : GoodIn wsX1_settleBy wsX1_returnOf := goodIn_r _ [32, 2, 33, 34, 35, 8, 36, 21, 10, 22, 37, 38, 39, 31, 40, 1, 41, 42, 43, 44, 45, 46, 47, 48, 23, 24, 25, 14, 26, 27, 11, 12, 13, 15, 16, 49, 50, 51, 52, 53, 54, 55, 56, 57, 58, 59, 60, 61, 62, 63, 64, 65, 74, 75, 76, 77, 78, 79, 80, 81, 82, 83, 84, 85, 86, 87] (by decide +kernel) (by decide +kernel)
set_option maxRecDepth 20000 in
theorem gX1_settleBy_X1_returnOf : GoodIn wsX1_settleBy (wsV RX1 107 RX1 yX1_returnOf wsX1_returnOf) := goodIn_app (goodIn_of _ (by decide +kernel)) ggX1_settleBy_X1_returnOf
set_option maxRecDepth 20000 in
theorem ggX1_settleBy_X1_reasonOf : GoodIn wsX1_settleBy wsX1_reasonOf := goodIn_r _ [69, 2, 33, 34, 35, 8, 36, 21, 10, 22, 37, 38, 39, 31, 40, 1, 45, 46, 47, 48, 23, 24, 25, 14, 26, 27, 11, 12, 13, 15, 16, 49, 50, 51, 52, 53, 54, 55, 56, 57, 58, 59, 60, 61, 62, 63, 64, 65, 74, 75, 76, 77, 78, 79, 80, 81, 82, 83, 84, 85, 86, 87] (by decide +kernel) (by decide +kernel)
set_option maxRecDepth 20000 in
theorem gX1_settleBy_X1_reasonOf : GoodIn wsX1_settleBy (wsV RX1 113 RX1 yX1_reasonOf wsX1_reasonOf) := goodIn_app (goodIn_of _ (by decide +kernel)) ggX1_settleBy_X1_reasonOf
set_option maxRecDepth 20000 in
theorem ggX1_settleBy_X1_returnOfLaid : GoodIn wsX1_settleBy wsX1_returnOfLaid := goodIn_r _ [73, 3, 33, 34, 35, 8, 36, 21, 10, 22, 37, 38, 39, 31, 40, 1, 23, 24, 25, 14, 26, 27, 11, 12, 13, 15, 16, 49, 50, 51, 74, 75, 76, 77, 78, 79, 80, 81, 82, 83, 84, 85, 86, 87] (by decide +kernel) (by decide +kernel)
set_option maxRecDepth 20000 in
theorem gX1_settleBy_X1_returnOfLaid : GoodIn wsX1_settleBy (wsV RX1 110 RX1 yX1_returnOfLaid wsX1_returnOfLaid) := goodIn_app (goodIn_of _ (by decide +kernel)) ggX1_settleBy_X1_returnOfLaid
theorem dX1_settleBy_0 : decode cX1_settleBy 0 = .ok (.iconst 0, 1) := by decide +kernel
theorem dX1_settleBy_1 : decode cX1_settleBy 1 = .ok (.istore_n 2, 1) := by decide +kernel
theorem dX1_settleBy_2 : decode cX1_settleBy 2 = .ok (.iload_n 2, 1) := by decide +kernel
theorem dX1_settleBy_3 : decode cX1_settleBy 3 = .ok (.aload_n 0, 1) := by decide +kernel
theorem dX1_settleBy_4 : decode cX1_settleBy 4 = .ok (.getfield 14, 3) := by decide +kernel
theorem dX1_settleBy_7 : decode cX1_settleBy 7 = .ok (.invokevirtual 64, 3) := by decide +kernel
theorem dX1_settleBy_10 : decode cX1_settleBy 10 = .ok (.if_icmp .ge 39, 3) := by decide +kernel
theorem dX1_settleBy_13 : decode cX1_settleBy 13 = .ok (.aload_n 0, 1) := by decide +kernel
theorem dX1_settleBy_14 : decode cX1_settleBy 14 = .ok (.getfield 14, 3) := by decide +kernel
theorem dX1_settleBy_17 : decode cX1_settleBy 17 = .ok (.iload_n 2, 1) := by decide +kernel
theorem dX1_settleBy_18 : decode cX1_settleBy 18 = .ok (.bipush 7, 2) := by decide +kernel
theorem dX1_settleBy_20 : decode cX1_settleBy 20 = .ok (.aload_n 1, 1) := by decide +kernel
theorem dX1_settleBy_21 : decode cX1_settleBy 21 = .ok (.iload_n 2, 1) := by decide +kernel
theorem dX1_settleBy_22 : decode cX1_settleBy 22 = .ok (.invokevirtual 86, 3) := by decide +kernel
theorem dX1_settleBy_25 : decode cX1_settleBy 25 = .ok (.invokevirtual 45, 3) := by decide +kernel
theorem dX1_settleBy_28 : decode cX1_settleBy 28 = .ok (.aload_n 0, 1) := by decide +kernel
theorem dX1_settleBy_29 : decode cX1_settleBy 29 = .ok (.getfield 14, 3) := by decide +kernel
theorem dX1_settleBy_32 : decode cX1_settleBy 32 = .ok (.iload_n 2, 1) := by decide +kernel
theorem dX1_settleBy_33 : decode cX1_settleBy 33 = .ok (.bipush 8, 2) := by decide +kernel
theorem dX1_settleBy_35 : decode cX1_settleBy 35 = .ok (.aload_n 1, 1) := by decide +kernel
theorem dX1_settleBy_36 : decode cX1_settleBy 36 = .ok (.iload_n 2, 1) := by decide +kernel
theorem dX1_settleBy_37 : decode cX1_settleBy 37 = .ok (.invokevirtual 81, 3) := by decide +kernel
theorem dX1_settleBy_40 : decode cX1_settleBy 40 = .ok (.invokevirtual 45, 3) := by decide +kernel
theorem dX1_settleBy_43 : decode cX1_settleBy 43 = .ok (.iinc 2 1, 3) := by decide +kernel
theorem dX1_settleBy_46 : decode cX1_settleBy 46 = .ok (.goto (-44), 3) := by decide +kernel
theorem dX1_settleBy_49 : decode cX1_settleBy 49 = .ok (.iconst 0, 1) := by decide +kernel
theorem dX1_settleBy_50 : decode cX1_settleBy 50 = .ok (.istore_n 2, 1) := by decide +kernel
theorem dX1_settleBy_51 : decode cX1_settleBy 51 = .ok (.iload_n 2, 1) := by decide +kernel
theorem dX1_settleBy_52 : decode cX1_settleBy 52 = .ok (.aload_n 0, 1) := by decide +kernel
theorem dX1_settleBy_53 : decode cX1_settleBy 53 = .ok (.getfield 20, 3) := by decide +kernel
theorem dX1_settleBy_56 : decode cX1_settleBy 56 = .ok (.invokevirtual 64, 3) := by decide +kernel
theorem dX1_settleBy_59 : decode cX1_settleBy 59 = .ok (.if_icmp .ge 41, 3) := by decide +kernel
theorem dX1_settleBy_62 : decode cX1_settleBy 62 = .ok (.aload_n 0, 1) := by decide +kernel
theorem dX1_settleBy_63 : decode cX1_settleBy 63 = .ok (.getfield 20, 3) := by decide +kernel
theorem dX1_settleBy_66 : decode cX1_settleBy 66 = .ok (.iload_n 2, 1) := by decide +kernel
theorem dX1_settleBy_67 : decode cX1_settleBy 67 = .ok (.bipush 6, 2) := by decide +kernel
theorem dX1_settleBy_69 : decode cX1_settleBy 69 = .ok (.aload_n 0, 1) := by decide +kernel
theorem dX1_settleBy_70 : decode cX1_settleBy 70 = .ok (.iload_n 2, 1) := by decide +kernel
theorem dX1_settleBy_71 : decode cX1_settleBy 71 = .ok (.aload_n 1, 1) := by decide +kernel
theorem dX1_settleBy_72 : decode cX1_settleBy 72 = .ok (.invokevirtual 107, 3) := by decide +kernel
theorem dX1_settleBy_75 : decode cX1_settleBy 75 = .ok (.invokevirtual 45, 3) := by decide +kernel
theorem dX1_settleBy_78 : decode cX1_settleBy 78 = .ok (.aload_n 0, 1) := by decide +kernel
theorem dX1_settleBy_79 : decode cX1_settleBy 79 = .ok (.getfield 20, 3) := by decide +kernel
theorem dX1_settleBy_82 : decode cX1_settleBy 82 = .ok (.iload_n 2, 1) := by decide +kernel
theorem dX1_settleBy_83 : decode cX1_settleBy 83 = .ok (.bipush 7, 2) := by decide +kernel
theorem dX1_settleBy_85 : decode cX1_settleBy 85 = .ok (.aload_n 0, 1) := by decide +kernel
theorem dX1_settleBy_86 : decode cX1_settleBy 86 = .ok (.iload_n 2, 1) := by decide +kernel
theorem dX1_settleBy_87 : decode cX1_settleBy 87 = .ok (.aload_n 1, 1) := by decide +kernel
theorem dX1_settleBy_88 : decode cX1_settleBy 88 = .ok (.invokevirtual 113, 3) := by decide +kernel
theorem dX1_settleBy_91 : decode cX1_settleBy 91 = .ok (.invokevirtual 45, 3) := by decide +kernel
theorem dX1_settleBy_94 : decode cX1_settleBy 94 = .ok (.iinc 2 1, 3) := by decide +kernel
theorem dX1_settleBy_97 : decode cX1_settleBy 97 = .ok (.goto (-46), 3) := by decide +kernel
theorem dX1_settleBy_100 : decode cX1_settleBy 100 = .ok (.iconst 0, 1) := by decide +kernel
theorem dX1_settleBy_101 : decode cX1_settleBy 101 = .ok (.istore_n 2, 1) := by decide +kernel
theorem dX1_settleBy_102 : decode cX1_settleBy 102 = .ok (.iload_n 2, 1) := by decide +kernel
theorem dX1_settleBy_103 : decode cX1_settleBy 103 = .ok (.aload_n 0, 1) := by decide +kernel
theorem dX1_settleBy_104 : decode cX1_settleBy 104 = .ok (.getfield 23, 3) := by decide +kernel
theorem dX1_settleBy_107 : decode cX1_settleBy 107 = .ok (.invokevirtual 64, 3) := by decide +kernel
theorem dX1_settleBy_110 : decode cX1_settleBy 110 = .ok (.if_icmp .ge 24, 3) := by decide +kernel
theorem dX1_settleBy_113 : decode cX1_settleBy 113 = .ok (.aload_n 0, 1) := by decide +kernel
theorem dX1_settleBy_114 : decode cX1_settleBy 114 = .ok (.getfield 23, 3) := by decide +kernel
theorem dX1_settleBy_117 : decode cX1_settleBy 117 = .ok (.iload_n 2, 1) := by decide +kernel
theorem dX1_settleBy_118 : decode cX1_settleBy 118 = .ok (.iconst 4, 1) := by decide +kernel
theorem dX1_settleBy_119 : decode cX1_settleBy 119 = .ok (.aload_n 0, 1) := by decide +kernel
theorem dX1_settleBy_120 : decode cX1_settleBy 120 = .ok (.iload_n 2, 1) := by decide +kernel
theorem dX1_settleBy_121 : decode cX1_settleBy 121 = .ok (.aload_n 1, 1) := by decide +kernel
theorem dX1_settleBy_122 : decode cX1_settleBy 122 = .ok (.invokevirtual 110, 3) := by decide +kernel
theorem dX1_settleBy_125 : decode cX1_settleBy 125 = .ok (.invokevirtual 45, 3) := by decide +kernel
theorem dX1_settleBy_128 : decode cX1_settleBy 128 = .ok (.iinc 2 1, 3) := by decide +kernel
theorem dX1_settleBy_131 : decode cX1_settleBy 131 = .ok (.goto (-29), 3) := by decide +kernel
theorem dX1_settleBy_134 : decode cX1_settleBy 134 = .ok (.aload_n 0, 1) := by decide +kernel
theorem dX1_settleBy_135 : decode cX1_settleBy 135 = .ok (.iconst 1, 1) := by decide +kernel
theorem dX1_settleBy_136 : decode cX1_settleBy 136 = .ok (.putfield 37, 3) := by decide +kernel
theorem dX1_settleBy_139 : decode cX1_settleBy 139 = .ok (.return_, 1) := by decide +kernel
set_option maxRecDepth 20000 in
theorem ggX1_won_X1_stakes : GoodIn wsX1_won wsX1_stakes := goodIn_r _ [8, 1, 9, 10, 11, 12, 13, 14, 15, 16, 17, 7, 18, 19, 20, 21, 22, 23, 24, 30, 31, 32, 33, 34, 35, 36, 37, 38] (by decide +kernel) (by decide +kernel)
set_option maxRecDepth 20000 in
theorem gX1_won_X1_stakes : GoodIn wsX1_won (wsV RX1 104 RX1 yX1_stakes wsX1_stakes) := goodIn_app (goodIn_of _ (by decide +kernel)) ggX1_won_X1_stakes
set_option maxRecDepth 20000 in
theorem ggX1_won_X4_sum : GoodIn wsX1_won wsX4_sum := goodIn_r _ [28, 14, 29, 20, 21, 12, 22, 23, 24, 36, 37, 38] (by decide +kernel) (by decide +kernel)
set_option maxRecDepth 20000 in
theorem gX1_won_X4_sum : GoodIn wsX1_won (wsV RX1 67 RX4 yX4_sum wsX4_sum) := goodIn_app (goodIn_of _ (by decide +kernel)) ggX1_won_X4_sum
theorem dX1_won_0 : decode cX1_won 0 = .ok (.aload_n 0, 1) := by decide +kernel
theorem dX1_won_1 : decode cX1_won 1 = .ok (.invokevirtual 104, 3) := by decide +kernel
theorem dX1_won_4 : decode cX1_won 4 = .ok (.aload_n 0, 1) := by decide +kernel
theorem dX1_won_5 : decode cX1_won 5 = .ok (.getfield 20, 3) := by decide +kernel
theorem dX1_won_8 : decode cX1_won 8 = .ok (.bipush 6, 2) := by decide +kernel
theorem dX1_won_10 : decode cX1_won 10 = .ok (.invokevirtual 67, 3) := by decide +kernel
theorem dX1_won_13 : decode cX1_won 13 = .ok (.isub, 1) := by decide +kernel
theorem dX1_won_14 : decode cX1_won 14 = .ok (.istore_n 1, 1) := by decide +kernel
theorem dX1_won_15 : decode cX1_won 15 = .ok (.aload_n 0, 1) := by decide +kernel
theorem dX1_won_16 : decode cX1_won 16 = .ok (.getfield 23, 3) := by decide +kernel
theorem dX1_won_19 : decode cX1_won 19 = .ok (.iconst 4, 1) := by decide +kernel
theorem dX1_won_20 : decode cX1_won 20 = .ok (.invokevirtual 67, 3) := by decide +kernel
theorem dX1_won_23 : decode cX1_won 23 = .ok (.aload_n 0, 1) := by decide +kernel
theorem dX1_won_24 : decode cX1_won 24 = .ok (.getfield 23, 3) := by decide +kernel
theorem dX1_won_27 : decode cX1_won 27 = .ok (.iconst 1, 1) := by decide +kernel
theorem dX1_won_28 : decode cX1_won 28 = .ok (.invokevirtual 67, 3) := by decide +kernel
theorem dX1_won_31 : decode cX1_won 31 = .ok (.isub, 1) := by decide +kernel
theorem dX1_won_32 : decode cX1_won 32 = .ok (.istore_n 2, 1) := by decide +kernel
theorem dX1_won_33 : decode cX1_won 33 = .ok (.ldc 103, 2) := by decide +kernel
theorem dX1_won_35 : decode cX1_won 35 = .ok (.iload_n 1, 1) := by decide +kernel
theorem dX1_won_36 : decode cX1_won 36 = .ok (.iadd, 1) := by decide +kernel
theorem dX1_won_37 : decode cX1_won 37 = .ok (.iload_n 2, 1) := by decide +kernel
theorem dX1_won_38 : decode cX1_won 38 = .ok (.iadd, 1) := by decide +kernel
theorem dX1_won_39 : decode cX1_won 39 = .ok (.ireturn, 1) := by decide +kernel
set_option maxRecDepth 20000 in
theorem ggX1_wonByLosses_X4_size : GoodIn wsX1_wonByLosses wsX4_size := goodIn_r _ [8, 9, 27, 28, 29] (by decide +kernel) (by decide +kernel)
set_option maxRecDepth 20000 in
theorem gX1_wonByLosses_X4_size : GoodIn wsX1_wonByLosses (wsV RX1 64 RX4 yX4_size wsX4_size) := goodIn_app (goodIn_of _ (by decide +kernel)) ggX1_wonByLosses_X4_size
set_option maxRecDepth 20000 in
theorem ggX1_wonByLosses_X1_wholeStake : GoodIn wsX1_wonByLosses wsX1_wholeStake := goodIn_r _ [14, 2, 15, 16, 17, 7, 18, 19, 9, 20, 21, 22, 23, 24, 25, 26, 27, 28, 29] (by decide +kernel) (by decide +kernel)
set_option maxRecDepth 20000 in
theorem gX1_wonByLosses_X1_wholeStake : GoodIn wsX1_wonByLosses (wsV RX1 78 RX1 yX1_wholeStake wsX1_wholeStake) := goodIn_app (goodIn_of _ (by decide +kernel)) ggX1_wonByLosses_X1_wholeStake
set_option maxRecDepth 20000 in
theorem ggX1_wonByLosses_X4_cell : GoodIn wsX1_wonByLosses wsX4_cell := goodIn_r _ [18, 19, 9, 20, 27, 28, 29] (by decide +kernel) (by decide +kernel)
set_option maxRecDepth 20000 in
theorem gX1_wonByLosses_X4_cell : GoodIn wsX1_wonByLosses (wsV RX1 49 RX4 yX4_cell wsX4_cell) := goodIn_app (goodIn_of _ (by decide +kernel)) ggX1_wonByLosses_X4_cell
theorem dX1_wonByLosses_0 : decode cX1_wonByLosses 0 = .ok (.ldc 103, 2) := by decide +kernel
theorem dX1_wonByLosses_2 : decode cX1_wonByLosses 2 = .ok (.istore_n 1, 1) := by decide +kernel
theorem dX1_wonByLosses_3 : decode cX1_wonByLosses 3 = .ok (.iconst 0, 1) := by decide +kernel
theorem dX1_wonByLosses_4 : decode cX1_wonByLosses 4 = .ok (.istore_n 2, 1) := by decide +kernel
theorem dX1_wonByLosses_5 : decode cX1_wonByLosses 5 = .ok (.iload_n 2, 1) := by decide +kernel
theorem dX1_wonByLosses_6 : decode cX1_wonByLosses 6 = .ok (.aload_n 0, 1) := by decide +kernel
theorem dX1_wonByLosses_7 : decode cX1_wonByLosses 7 = .ok (.getfield 20, 3) := by decide +kernel
theorem dX1_wonByLosses_10 : decode cX1_wonByLosses 10 = .ok (.invokevirtual 64, 3) := by decide +kernel
theorem dX1_wonByLosses_13 : decode cX1_wonByLosses 13 = .ok (.if_icmp .ge 28, 3) := by decide +kernel
theorem dX1_wonByLosses_16 : decode cX1_wonByLosses 16 = .ok (.iload_n 1, 1) := by decide +kernel
theorem dX1_wonByLosses_17 : decode cX1_wonByLosses 17 = .ok (.aload_n 0, 1) := by decide +kernel
theorem dX1_wonByLosses_18 : decode cX1_wonByLosses 18 = .ok (.iload_n 2, 1) := by decide +kernel
theorem dX1_wonByLosses_19 : decode cX1_wonByLosses 19 = .ok (.invokevirtual 78, 3) := by decide +kernel
theorem dX1_wonByLosses_22 : decode cX1_wonByLosses 22 = .ok (.aload_n 0, 1) := by decide +kernel
theorem dX1_wonByLosses_23 : decode cX1_wonByLosses 23 = .ok (.getfield 20, 3) := by decide +kernel
theorem dX1_wonByLosses_26 : decode cX1_wonByLosses 26 = .ok (.iload_n 2, 1) := by decide +kernel
theorem dX1_wonByLosses_27 : decode cX1_wonByLosses 27 = .ok (.bipush 6, 2) := by decide +kernel
theorem dX1_wonByLosses_29 : decode cX1_wonByLosses 29 = .ok (.invokevirtual 49, 3) := by decide +kernel
theorem dX1_wonByLosses_32 : decode cX1_wonByLosses 32 = .ok (.isub, 1) := by decide +kernel
theorem dX1_wonByLosses_33 : decode cX1_wonByLosses 33 = .ok (.iadd, 1) := by decide +kernel
theorem dX1_wonByLosses_34 : decode cX1_wonByLosses 34 = .ok (.istore_n 1, 1) := by decide +kernel
theorem dX1_wonByLosses_35 : decode cX1_wonByLosses 35 = .ok (.iinc 2 1, 3) := by decide +kernel
theorem dX1_wonByLosses_38 : decode cX1_wonByLosses 38 = .ok (.goto (-33), 3) := by decide +kernel
theorem dX1_wonByLosses_41 : decode cX1_wonByLosses 41 = .ok (.iconst 0, 1) := by decide +kernel
theorem dX1_wonByLosses_42 : decode cX1_wonByLosses 42 = .ok (.istore_n 2, 1) := by decide +kernel
theorem dX1_wonByLosses_43 : decode cX1_wonByLosses 43 = .ok (.iload_n 2, 1) := by decide +kernel
theorem dX1_wonByLosses_44 : decode cX1_wonByLosses 44 = .ok (.aload_n 0, 1) := by decide +kernel
theorem dX1_wonByLosses_45 : decode cX1_wonByLosses 45 = .ok (.getfield 23, 3) := by decide +kernel
theorem dX1_wonByLosses_48 : decode cX1_wonByLosses 48 = .ok (.invokevirtual 64, 3) := by decide +kernel
theorem dX1_wonByLosses_51 : decode cX1_wonByLosses 51 = .ok (.if_icmp .ge 31, 3) := by decide +kernel
theorem dX1_wonByLosses_54 : decode cX1_wonByLosses 54 = .ok (.iload_n 1, 1) := by decide +kernel
theorem dX1_wonByLosses_55 : decode cX1_wonByLosses 55 = .ok (.aload_n 0, 1) := by decide +kernel
theorem dX1_wonByLosses_56 : decode cX1_wonByLosses 56 = .ok (.getfield 23, 3) := by decide +kernel
theorem dX1_wonByLosses_59 : decode cX1_wonByLosses 59 = .ok (.iload_n 2, 1) := by decide +kernel
theorem dX1_wonByLosses_60 : decode cX1_wonByLosses 60 = .ok (.iconst 1, 1) := by decide +kernel
theorem dX1_wonByLosses_61 : decode cX1_wonByLosses 61 = .ok (.invokevirtual 49, 3) := by decide +kernel
theorem dX1_wonByLosses_64 : decode cX1_wonByLosses 64 = .ok (.aload_n 0, 1) := by decide +kernel
theorem dX1_wonByLosses_65 : decode cX1_wonByLosses 65 = .ok (.getfield 23, 3) := by decide +kernel
theorem dX1_wonByLosses_68 : decode cX1_wonByLosses 68 = .ok (.iload_n 2, 1) := by decide +kernel
theorem dX1_wonByLosses_69 : decode cX1_wonByLosses 69 = .ok (.iconst 4, 1) := by decide +kernel
theorem dX1_wonByLosses_70 : decode cX1_wonByLosses 70 = .ok (.invokevirtual 49, 3) := by decide +kernel
theorem dX1_wonByLosses_73 : decode cX1_wonByLosses 73 = .ok (.isub, 1) := by decide +kernel
theorem dX1_wonByLosses_74 : decode cX1_wonByLosses 74 = .ok (.isub, 1) := by decide +kernel
theorem dX1_wonByLosses_75 : decode cX1_wonByLosses 75 = .ok (.istore_n 1, 1) := by decide +kernel
theorem dX1_wonByLosses_76 : decode cX1_wonByLosses 76 = .ok (.iinc 2 1, 3) := by decide +kernel
theorem dX1_wonByLosses_79 : decode cX1_wonByLosses 79 = .ok (.goto (-36), 3) := by decide +kernel
theorem dX1_wonByLosses_82 : decode cX1_wonByLosses 82 = .ok (.iload_n 1, 1) := by decide +kernel
theorem dX1_wonByLosses_83 : decode cX1_wonByLosses 83 = .ok (.ireturn, 1) := by decide +kernel
set_option maxRecDepth 20000 in
theorem ggX2_init_X1_init : GoodIn wsX2_init wsX1_init := goodIn_r _ [10, 11, 2, 3, 12, 13, 14, 15, 16, 17, 18, 19, 20, 21, 22, 23, 24, 25, 26, 36, 37, 38, 30, 31, 32, 33, 34, 35] (by decide +kernel) (by decide +kernel)
set_option maxRecDepth 20000 in
theorem gX2_init_X1_init : GoodIn wsX2_init (wsX1_init) := ggX2_init_X1_init
theorem dX2_init_0 : decode cX2_init 0 = .ok (.aload_n 0, 1) := by decide +kernel
theorem dX2_init_1 : decode cX2_init 1 = .ok (.invokespecial 3, 3) := by decide +kernel
theorem dX2_init_4 : decode cX2_init 4 = .ok (.aload_n 0, 1) := by decide +kernel
theorem dX2_init_5 : decode cX2_init 5 = .ok (.bipush 6, 2) := by decide +kernel
theorem dX2_init_7 : decode cX2_init 7 = .ok (.anewarray 9, 3) := by decide +kernel
theorem dX2_init_10 : decode cX2_init 10 = .ok (.putfield 11, 3) := by decide +kernel
theorem dX2_init_13 : decode cX2_init 13 = .ok (.iconst 0, 1) := by decide +kernel
theorem dX2_init_14 : decode cX2_init 14 = .ok (.istore_n 1, 1) := by decide +kernel
theorem dX2_init_15 : decode cX2_init 15 = .ok (.iload_n 1, 1) := by decide +kernel
theorem dX2_init_16 : decode cX2_init 16 = .ok (.aload_n 0, 1) := by decide +kernel
theorem dX2_init_17 : decode cX2_init 17 = .ok (.getfield 11, 3) := by decide +kernel
theorem dX2_init_20 : decode cX2_init 20 = .ok (.arraylength, 1) := by decide +kernel
theorem dX2_init_21 : decode cX2_init 21 = .ok (.if_icmp .ge 22, 3) := by decide +kernel
theorem dX2_init_24 : decode cX2_init 24 = .ok (.aload_n 0, 1) := by decide +kernel
theorem dX2_init_25 : decode cX2_init 25 = .ok (.getfield 11, 3) := by decide +kernel
theorem dX2_init_28 : decode cX2_init 28 = .ok (.iload_n 1, 1) := by decide +kernel
theorem dX2_init_29 : decode cX2_init 29 = .ok (.new 9, 3) := by decide +kernel
theorem dX2_init_32 : decode cX2_init 32 = .ok (.dup, 1) := by decide +kernel
theorem dX2_init_33 : decode cX2_init 33 = .ok (.invokespecial 17, 3) := by decide +kernel
theorem dX2_init_36 : decode cX2_init 36 = .ok (.aastore, 1) := by decide +kernel
theorem dX2_init_37 : decode cX2_init 37 = .ok (.iinc 1 1, 3) := by decide +kernel
theorem dX2_init_40 : decode cX2_init 40 = .ok (.goto (-25), 3) := by decide +kernel
theorem dX2_init_43 : decode cX2_init 43 = .ok (.return_, 1) := by decide +kernel
theorem dX2_size_0 : decode cX2_size 0 = .ok (.aload_n 0, 1) := by decide +kernel
theorem dX2_size_1 : decode cX2_size 1 = .ok (.getfield 18, 3) := by decide +kernel
theorem dX2_size_4 : decode cX2_size 4 = .ok (.ireturn, 1) := by decide +kernel
theorem dX2_stateAt_0 : decode cX2_stateAt 0 = .ok (.iload_n 1, 1) := by decide +kernel
theorem dX2_stateAt_1 : decode cX2_stateAt 1 = .ok (.ifCond .lt 21, 3) := by decide +kernel
theorem dX2_stateAt_4 : decode cX2_stateAt 4 = .ok (.iload_n 1, 1) := by decide +kernel
theorem dX2_stateAt_5 : decode cX2_stateAt 5 = .ok (.aload_n 0, 1) := by decide +kernel
theorem dX2_stateAt_6 : decode cX2_stateAt 6 = .ok (.getfield 11, 3) := by decide +kernel
theorem dX2_stateAt_9 : decode cX2_stateAt 9 = .ok (.arraylength, 1) := by decide +kernel
theorem dX2_stateAt_10 : decode cX2_stateAt 10 = .ok (.if_icmp .ge 12, 3) := by decide +kernel
theorem dX2_stateAt_13 : decode cX2_stateAt 13 = .ok (.aload_n 0, 1) := by decide +kernel
theorem dX2_stateAt_14 : decode cX2_stateAt 14 = .ok (.getfield 11, 3) := by decide +kernel
theorem dX2_stateAt_17 : decode cX2_stateAt 17 = .ok (.iload_n 1, 1) := by decide +kernel
theorem dX2_stateAt_18 : decode cX2_stateAt 18 = .ok (.aaload, 1) := by decide +kernel
theorem dX2_stateAt_19 : decode cX2_stateAt 19 = .ok (.goto 4, 3) := by decide +kernel
theorem dX2_stateAt_22 : decode cX2_stateAt 22 = .ok (.aconst_null, 1) := by decide +kernel
theorem dX2_stateAt_23 : decode cX2_stateAt 23 = .ok (.areturn, 1) := by decide +kernel
set_option maxRecDepth 20000 in
theorem ggX2_save_X2_stateAt : GoodIn wsX2_save wsX2_stateAt := goodIn_r _ [11, 12, 36, 37, 38] (by decide +kernel) (by decide +kernel)
set_option maxRecDepth 20000 in
theorem gX2_save_X2_stateAt : GoodIn wsX2_save (wsV RX2 25 RX2 yX2_stateAt wsX2_stateAt) := goodIn_app (goodIn_of _ (by decide +kernel)) ggX2_save_X2_stateAt
set_option maxRecDepth 20000 in
theorem ggX2_save_X1_copyFrom : GoodIn wsX2_save wsX1_copyFrom := goodIn_r _ [17, 18, 19, 20, 21, 22, 23, 24, 25, 26, 27, 28, 29, 30, 31, 4, 5, 6, 32, 33, 34, 35, 39, 40, 41, 42, 43, 44, 45, 46, 47] (by decide +kernel) (by decide +kernel)
set_option maxRecDepth 20000 in
theorem gX2_save_X1_copyFrom : GoodIn wsX2_save (wsV RX2 29 RX1 yX1_copyFrom wsX1_copyFrom) := goodIn_app (goodIn_of _ (by decide +kernel)) ggX2_save_X1_copyFrom
theorem dX2_save_0 : decode cX2_save 0 = .ok (.aload_n 0, 1) := by decide +kernel
theorem dX2_save_1 : decode cX2_save 1 = .ok (.aload_n 0, 1) := by decide +kernel
theorem dX2_save_2 : decode cX2_save 2 = .ok (.getfield 22, 3) := by decide +kernel
theorem dX2_save_5 : decode cX2_save 5 = .ok (.invokevirtual 25, 3) := by decide +kernel
theorem dX2_save_8 : decode cX2_save 8 = .ok (.astore_n 2, 1) := by decide +kernel
theorem dX2_save_9 : decode cX2_save 9 = .ok (.aload_n 2, 1) := by decide +kernel
theorem dX2_save_10 : decode cX2_save 10 = .ok (.ifnull 36, 3) := by decide +kernel
theorem dX2_save_13 : decode cX2_save 13 = .ok (.aload_n 2, 1) := by decide +kernel
theorem dX2_save_14 : decode cX2_save 14 = .ok (.aload_n 1, 1) := by decide +kernel
theorem dX2_save_15 : decode cX2_save 15 = .ok (.invokevirtual 29, 3) := by decide +kernel
theorem dX2_save_18 : decode cX2_save 18 = .ok (.aload_n 0, 1) := by decide +kernel
theorem dX2_save_19 : decode cX2_save 19 = .ok (.aload_n 0, 1) := by decide +kernel
theorem dX2_save_20 : decode cX2_save 20 = .ok (.getfield 22, 3) := by decide +kernel
theorem dX2_save_23 : decode cX2_save 23 = .ok (.iconst 1, 1) := by decide +kernel
theorem dX2_save_24 : decode cX2_save 24 = .ok (.iadd, 1) := by decide +kernel
theorem dX2_save_25 : decode cX2_save 25 = .ok (.bipush 6, 2) := by decide +kernel
theorem dX2_save_27 : decode cX2_save 27 = .ok (.irem, 1) := by decide +kernel
theorem dX2_save_28 : decode cX2_save 28 = .ok (.putfield 22, 3) := by decide +kernel
theorem dX2_save_31 : decode cX2_save 31 = .ok (.aload_n 0, 1) := by decide +kernel
theorem dX2_save_32 : decode cX2_save 32 = .ok (.aload_n 0, 1) := by decide +kernel
theorem dX2_save_33 : decode cX2_save 33 = .ok (.getfield 18, 3) := by decide +kernel
theorem dX2_save_36 : decode cX2_save 36 = .ok (.iconst 1, 1) := by decide +kernel
theorem dX2_save_37 : decode cX2_save 37 = .ok (.iadd, 1) := by decide +kernel
theorem dX2_save_38 : decode cX2_save 38 = .ok (.bipush 6, 2) := by decide +kernel
theorem dX2_save_40 : decode cX2_save 40 = .ok (.invokestatic 33, 3) := by decide +kernel
theorem dX2_save_43 : decode cX2_save 43 = .ok (.putfield 18, 3) := by decide +kernel
theorem dX2_save_46 : decode cX2_save 46 = .ok (.return_, 1) := by decide +kernel
set_option maxRecDepth 20000 in
theorem ggX2_restore_X2_stateAt : GoodIn wsX2_restore wsX2_stateAt := goodIn_r _ [7, 8, 35, 36, 37] (by decide +kernel) (by decide +kernel)
set_option maxRecDepth 20000 in
theorem gX2_restore_X2_stateAt : GoodIn wsX2_restore (wsV RX2 25 RX2 yX2_stateAt wsX2_stateAt) := goodIn_app (goodIn_of _ (by decide +kernel)) ggX2_restore_X2_stateAt
set_option maxRecDepth 20000 in
theorem ggX2_restore_X1_copyFrom : GoodIn wsX2_restore wsX1_copyFrom := goodIn_r _ [13, 14, 15, 16, 17, 18, 19, 20, 21, 22, 23, 24, 25, 26, 27, 28, 29, 30, 31, 32, 33, 34, 38, 39, 40, 41, 42, 43, 44, 45, 46] (by decide +kernel) (by decide +kernel)
set_option maxRecDepth 20000 in
theorem gX2_restore_X1_copyFrom : GoodIn wsX2_restore (wsV RX2 29 RX1 yX1_copyFrom wsX1_copyFrom) := goodIn_app (goodIn_of _ (by decide +kernel)) ggX2_restore_X1_copyFrom
theorem dX2_restore_0 : decode cX2_restore 0 = .ok (.aload_n 0, 1) := by decide +kernel
theorem dX2_restore_1 : decode cX2_restore 1 = .ok (.getfield 22, 3) := by decide +kernel
theorem dX2_restore_4 : decode cX2_restore 4 = .ok (.bipush 6, 2) := by decide +kernel
theorem dX2_restore_6 : decode cX2_restore 6 = .ok (.iadd, 1) := by decide +kernel
theorem dX2_restore_7 : decode cX2_restore 7 = .ok (.iconst 1, 1) := by decide +kernel
theorem dX2_restore_8 : decode cX2_restore 8 = .ok (.isub, 1) := by decide +kernel
theorem dX2_restore_9 : decode cX2_restore 9 = .ok (.bipush 6, 2) := by decide +kernel
theorem dX2_restore_11 : decode cX2_restore 11 = .ok (.irem, 1) := by decide +kernel
theorem dX2_restore_12 : decode cX2_restore 12 = .ok (.istore_n 2, 1) := by decide +kernel
theorem dX2_restore_13 : decode cX2_restore 13 = .ok (.aload_n 0, 1) := by decide +kernel
theorem dX2_restore_14 : decode cX2_restore 14 = .ok (.iload_n 2, 1) := by decide +kernel
theorem dX2_restore_15 : decode cX2_restore 15 = .ok (.invokevirtual 25, 3) := by decide +kernel
theorem dX2_restore_18 : decode cX2_restore 18 = .ok (.astore_n 3, 1) := by decide +kernel
theorem dX2_restore_19 : decode cX2_restore 19 = .ok (.aload_n 0, 1) := by decide +kernel
theorem dX2_restore_20 : decode cX2_restore 20 = .ok (.getfield 18, 3) := by decide +kernel
theorem dX2_restore_23 : decode cX2_restore 23 = .ok (.ifCond .le 27, 3) := by decide +kernel
theorem dX2_restore_26 : decode cX2_restore 26 = .ok (.aload_n 3, 1) := by decide +kernel
theorem dX2_restore_27 : decode cX2_restore 27 = .ok (.ifnull 23, 3) := by decide +kernel
theorem dX2_restore_30 : decode cX2_restore 30 = .ok (.aload_n 1, 1) := by decide +kernel
theorem dX2_restore_31 : decode cX2_restore 31 = .ok (.aload_n 3, 1) := by decide +kernel
theorem dX2_restore_32 : decode cX2_restore 32 = .ok (.invokevirtual 29, 3) := by decide +kernel
theorem dX2_restore_35 : decode cX2_restore 35 = .ok (.aload_n 0, 1) := by decide +kernel
theorem dX2_restore_36 : decode cX2_restore 36 = .ok (.iload_n 2, 1) := by decide +kernel
theorem dX2_restore_37 : decode cX2_restore 37 = .ok (.putfield 22, 3) := by decide +kernel
theorem dX2_restore_40 : decode cX2_restore 40 = .ok (.aload_n 0, 1) := by decide +kernel
theorem dX2_restore_41 : decode cX2_restore 41 = .ok (.aload_n 0, 1) := by decide +kernel
theorem dX2_restore_42 : decode cX2_restore 42 = .ok (.getfield 18, 3) := by decide +kernel
theorem dX2_restore_45 : decode cX2_restore 45 = .ok (.iconst 1, 1) := by decide +kernel
theorem dX2_restore_46 : decode cX2_restore 46 = .ok (.isub, 1) := by decide +kernel
theorem dX2_restore_47 : decode cX2_restore 47 = .ok (.putfield 18, 3) := by decide +kernel
theorem dX2_restore_50 : decode cX2_restore 50 = .ok (.return_, 1) := by decide +kernel
set_option maxRecDepth 20000 in
theorem ggX3_init_X1_init : GoodIn wsX3_init wsX1_init := goodIn_r _ [10, 11, 2, 3, 12, 13, 14, 15, 16, 17, 18, 19, 20, 21, 22, 23, 24, 25, 26, 35, 36, 37, 27, 28, 29, 30, 31, 32] (by decide +kernel) (by decide +kernel)
set_option maxRecDepth 20000 in
theorem gX3_init_X1_init : GoodIn wsX3_init (wsX1_init) := ggX3_init_X1_init
theorem dX3_init_0 : decode cX3_init 0 = .ok (.aload_n 0, 1) := by decide +kernel
theorem dX3_init_1 : decode cX3_init 1 = .ok (.invokespecial 1, 3) := by decide +kernel
theorem dX3_init_4 : decode cX3_init 4 = .ok (.aload_n 0, 1) := by decide +kernel
theorem dX3_init_5 : decode cX3_init 5 = .ok (.new 7, 3) := by decide +kernel
theorem dX3_init_8 : decode cX3_init 8 = .ok (.dup, 1) := by decide +kernel
theorem dX3_init_9 : decode cX3_init 9 = .ok (.invokespecial 9, 3) := by decide +kernel
theorem dX3_init_12 : decode cX3_init 12 = .ok (.putfield 10, 3) := by decide +kernel
theorem dX3_init_15 : decode cX3_init 15 = .ok (.return_, 1) := by decide +kernel
theorem dX3_isFull_0 : decode cX3_isFull 0 = .ok (.aload_n 0, 1) := by decide +kernel
theorem dX3_isFull_1 : decode cX3_isFull 1 = .ok (.getfield 16, 3) := by decide +kernel
theorem dX3_isFull_4 : decode cX3_isFull 4 = .ok (.ireturn, 1) := by decide +kernel
set_option maxRecDepth 20000 in
theorem ggX3_fill_X1_copyFrom : GoodIn wsX3_fill wsX1_copyFrom := goodIn_r _ [7, 8, 9, 10, 11, 12, 13, 14, 15, 16, 17, 18, 19, 20, 21, 22, 23, 24, 25, 26, 27, 28, 31, 32, 33, 34, 35, 36, 37, 38, 39] (by decide +kernel) (by decide +kernel)
set_option maxRecDepth 20000 in
theorem gX3_fill_X1_copyFrom : GoodIn wsX3_fill (wsV RX3 20 RX1 yX1_copyFrom wsX1_copyFrom) := goodIn_app (goodIn_of _ (by decide +kernel)) ggX3_fill_X1_copyFrom
theorem dX3_fill_0 : decode cX3_fill 0 = .ok (.aload_n 0, 1) := by decide +kernel
theorem dX3_fill_1 : decode cX3_fill 1 = .ok (.getfield 10, 3) := by decide +kernel
theorem dX3_fill_4 : decode cX3_fill 4 = .ok (.aload_n 1, 1) := by decide +kernel
theorem dX3_fill_5 : decode cX3_fill 5 = .ok (.invokevirtual 20, 3) := by decide +kernel
theorem dX3_fill_8 : decode cX3_fill 8 = .ok (.aload_n 0, 1) := by decide +kernel
theorem dX3_fill_9 : decode cX3_fill 9 = .ok (.iconst 1, 1) := by decide +kernel
theorem dX3_fill_10 : decode cX3_fill 10 = .ok (.putfield 16, 3) := by decide +kernel
theorem dX3_fill_13 : decode cX3_fill 13 = .ok (.return_, 1) := by decide +kernel
set_option maxRecDepth 20000 in
theorem ggX3_bringBack_X1_copyFrom : GoodIn wsX3_bringBack wsX1_copyFrom := goodIn_r _ [6, 7, 8, 9, 10, 11, 12, 13, 14, 15, 16, 17, 18, 19, 20, 21, 22, 23, 24, 25, 26, 27, 30, 31, 32, 33, 34, 35, 36, 37, 38] (by decide +kernel) (by decide +kernel)
set_option maxRecDepth 20000 in
theorem gX3_bringBack_X1_copyFrom : GoodIn wsX3_bringBack (wsV RX3 20 RX1 yX1_copyFrom wsX1_copyFrom) := goodIn_app (goodIn_of _ (by decide +kernel)) ggX3_bringBack_X1_copyFrom
theorem dX3_bringBack_0 : decode cX3_bringBack 0 = .ok (.aload_n 1, 1) := by decide +kernel
theorem dX3_bringBack_1 : decode cX3_bringBack 1 = .ok (.aload_n 0, 1) := by decide +kernel
theorem dX3_bringBack_2 : decode cX3_bringBack 2 = .ok (.getfield 10, 3) := by decide +kernel
theorem dX3_bringBack_5 : decode cX3_bringBack 5 = .ok (.invokevirtual 20, 3) := by decide +kernel
theorem dX3_bringBack_8 : decode cX3_bringBack 8 = .ok (.return_, 1) := by decide +kernel
theorem dX4_init_0 : decode cX4_init 0 = .ok (.aload_n 0, 1) := by decide +kernel
theorem dX4_init_1 : decode cX4_init 1 = .ok (.invokespecial 1, 3) := by decide +kernel
theorem dX4_init_4 : decode cX4_init 4 = .ok (.aload_n 0, 1) := by decide +kernel
theorem dX4_init_5 : decode cX4_init 5 = .ok (.iload_n 1, 1) := by decide +kernel
theorem dX4_init_6 : decode cX4_init 6 = .ok (.putfield 7, 3) := by decide +kernel
theorem dX4_init_9 : decode cX4_init 9 = .ok (.aload_n 0, 1) := by decide +kernel
theorem dX4_init_10 : decode cX4_init 10 = .ok (.aload_n 2, 1) := by decide +kernel
theorem dX4_init_11 : decode cX4_init 11 = .ok (.putfield 13, 3) := by decide +kernel
theorem dX4_init_14 : decode cX4_init 14 = .ok (.return_, 1) := by decide +kernel
theorem dX4_columns_0 : decode cX4_columns 0 = .ok (.aload_n 0, 1) := by decide +kernel
theorem dX4_columns_1 : decode cX4_columns 1 = .ok (.getfield 7, 3) := by decide +kernel
theorem dX4_columns_4 : decode cX4_columns 4 = .ok (.ireturn, 1) := by decide +kernel
theorem dX4_size_0 : decode cX4_size 0 = .ok (.aload_n 0, 1) := by decide +kernel
theorem dX4_size_1 : decode cX4_size 1 = .ok (.getfield 17, 3) := by decide +kernel
theorem dX4_size_4 : decode cX4_size 4 = .ok (.ireturn, 1) := by decide +kernel
theorem dX4_has_0 : decode cX4_has 0 = .ok (.iload_n 1, 1) := by decide +kernel
theorem dX4_has_1 : decode cX4_has 1 = .ok (.ifCond .lt 15, 3) := by decide +kernel
theorem dX4_has_4 : decode cX4_has 4 = .ok (.iload_n 1, 1) := by decide +kernel
theorem dX4_has_5 : decode cX4_has 5 = .ok (.aload_n 0, 1) := by decide +kernel
theorem dX4_has_6 : decode cX4_has 6 = .ok (.getfield 17, 3) := by decide +kernel
theorem dX4_has_9 : decode cX4_has 9 = .ok (.if_icmp .ge 7, 3) := by decide +kernel
theorem dX4_has_12 : decode cX4_has 12 = .ok (.iconst 1, 1) := by decide +kernel
theorem dX4_has_13 : decode cX4_has 13 = .ok (.goto 4, 3) := by decide +kernel
theorem dX4_has_16 : decode cX4_has 16 = .ok (.iconst 0, 1) := by decide +kernel
theorem dX4_has_17 : decode cX4_has 17 = .ok (.ireturn, 1) := by decide +kernel
theorem dX4_isFull_0 : decode cX4_isFull 0 = .ok (.aload_n 0, 1) := by decide +kernel
theorem dX4_isFull_1 : decode cX4_isFull 1 = .ok (.getfield 17, 3) := by decide +kernel
theorem dX4_isFull_4 : decode cX4_isFull 4 = .ok (.iconst 1, 1) := by decide +kernel
theorem dX4_isFull_5 : decode cX4_isFull 5 = .ok (.iadd, 1) := by decide +kernel
theorem dX4_isFull_6 : decode cX4_isFull 6 = .ok (.aload_n 0, 1) := by decide +kernel
theorem dX4_isFull_7 : decode cX4_isFull 7 = .ok (.getfield 7, 3) := by decide +kernel
theorem dX4_isFull_10 : decode cX4_isFull 10 = .ok (.imul, 1) := by decide +kernel
theorem dX4_isFull_11 : decode cX4_isFull 11 = .ok (.aload_n 0, 1) := by decide +kernel
theorem dX4_isFull_12 : decode cX4_isFull 12 = .ok (.getfield 13, 3) := by decide +kernel
theorem dX4_isFull_15 : decode cX4_isFull 15 = .ok (.arraylength, 1) := by decide +kernel
theorem dX4_isFull_16 : decode cX4_isFull 16 = .ok (.if_icmp .le 7, 3) := by decide +kernel
theorem dX4_isFull_19 : decode cX4_isFull 19 = .ok (.iconst 1, 1) := by decide +kernel
theorem dX4_isFull_20 : decode cX4_isFull 20 = .ok (.goto 4, 3) := by decide +kernel
theorem dX4_isFull_23 : decode cX4_isFull 23 = .ok (.iconst 0, 1) := by decide +kernel
theorem dX4_isFull_24 : decode cX4_isFull 24 = .ok (.ireturn, 1) := by decide +kernel
theorem dX4_cell_0 : decode cX4_cell 0 = .ok (.iload_n 1, 1) := by decide +kernel
theorem dX4_cell_1 : decode cX4_cell 1 = .ok (.aload_n 0, 1) := by decide +kernel
theorem dX4_cell_2 : decode cX4_cell 2 = .ok (.getfield 7, 3) := by decide +kernel
theorem dX4_cell_5 : decode cX4_cell 5 = .ok (.imul, 1) := by decide +kernel
theorem dX4_cell_6 : decode cX4_cell 6 = .ok (.iload_n 2, 1) := by decide +kernel
theorem dX4_cell_7 : decode cX4_cell 7 = .ok (.iadd, 1) := by decide +kernel
theorem dX4_cell_8 : decode cX4_cell 8 = .ok (.istore_n 3, 1) := by decide +kernel
theorem dX4_cell_9 : decode cX4_cell 9 = .ok (.iload_n 1, 1) := by decide +kernel
theorem dX4_cell_10 : decode cX4_cell 10 = .ok (.ifCond .lt 27, 3) := by decide +kernel
theorem dX4_cell_13 : decode cX4_cell 13 = .ok (.iload_n 1, 1) := by decide +kernel
theorem dX4_cell_14 : decode cX4_cell 14 = .ok (.aload_n 0, 1) := by decide +kernel
theorem dX4_cell_15 : decode cX4_cell 15 = .ok (.getfield 17, 3) := by decide +kernel
theorem dX4_cell_18 : decode cX4_cell 18 = .ok (.if_icmp .ge 19, 3) := by decide +kernel
theorem dX4_cell_21 : decode cX4_cell 21 = .ok (.iload_n 2, 1) := by decide +kernel
theorem dX4_cell_22 : decode cX4_cell 22 = .ok (.ifCond .lt 15, 3) := by decide +kernel
theorem dX4_cell_25 : decode cX4_cell 25 = .ok (.iload_n 2, 1) := by decide +kernel
theorem dX4_cell_26 : decode cX4_cell 26 = .ok (.aload_n 0, 1) := by decide +kernel
theorem dX4_cell_27 : decode cX4_cell 27 = .ok (.getfield 7, 3) := by decide +kernel
theorem dX4_cell_30 : decode cX4_cell 30 = .ok (.if_icmp .ge 7, 3) := by decide +kernel
theorem dX4_cell_33 : decode cX4_cell 33 = .ok (.iconst 1, 1) := by decide +kernel
theorem dX4_cell_34 : decode cX4_cell 34 = .ok (.goto 4, 3) := by decide +kernel
theorem dX4_cell_37 : decode cX4_cell 37 = .ok (.iconst 0, 1) := by decide +kernel
theorem dX4_cell_38 : decode cX4_cell 38 = .ok (.istore 4, 2) := by decide +kernel
theorem dX4_cell_40 : decode cX4_cell 40 = .ok (.iload 4, 2) := by decide +kernel
theorem dX4_cell_42 : decode cX4_cell 42 = .ok (.ifCond .eq 25, 3) := by decide +kernel
theorem dX4_cell_45 : decode cX4_cell 45 = .ok (.iload_n 3, 1) := by decide +kernel
theorem dX4_cell_46 : decode cX4_cell 46 = .ok (.ifCond .lt 21, 3) := by decide +kernel
theorem dX4_cell_49 : decode cX4_cell 49 = .ok (.iload_n 3, 1) := by decide +kernel
theorem dX4_cell_50 : decode cX4_cell 50 = .ok (.aload_n 0, 1) := by decide +kernel
theorem dX4_cell_51 : decode cX4_cell 51 = .ok (.getfield 13, 3) := by decide +kernel
theorem dX4_cell_54 : decode cX4_cell 54 = .ok (.arraylength, 1) := by decide +kernel
theorem dX4_cell_55 : decode cX4_cell 55 = .ok (.if_icmp .ge 12, 3) := by decide +kernel
theorem dX4_cell_58 : decode cX4_cell 58 = .ok (.aload_n 0, 1) := by decide +kernel
theorem dX4_cell_59 : decode cX4_cell 59 = .ok (.getfield 13, 3) := by decide +kernel
theorem dX4_cell_62 : decode cX4_cell 62 = .ok (.iload_n 3, 1) := by decide +kernel
theorem dX4_cell_63 : decode cX4_cell 63 = .ok (.iaload, 1) := by decide +kernel
theorem dX4_cell_64 : decode cX4_cell 64 = .ok (.goto 4, 3) := by decide +kernel
theorem dX4_cell_67 : decode cX4_cell 67 = .ok (.iconst 0, 1) := by decide +kernel
theorem dX4_cell_68 : decode cX4_cell 68 = .ok (.ireturn, 1) := by decide +kernel
theorem dX4_put_0 : decode cX4_put 0 = .ok (.iload_n 1, 1) := by decide +kernel
theorem dX4_put_1 : decode cX4_put 1 = .ok (.aload_n 0, 1) := by decide +kernel
theorem dX4_put_2 : decode cX4_put 2 = .ok (.getfield 7, 3) := by decide +kernel
theorem dX4_put_5 : decode cX4_put 5 = .ok (.imul, 1) := by decide +kernel
theorem dX4_put_6 : decode cX4_put 6 = .ok (.iload_n 2, 1) := by decide +kernel
theorem dX4_put_7 : decode cX4_put 7 = .ok (.iadd, 1) := by decide +kernel
theorem dX4_put_8 : decode cX4_put 8 = .ok (.istore 4, 2) := by decide +kernel
theorem dX4_put_10 : decode cX4_put 10 = .ok (.iload_n 1, 1) := by decide +kernel
theorem dX4_put_11 : decode cX4_put 11 = .ok (.ifCond .lt 27, 3) := by decide +kernel
theorem dX4_put_14 : decode cX4_put 14 = .ok (.iload_n 1, 1) := by decide +kernel
theorem dX4_put_15 : decode cX4_put 15 = .ok (.aload_n 0, 1) := by decide +kernel
theorem dX4_put_16 : decode cX4_put 16 = .ok (.getfield 17, 3) := by decide +kernel
theorem dX4_put_19 : decode cX4_put 19 = .ok (.if_icmp .ge 19, 3) := by decide +kernel
theorem dX4_put_22 : decode cX4_put 22 = .ok (.iload_n 2, 1) := by decide +kernel
theorem dX4_put_23 : decode cX4_put 23 = .ok (.ifCond .lt 15, 3) := by decide +kernel
theorem dX4_put_26 : decode cX4_put 26 = .ok (.iload_n 2, 1) := by decide +kernel
theorem dX4_put_27 : decode cX4_put 27 = .ok (.aload_n 0, 1) := by decide +kernel
theorem dX4_put_28 : decode cX4_put 28 = .ok (.getfield 7, 3) := by decide +kernel
theorem dX4_put_31 : decode cX4_put 31 = .ok (.if_icmp .ge 7, 3) := by decide +kernel
theorem dX4_put_34 : decode cX4_put 34 = .ok (.iconst 1, 1) := by decide +kernel
theorem dX4_put_35 : decode cX4_put 35 = .ok (.goto 4, 3) := by decide +kernel
theorem dX4_put_38 : decode cX4_put 38 = .ok (.iconst 0, 1) := by decide +kernel
theorem dX4_put_39 : decode cX4_put 39 = .ok (.istore 5, 2) := by decide +kernel
theorem dX4_put_41 : decode cX4_put 41 = .ok (.iload 5, 2) := by decide +kernel
theorem dX4_put_43 : decode cX4_put 43 = .ok (.ifCond .eq 26, 3) := by decide +kernel
theorem dX4_put_46 : decode cX4_put 46 = .ok (.iload 4, 2) := by decide +kernel
theorem dX4_put_48 : decode cX4_put 48 = .ok (.ifCond .lt 21, 3) := by decide +kernel
theorem dX4_put_51 : decode cX4_put 51 = .ok (.iload 4, 2) := by decide +kernel
theorem dX4_put_53 : decode cX4_put 53 = .ok (.aload_n 0, 1) := by decide +kernel
theorem dX4_put_54 : decode cX4_put 54 = .ok (.getfield 13, 3) := by decide +kernel
theorem dX4_put_57 : decode cX4_put 57 = .ok (.arraylength, 1) := by decide +kernel
theorem dX4_put_58 : decode cX4_put 58 = .ok (.if_icmp .ge 11, 3) := by decide +kernel
theorem dX4_put_61 : decode cX4_put 61 = .ok (.aload_n 0, 1) := by decide +kernel
theorem dX4_put_62 : decode cX4_put 62 = .ok (.getfield 13, 3) := by decide +kernel
theorem dX4_put_65 : decode cX4_put 65 = .ok (.iload 4, 2) := by decide +kernel
theorem dX4_put_67 : decode cX4_put 67 = .ok (.iload_n 3, 1) := by decide +kernel
theorem dX4_put_68 : decode cX4_put 68 = .ok (.iastore, 1) := by decide +kernel
theorem dX4_put_69 : decode cX4_put 69 = .ok (.return_, 1) := by decide +kernel
set_option maxRecDepth 20000 in
theorem ggX4_raise_X4_cell : GoodIn wsX4_raise wsX4_cell := goodIn_r _ [5, 6, 7, 8, 13, 14, 15] (by decide +kernel) (by decide +kernel)
set_option maxRecDepth 20000 in
theorem gX4_raise_X4_cell : GoodIn wsX4_raise (wsV RX4 20 RX4 yX4_cell wsX4_cell) := goodIn_app (goodIn_of _ (by decide +kernel)) ggX4_raise_X4_cell
set_option maxRecDepth 20000 in
theorem ggX4_raise_X4_put : GoodIn wsX4_raise wsX4_put := goodIn_r _ [12, 6, 7, 8, 13, 14, 15] (by decide +kernel) (by decide +kernel)
set_option maxRecDepth 20000 in
theorem gX4_raise_X4_put : GoodIn wsX4_raise (wsV RX4 24 RX4 yX4_put wsX4_put) := goodIn_app (goodIn_of _ (by decide +kernel)) ggX4_raise_X4_put
theorem dX4_raise_0 : decode cX4_raise 0 = .ok (.aload_n 0, 1) := by decide +kernel
theorem dX4_raise_1 : decode cX4_raise 1 = .ok (.iload_n 1, 1) := by decide +kernel
theorem dX4_raise_2 : decode cX4_raise 2 = .ok (.iload_n 2, 1) := by decide +kernel
theorem dX4_raise_3 : decode cX4_raise 3 = .ok (.aload_n 0, 1) := by decide +kernel
theorem dX4_raise_4 : decode cX4_raise 4 = .ok (.iload_n 1, 1) := by decide +kernel
theorem dX4_raise_5 : decode cX4_raise 5 = .ok (.iload_n 2, 1) := by decide +kernel
theorem dX4_raise_6 : decode cX4_raise 6 = .ok (.invokevirtual 20, 3) := by decide +kernel
theorem dX4_raise_9 : decode cX4_raise 9 = .ok (.iload_n 3, 1) := by decide +kernel
theorem dX4_raise_10 : decode cX4_raise 10 = .ok (.iadd, 1) := by decide +kernel
theorem dX4_raise_11 : decode cX4_raise 11 = .ok (.invokevirtual 24, 3) := by decide +kernel
theorem dX4_raise_14 : decode cX4_raise 14 = .ok (.return_, 1) := by decide +kernel
set_option maxRecDepth 20000 in
theorem ggX4_addRow_X4_put : GoodIn wsX4_addRow wsX4_put := goodIn_r _ [7, 2, 1, 8, 9, 10, 11] (by decide +kernel) (by decide +kernel)
set_option maxRecDepth 20000 in
theorem gX4_addRow_X4_put : GoodIn wsX4_addRow (wsV RX4 24 RX4 yX4_put wsX4_put) := goodIn_app (goodIn_of _ (by decide +kernel)) ggX4_addRow_X4_put
theorem dX4_addRow_0 : decode cX4_addRow 0 = .ok (.aload_n 0, 1) := by decide +kernel
theorem dX4_addRow_1 : decode cX4_addRow 1 = .ok (.getfield 17, 3) := by decide +kernel
theorem dX4_addRow_4 : decode cX4_addRow 4 = .ok (.istore_n 1, 1) := by decide +kernel
theorem dX4_addRow_5 : decode cX4_addRow 5 = .ok (.aload_n 0, 1) := by decide +kernel
theorem dX4_addRow_6 : decode cX4_addRow 6 = .ok (.aload_n 0, 1) := by decide +kernel
theorem dX4_addRow_7 : decode cX4_addRow 7 = .ok (.getfield 17, 3) := by decide +kernel
theorem dX4_addRow_10 : decode cX4_addRow 10 = .ok (.iconst 1, 1) := by decide +kernel
theorem dX4_addRow_11 : decode cX4_addRow 11 = .ok (.iadd, 1) := by decide +kernel
theorem dX4_addRow_12 : decode cX4_addRow 12 = .ok (.putfield 17, 3) := by decide +kernel
theorem dX4_addRow_15 : decode cX4_addRow 15 = .ok (.iconst 0, 1) := by decide +kernel
theorem dX4_addRow_16 : decode cX4_addRow 16 = .ok (.istore_n 2, 1) := by decide +kernel
theorem dX4_addRow_17 : decode cX4_addRow 17 = .ok (.iload_n 2, 1) := by decide +kernel
theorem dX4_addRow_18 : decode cX4_addRow 18 = .ok (.aload_n 0, 1) := by decide +kernel
theorem dX4_addRow_19 : decode cX4_addRow 19 = .ok (.getfield 7, 3) := by decide +kernel
theorem dX4_addRow_22 : decode cX4_addRow 22 = .ok (.if_icmp .ge 16, 3) := by decide +kernel
theorem dX4_addRow_25 : decode cX4_addRow 25 = .ok (.aload_n 0, 1) := by decide +kernel
theorem dX4_addRow_26 : decode cX4_addRow 26 = .ok (.iload_n 1, 1) := by decide +kernel
theorem dX4_addRow_27 : decode cX4_addRow 27 = .ok (.iload_n 2, 1) := by decide +kernel
theorem dX4_addRow_28 : decode cX4_addRow 28 = .ok (.iconst 0, 1) := by decide +kernel
theorem dX4_addRow_29 : decode cX4_addRow 29 = .ok (.invokevirtual 24, 3) := by decide +kernel
theorem dX4_addRow_32 : decode cX4_addRow 32 = .ok (.iinc 2 1, 3) := by decide +kernel
theorem dX4_addRow_35 : decode cX4_addRow 35 = .ok (.goto (-18), 3) := by decide +kernel
theorem dX4_addRow_38 : decode cX4_addRow 38 = .ok (.iload_n 1, 1) := by decide +kernel
theorem dX4_addRow_39 : decode cX4_addRow 39 = .ok (.ireturn, 1) := by decide +kernel
set_option maxRecDepth 20000 in
theorem ggX4_sum_X4_cell : GoodIn wsX4_sum wsX4_cell := goodIn_r _ [6, 7, 1, 8, 9, 10, 11] (by decide +kernel) (by decide +kernel)
set_option maxRecDepth 20000 in
theorem gX4_sum_X4_cell : GoodIn wsX4_sum (wsV RX4 20 RX4 yX4_cell wsX4_cell) := goodIn_app (goodIn_of _ (by decide +kernel)) ggX4_sum_X4_cell
theorem dX4_sum_0 : decode cX4_sum 0 = .ok (.iconst 0, 1) := by decide +kernel
theorem dX4_sum_1 : decode cX4_sum 1 = .ok (.istore_n 2, 1) := by decide +kernel
theorem dX4_sum_2 : decode cX4_sum 2 = .ok (.iconst 0, 1) := by decide +kernel
theorem dX4_sum_3 : decode cX4_sum 3 = .ok (.istore_n 3, 1) := by decide +kernel
theorem dX4_sum_4 : decode cX4_sum 4 = .ok (.iload_n 3, 1) := by decide +kernel
theorem dX4_sum_5 : decode cX4_sum 5 = .ok (.aload_n 0, 1) := by decide +kernel
theorem dX4_sum_6 : decode cX4_sum 6 = .ok (.getfield 17, 3) := by decide +kernel
theorem dX4_sum_9 : decode cX4_sum 9 = .ok (.if_icmp .ge 18, 3) := by decide +kernel
theorem dX4_sum_12 : decode cX4_sum 12 = .ok (.iload_n 2, 1) := by decide +kernel
theorem dX4_sum_13 : decode cX4_sum 13 = .ok (.aload_n 0, 1) := by decide +kernel
theorem dX4_sum_14 : decode cX4_sum 14 = .ok (.iload_n 3, 1) := by decide +kernel
theorem dX4_sum_15 : decode cX4_sum 15 = .ok (.iload_n 1, 1) := by decide +kernel
theorem dX4_sum_16 : decode cX4_sum 16 = .ok (.invokevirtual 20, 3) := by decide +kernel
theorem dX4_sum_19 : decode cX4_sum 19 = .ok (.iadd, 1) := by decide +kernel
theorem dX4_sum_20 : decode cX4_sum 20 = .ok (.istore_n 2, 1) := by decide +kernel
theorem dX4_sum_21 : decode cX4_sum 21 = .ok (.iinc 3 1, 3) := by decide +kernel
theorem dX4_sum_24 : decode cX4_sum 24 = .ok (.goto (-20), 3) := by decide +kernel
theorem dX4_sum_27 : decode cX4_sum 27 = .ok (.iload_n 2, 1) := by decide +kernel
theorem dX4_sum_28 : decode cX4_sum 28 = .ok (.ireturn, 1) := by decide +kernel
theorem dX4_copyFrom_0 : decode cX4_copyFrom 0 = .ok (.aload_n 0, 1) := by decide +kernel
theorem dX4_copyFrom_1 : decode cX4_copyFrom 1 = .ok (.aload_n 1, 1) := by decide +kernel
theorem dX4_copyFrom_2 : decode cX4_copyFrom 2 = .ok (.getfield 17, 3) := by decide +kernel
theorem dX4_copyFrom_5 : decode cX4_copyFrom 5 = .ok (.putfield 17, 3) := by decide +kernel
theorem dX4_copyFrom_8 : decode cX4_copyFrom 8 = .ok (.aload_n 1, 1) := by decide +kernel
theorem dX4_copyFrom_9 : decode cX4_copyFrom 9 = .ok (.getfield 13, 3) := by decide +kernel
theorem dX4_copyFrom_12 : decode cX4_copyFrom 12 = .ok (.iconst 0, 1) := by decide +kernel
theorem dX4_copyFrom_13 : decode cX4_copyFrom 13 = .ok (.aload_n 0, 1) := by decide +kernel
theorem dX4_copyFrom_14 : decode cX4_copyFrom 14 = .ok (.getfield 13, 3) := by decide +kernel
theorem dX4_copyFrom_17 : decode cX4_copyFrom 17 = .ok (.iconst 0, 1) := by decide +kernel
theorem dX4_copyFrom_18 : decode cX4_copyFrom 18 = .ok (.aload_n 1, 1) := by decide +kernel
theorem dX4_copyFrom_19 : decode cX4_copyFrom 19 = .ok (.getfield 13, 3) := by decide +kernel
theorem dX4_copyFrom_22 : decode cX4_copyFrom 22 = .ok (.arraylength, 1) := by decide +kernel
theorem dX4_copyFrom_23 : decode cX4_copyFrom 23 = .ok (.aload_n 0, 1) := by decide +kernel
theorem dX4_copyFrom_24 : decode cX4_copyFrom 24 = .ok (.getfield 13, 3) := by decide +kernel
theorem dX4_copyFrom_27 : decode cX4_copyFrom 27 = .ok (.arraylength, 1) := by decide +kernel
theorem dX4_copyFrom_28 : decode cX4_copyFrom 28 = .ok (.invokestatic 28, 3) := by decide +kernel
theorem dX4_copyFrom_31 : decode cX4_copyFrom 31 = .ok (.invokestatic 33, 3) := by decide +kernel
theorem dX4_copyFrom_34 : decode cX4_copyFrom 34 = .ok (.return_, 1) := by decide +kernel
theorem dX5_init_0 : decode cX5_init 0 = .ok (.aload_n 0, 1) := by decide +kernel
theorem dX5_init_1 : decode cX5_init 1 = .ok (.invokespecial 3, 3) := by decide +kernel
theorem dX5_init_4 : decode cX5_init 4 = .ok (.aload_n 0, 1) := by decide +kernel
theorem dX5_init_5 : decode cX5_init 5 = .ok (.bipush 30, 2) := by decide +kernel
theorem dX5_init_7 : decode cX5_init 7 = .ok (.newarray .int, 2) := by decide +kernel
theorem dX5_init_9 : decode cX5_init 9 = .ok (.putfield 9, 3) := by decide +kernel
theorem dX5_init_12 : decode cX5_init 12 = .ok (.return_, 1) := by decide +kernel
theorem dX5_length_0 : decode cX5_length 0 = .ok (.aload_n 0, 1) := by decide +kernel
theorem dX5_length_1 : decode cX5_length 1 = .ok (.getfield 15, 3) := by decide +kernel
theorem dX5_length_4 : decode cX5_length 4 = .ok (.ireturn, 1) := by decide +kernel
theorem dX5_isFull_0 : decode cX5_isFull 0 = .ok (.aload_n 0, 1) := by decide +kernel
theorem dX5_isFull_1 : decode cX5_isFull 1 = .ok (.getfield 15, 3) := by decide +kernel
theorem dX5_isFull_4 : decode cX5_isFull 4 = .ok (.aload_n 0, 1) := by decide +kernel
theorem dX5_isFull_5 : decode cX5_isFull 5 = .ok (.getfield 9, 3) := by decide +kernel
theorem dX5_isFull_8 : decode cX5_isFull 8 = .ok (.arraylength, 1) := by decide +kernel
theorem dX5_isFull_9 : decode cX5_isFull 9 = .ok (.if_icmp .lt 7, 3) := by decide +kernel
theorem dX5_isFull_12 : decode cX5_isFull 12 = .ok (.iconst 1, 1) := by decide +kernel
theorem dX5_isFull_13 : decode cX5_isFull 13 = .ok (.goto 4, 3) := by decide +kernel
theorem dX5_isFull_16 : decode cX5_isFull 16 = .ok (.iconst 0, 1) := by decide +kernel
theorem dX5_isFull_17 : decode cX5_isFull 17 = .ok (.ireturn, 1) := by decide +kernel
theorem dX5_add_0 : decode cX5_add 0 = .ok (.aload_n 0, 1) := by decide +kernel
theorem dX5_add_1 : decode cX5_add 1 = .ok (.getfield 15, 3) := by decide +kernel
theorem dX5_add_4 : decode cX5_add 4 = .ok (.ifCond .lt 35, 3) := by decide +kernel
theorem dX5_add_7 : decode cX5_add 7 = .ok (.aload_n 0, 1) := by decide +kernel
theorem dX5_add_8 : decode cX5_add 8 = .ok (.getfield 15, 3) := by decide +kernel
theorem dX5_add_11 : decode cX5_add 11 = .ok (.aload_n 0, 1) := by decide +kernel
theorem dX5_add_12 : decode cX5_add 12 = .ok (.getfield 9, 3) := by decide +kernel
theorem dX5_add_15 : decode cX5_add 15 = .ok (.arraylength, 1) := by decide +kernel
theorem dX5_add_16 : decode cX5_add 16 = .ok (.if_icmp .ge 23, 3) := by decide +kernel
theorem dX5_add_19 : decode cX5_add 19 = .ok (.aload_n 0, 1) := by decide +kernel
theorem dX5_add_20 : decode cX5_add 20 = .ok (.getfield 9, 3) := by decide +kernel
theorem dX5_add_23 : decode cX5_add 23 = .ok (.aload_n 0, 1) := by decide +kernel
theorem dX5_add_24 : decode cX5_add 24 = .ok (.getfield 15, 3) := by decide +kernel
theorem dX5_add_27 : decode cX5_add 27 = .ok (.iload_n 1, 1) := by decide +kernel
theorem dX5_add_28 : decode cX5_add 28 = .ok (.iastore, 1) := by decide +kernel
theorem dX5_add_29 : decode cX5_add 29 = .ok (.aload_n 0, 1) := by decide +kernel
theorem dX5_add_30 : decode cX5_add 30 = .ok (.aload_n 0, 1) := by decide +kernel
theorem dX5_add_31 : decode cX5_add 31 = .ok (.getfield 15, 3) := by decide +kernel
theorem dX5_add_34 : decode cX5_add 34 = .ok (.iconst 1, 1) := by decide +kernel
theorem dX5_add_35 : decode cX5_add 35 = .ok (.iadd, 1) := by decide +kernel
theorem dX5_add_36 : decode cX5_add 36 = .ok (.putfield 15, 3) := by decide +kernel
theorem dX5_add_39 : decode cX5_add 39 = .ok (.return_, 1) := by decide +kernel
theorem dX5_empty_0 : decode cX5_empty 0 = .ok (.aload_n 0, 1) := by decide +kernel
theorem dX5_empty_1 : decode cX5_empty 1 = .ok (.iconst 0, 1) := by decide +kernel
theorem dX5_empty_2 : decode cX5_empty 2 = .ok (.putfield 15, 3) := by decide +kernel
theorem dX5_empty_5 : decode cX5_empty 5 = .ok (.return_, 1) := by decide +kernel
theorem dX5_codeAt_0 : decode cX5_codeAt 0 = .ok (.iload_n 1, 1) := by decide +kernel
theorem dX5_codeAt_1 : decode cX5_codeAt 1 = .ok (.ifCond .lt 29, 3) := by decide +kernel
theorem dX5_codeAt_4 : decode cX5_codeAt 4 = .ok (.iload_n 1, 1) := by decide +kernel
theorem dX5_codeAt_5 : decode cX5_codeAt 5 = .ok (.aload_n 0, 1) := by decide +kernel
theorem dX5_codeAt_6 : decode cX5_codeAt 6 = .ok (.getfield 15, 3) := by decide +kernel
theorem dX5_codeAt_9 : decode cX5_codeAt 9 = .ok (.if_icmp .ge 21, 3) := by decide +kernel
theorem dX5_codeAt_12 : decode cX5_codeAt 12 = .ok (.iload_n 1, 1) := by decide +kernel
theorem dX5_codeAt_13 : decode cX5_codeAt 13 = .ok (.aload_n 0, 1) := by decide +kernel
theorem dX5_codeAt_14 : decode cX5_codeAt 14 = .ok (.getfield 9, 3) := by decide +kernel
theorem dX5_codeAt_17 : decode cX5_codeAt 17 = .ok (.arraylength, 1) := by decide +kernel
theorem dX5_codeAt_18 : decode cX5_codeAt 18 = .ok (.if_icmp .ge 12, 3) := by decide +kernel
theorem dX5_codeAt_21 : decode cX5_codeAt 21 = .ok (.aload_n 0, 1) := by decide +kernel
theorem dX5_codeAt_22 : decode cX5_codeAt 22 = .ok (.getfield 9, 3) := by decide +kernel
theorem dX5_codeAt_25 : decode cX5_codeAt 25 = .ok (.iload_n 1, 1) := by decide +kernel
theorem dX5_codeAt_26 : decode cX5_codeAt 26 = .ok (.iaload, 1) := by decide +kernel
theorem dX5_codeAt_27 : decode cX5_codeAt 27 = .ok (.goto 4, 3) := by decide +kernel
theorem dX5_codeAt_30 : decode cX5_codeAt 30 = .ok (.iconst 0, 1) := by decide +kernel
theorem dX5_codeAt_31 : decode cX5_codeAt 31 = .ok (.ireturn, 1) := by decide +kernel
set_option maxRecDepth 20000 in
theorem ggX5_firstWrong_X5_codeAt : GoodIn wsX5_firstWrong wsX5_codeAt := goodIn_r _ [6, 1, 7, 8, 9] (by decide +kernel) (by decide +kernel)
set_option maxRecDepth 20000 in
theorem gX5_firstWrong_X5_codeAt : GoodIn wsX5_firstWrong (wsV RX5 19 RX5 yX5_codeAt wsX5_codeAt) := goodIn_app (goodIn_of _ (by decide +kernel)) ggX5_firstWrong_X5_codeAt
theorem dX5_firstWrong_0 : decode cX5_firstWrong 0 = .ok (.iconst 0, 1) := by decide +kernel
theorem dX5_firstWrong_1 : decode cX5_firstWrong 1 = .ok (.istore_n 1, 1) := by decide +kernel
theorem dX5_firstWrong_2 : decode cX5_firstWrong 2 = .ok (.iconst 0, 1) := by decide +kernel
theorem dX5_firstWrong_3 : decode cX5_firstWrong 3 = .ok (.istore_n 2, 1) := by decide +kernel
theorem dX5_firstWrong_4 : decode cX5_firstWrong 4 = .ok (.iload_n 2, 1) := by decide +kernel
theorem dX5_firstWrong_5 : decode cX5_firstWrong 5 = .ok (.aload_n 0, 1) := by decide +kernel
theorem dX5_firstWrong_6 : decode cX5_firstWrong 6 = .ok (.getfield 15, 3) := by decide +kernel
theorem dX5_firstWrong_9 : decode cX5_firstWrong 9 = .ok (.if_icmp .ge 80, 3) := by decide +kernel
theorem dX5_firstWrong_12 : decode cX5_firstWrong 12 = .ok (.aload_n 0, 1) := by decide +kernel
theorem dX5_firstWrong_13 : decode cX5_firstWrong 13 = .ok (.iload_n 2, 1) := by decide +kernel
theorem dX5_firstWrong_14 : decode cX5_firstWrong 14 = .ok (.invokevirtual 19, 3) := by decide +kernel
theorem dX5_firstWrong_17 : decode cX5_firstWrong 17 = .ok (.istore_n 3, 1) := by decide +kernel
theorem dX5_firstWrong_18 : decode cX5_firstWrong 18 = .ok (.iload_n 2, 1) := by decide +kernel
theorem dX5_firstWrong_19 : decode cX5_firstWrong 19 = .ok (.iconst 2, 1) := by decide +kernel
theorem dX5_firstWrong_20 : decode cX5_firstWrong 20 = .ok (.irem, 1) := by decide +kernel
theorem dX5_firstWrong_21 : decode cX5_firstWrong 21 = .ok (.ifCond .ne 42, 3) := by decide +kernel
theorem dX5_firstWrong_24 : decode cX5_firstWrong 24 = .ok (.iload_n 3, 1) := by decide +kernel
theorem dX5_firstWrong_25 : decode cX5_firstWrong 25 = .ok (.bipush 97, 2) := by decide +kernel
theorem dX5_firstWrong_27 : decode cX5_firstWrong 27 = .ok (.isub, 1) := by decide +kernel
theorem dX5_firstWrong_28 : decode cX5_firstWrong 28 = .ok (.istore 4, 2) := by decide +kernel
theorem dX5_firstWrong_30 : decode cX5_firstWrong 30 = .ok (.iload 4, 2) := by decide +kernel
theorem dX5_firstWrong_32 : decode cX5_firstWrong 32 = .ok (.ifCond .lt 19, 3) := by decide +kernel
theorem dX5_firstWrong_35 : decode cX5_firstWrong 35 = .ok (.iload 4, 2) := by decide +kernel
theorem dX5_firstWrong_37 : decode cX5_firstWrong 37 = .ok (.bipush 10, 2) := by decide +kernel
theorem dX5_firstWrong_39 : decode cX5_firstWrong 39 = .ok (.if_icmp .ge 12, 3) := by decide +kernel
theorem dX5_firstWrong_42 : decode cX5_firstWrong 42 = .ok (.iload_n 1, 1) := by decide +kernel
theorem dX5_firstWrong_43 : decode cX5_firstWrong 43 = .ok (.iconst 1, 1) := by decide +kernel
theorem dX5_firstWrong_44 : decode cX5_firstWrong 44 = .ok (.iload 4, 2) := by decide +kernel
theorem dX5_firstWrong_46 : decode cX5_firstWrong 46 = .ok (.ishl, 1) := by decide +kernel
theorem dX5_firstWrong_47 : decode cX5_firstWrong 47 = .ok (.iand, 1) := by decide +kernel
theorem dX5_firstWrong_48 : decode cX5_firstWrong 48 = .ok (.ifCond .eq 5, 3) := by decide +kernel
theorem dX5_firstWrong_51 : decode cX5_firstWrong 51 = .ok (.iload_n 2, 1) := by decide +kernel
theorem dX5_firstWrong_52 : decode cX5_firstWrong 52 = .ok (.ireturn, 1) := by decide +kernel
theorem dX5_firstWrong_53 : decode cX5_firstWrong 53 = .ok (.iload_n 1, 1) := by decide +kernel
theorem dX5_firstWrong_54 : decode cX5_firstWrong 54 = .ok (.iconst 1, 1) := by decide +kernel
theorem dX5_firstWrong_55 : decode cX5_firstWrong 55 = .ok (.iload 4, 2) := by decide +kernel
theorem dX5_firstWrong_57 : decode cX5_firstWrong 57 = .ok (.ishl, 1) := by decide +kernel
theorem dX5_firstWrong_58 : decode cX5_firstWrong 58 = .ok (.ior, 1) := by decide +kernel
theorem dX5_firstWrong_59 : decode cX5_firstWrong 59 = .ok (.istore_n 1, 1) := by decide +kernel
theorem dX5_firstWrong_60 : decode cX5_firstWrong 60 = .ok (.goto 23, 3) := by decide +kernel
theorem dX5_firstWrong_63 : decode cX5_firstWrong 63 = .ok (.iload_n 2, 1) := by decide +kernel
theorem dX5_firstWrong_64 : decode cX5_firstWrong 64 = .ok (.bipush 19, 2) := by decide +kernel
theorem dX5_firstWrong_66 : decode cX5_firstWrong 66 = .ok (.if_icmp .ge 15, 3) := by decide +kernel
theorem dX5_firstWrong_69 : decode cX5_firstWrong 69 = .ok (.iload_n 3, 1) := by decide +kernel
theorem dX5_firstWrong_70 : decode cX5_firstWrong 70 = .ok (.bipush 62, 2) := by decide +kernel
theorem dX5_firstWrong_72 : decode cX5_firstWrong 72 = .ok (.if_icmp .eq 11, 3) := by decide +kernel
theorem dX5_firstWrong_75 : decode cX5_firstWrong 75 = .ok (.iload_n 3, 1) := by decide +kernel
theorem dX5_firstWrong_76 : decode cX5_firstWrong 76 = .ok (.bipush 61, 2) := by decide +kernel
theorem dX5_firstWrong_78 : decode cX5_firstWrong 78 = .ok (.if_icmp .eq 5, 3) := by decide +kernel
theorem dX5_firstWrong_81 : decode cX5_firstWrong 81 = .ok (.iload_n 2, 1) := by decide +kernel
theorem dX5_firstWrong_82 : decode cX5_firstWrong 82 = .ok (.ireturn, 1) := by decide +kernel
theorem dX5_firstWrong_83 : decode cX5_firstWrong 83 = .ok (.iinc 2 1, 3) := by decide +kernel
theorem dX5_firstWrong_86 : decode cX5_firstWrong 86 = .ok (.goto (-82), 3) := by decide +kernel
theorem dX5_firstWrong_89 : decode cX5_firstWrong 89 = .ok (.aload_n 0, 1) := by decide +kernel
theorem dX5_firstWrong_90 : decode cX5_firstWrong 90 = .ok (.getfield 15, 3) := by decide +kernel
theorem dX5_firstWrong_93 : decode cX5_firstWrong 93 = .ok (.ireturn, 1) := by decide +kernel
set_option maxRecDepth 20000 in
theorem ggX5_isArrival_X5_firstWrong : GoodIn wsX5_isArrival wsX5_firstWrong := goodIn_r _ [6, 1, 7, 8, 9, 5, 10, 11, 12, 13] (by decide +kernel) (by decide +kernel)
set_option maxRecDepth 20000 in
theorem gX5_isArrival_X5_firstWrong : GoodIn wsX5_isArrival (wsV RX5 23 RX5 yX5_firstWrong wsX5_firstWrong) := goodIn_app (goodIn_of _ (by decide +kernel)) ggX5_isArrival_X5_firstWrong
theorem dX5_isArrival_0 : decode cX5_isArrival 0 = .ok (.aload_n 0, 1) := by decide +kernel
theorem dX5_isArrival_1 : decode cX5_isArrival 1 = .ok (.getfield 15, 3) := by decide +kernel
theorem dX5_isArrival_4 : decode cX5_isArrival 4 = .ok (.iconst 2, 1) := by decide +kernel
theorem dX5_isArrival_5 : decode cX5_isArrival 5 = .ok (.irem, 1) := by decide +kernel
theorem dX5_isArrival_6 : decode cX5_isArrival 6 = .ok (.iconst 1, 1) := by decide +kernel
theorem dX5_isArrival_7 : decode cX5_isArrival 7 = .ok (.if_icmp .ne 18, 3) := by decide +kernel
theorem dX5_isArrival_10 : decode cX5_isArrival 10 = .ok (.aload_n 0, 1) := by decide +kernel
theorem dX5_isArrival_11 : decode cX5_isArrival 11 = .ok (.invokevirtual 23, 3) := by decide +kernel
theorem dX5_isArrival_14 : decode cX5_isArrival 14 = .ok (.aload_n 0, 1) := by decide +kernel
theorem dX5_isArrival_15 : decode cX5_isArrival 15 = .ok (.getfield 15, 3) := by decide +kernel
theorem dX5_isArrival_18 : decode cX5_isArrival 18 = .ok (.if_icmp .ne 7, 3) := by decide +kernel
theorem dX5_isArrival_21 : decode cX5_isArrival 21 = .ok (.iconst 1, 1) := by decide +kernel
theorem dX5_isArrival_22 : decode cX5_isArrival 22 = .ok (.goto 4, 3) := by decide +kernel
theorem dX5_isArrival_25 : decode cX5_isArrival 25 = .ok (.iconst 0, 1) := by decide +kernel
theorem dX5_isArrival_26 : decode cX5_isArrival 26 = .ok (.ireturn, 1) := by decide +kernel
set_option maxRecDepth 20000 in
theorem ggX6_init_X1_init : GoodIn wsX6_init wsX1_init := goodIn_r _ [27, 28, 2, 3, 29, 30, 31, 32, 33, 34, 35, 36, 37, 38, 39, 40, 41, 42, 43, 93, 94, 95, 69, 70, 71, 72, 73, 74] (by decide +kernel) (by decide +kernel)
set_option maxRecDepth 20000 in
theorem gX6_init_X1_init : GoodIn wsX6_init (wsX1_init) := ggX6_init_X1_init
set_option maxRecDepth 20000 in
theorem ggX6_init_X0_init : GoodIn wsX6_init wsX0_init := goodIn_r _ [46, 47, 2, 3, 32, 48, 49, 81, 82, 83, 84, 85] (by decide +kernel) (by decide +kernel)
set_option maxRecDepth 20000 in
theorem gX6_init_X0_init : GoodIn wsX6_init (wsX0_init) := ggX6_init_X0_init
set_option maxRecDepth 20000 in
theorem ggX6_init_X5_init : GoodIn wsX6_init wsX5_init := goodIn_r _ [52, 53, 2, 3, 32, 54, 86, 87] (by decide +kernel) (by decide +kernel)
set_option maxRecDepth 20000 in
theorem gX6_init_X5_init : GoodIn wsX6_init (wsX5_init) := ggX6_init_X5_init
set_option maxRecDepth 20000 in
theorem ggX6_init_X2_init : GoodIn wsX6_init wsX2_init := goodIn_r _ [57, 58, 2, 3, 59, 60, 5, 6, 61, 26, 27, 28, 29, 30, 31, 32, 33, 34, 35, 36, 37, 38, 39, 40, 41, 42, 43, 88, 89, 90, 69, 70, 71, 72, 73, 74, 93, 94, 95] (by decide +kernel) (by decide +kernel)
set_option maxRecDepth 20000 in
theorem gX6_init_X2_init : GoodIn wsX6_init (wsX2_init) := ggX6_init_X2_init
set_option maxRecDepth 20000 in
theorem ggX6_init_X3_init : GoodIn wsX6_init wsX3_init := goodIn_r _ [64, 65, 2, 3, 66, 5, 6, 67, 68, 26, 27, 28, 29, 30, 31, 32, 33, 34, 35, 36, 37, 38, 39, 40, 41, 42, 43, 69, 70, 71, 72, 73, 74, 91, 92, 93, 94, 95] (by decide +kernel) (by decide +kernel)
set_option maxRecDepth 20000 in
theorem gX6_init_X3_init : GoodIn wsX6_init (wsX3_init) := ggX6_init_X3_init
