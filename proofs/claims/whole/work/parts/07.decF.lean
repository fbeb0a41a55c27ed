theorem dX6_init_0 : decode cX6_init 0 = .ok (.aload_n 0, 1) := by decide +kernel
theorem dX6_init_1 : decode cX6_init 1 = .ok (.invokespecial 3, 3) := by decide +kernel
theorem dX6_init_4 : decode cX6_init 4 = .ok (.aload_n 0, 1) := by decide +kernel
theorem dX6_init_5 : decode cX6_init 5 = .ok (.new 9, 3) := by decide +kernel
theorem dX6_init_8 : decode cX6_init 8 = .ok (.dup, 1) := by decide +kernel
theorem dX6_init_9 : decode cX6_init 9 = .ok (.invokespecial 11, 3) := by decide +kernel
theorem dX6_init_12 : decode cX6_init 12 = .ok (.putfield 12, 3) := by decide +kernel
theorem dX6_init_15 : decode cX6_init 15 = .ok (.aload_n 0, 1) := by decide +kernel
theorem dX6_init_16 : decode cX6_init 16 = .ok (.new 16, 3) := by decide +kernel
theorem dX6_init_19 : decode cX6_init 19 = .ok (.dup, 1) := by decide +kernel
theorem dX6_init_20 : decode cX6_init 20 = .ok (.invokespecial 18, 3) := by decide +kernel
theorem dX6_init_23 : decode cX6_init 23 = .ok (.putfield 19, 3) := by decide +kernel
theorem dX6_init_26 : decode cX6_init 26 = .ok (.aload_n 0, 1) := by decide +kernel
theorem dX6_init_27 : decode cX6_init 27 = .ok (.new 23, 3) := by decide +kernel
theorem dX6_init_30 : decode cX6_init 30 = .ok (.dup, 1) := by decide +kernel
theorem dX6_init_31 : decode cX6_init 31 = .ok (.invokespecial 25, 3) := by decide +kernel
theorem dX6_init_34 : decode cX6_init 34 = .ok (.putfield 26, 3) := by decide +kernel
theorem dX6_init_37 : decode cX6_init 37 = .ok (.aload_n 0, 1) := by decide +kernel
theorem dX6_init_38 : decode cX6_init 38 = .ok (.new 30, 3) := by decide +kernel
theorem dX6_init_41 : decode cX6_init 41 = .ok (.dup, 1) := by decide +kernel
theorem dX6_init_42 : decode cX6_init 42 = .ok (.invokespecial 32, 3) := by decide +kernel
theorem dX6_init_45 : decode cX6_init 45 = .ok (.putfield 33, 3) := by decide +kernel
theorem dX6_init_48 : decode cX6_init 48 = .ok (.aload_n 0, 1) := by decide +kernel
theorem dX6_init_49 : decode cX6_init 49 = .ok (.new 37, 3) := by decide +kernel
theorem dX6_init_52 : decode cX6_init 52 = .ok (.dup, 1) := by decide +kernel
theorem dX6_init_53 : decode cX6_init 53 = .ok (.invokespecial 39, 3) := by decide +kernel
theorem dX6_init_56 : decode cX6_init 56 = .ok (.putfield 40, 3) := by decide +kernel
theorem dX6_init_59 : decode cX6_init 59 = .ok (.aload_n 0, 1) := by decide +kernel
theorem dX6_init_60 : decode cX6_init 60 = .ok (.new 37, 3) := by decide +kernel
theorem dX6_init_63 : decode cX6_init 63 = .ok (.dup, 1) := by decide +kernel
theorem dX6_init_64 : decode cX6_init 64 = .ok (.invokespecial 39, 3) := by decide +kernel
theorem dX6_init_67 : decode cX6_init 67 = .ok (.putfield 44, 3) := by decide +kernel
theorem dX6_init_70 : decode cX6_init 70 = .ok (.return_, 1) := by decide +kernel
set_option maxRecDepth 20000 in
theorem ggX6_horse_X6_requirePrice : GoodIn wsX6_horse wsX6_requirePrice := goodIn_ca (goodIn_r _ [7, 8, 9] (by decide +kernel) (by decide +kernel)) (goodIn_sub (fun _ h => List.mem_cons_of_mem _ (List.mem_append_left _ (List.mem_append_right _ h))) (by decide +kernel))
set_option maxRecDepth 20000 in
theorem gX6_horse_X6_requirePrice : GoodIn wsX6_horse (va_wsS RX6 47 yX6_requirePrice wsX6_requirePrice) := goodIn_app (goodIn_of _ (by decide +kernel)) ggX6_horse_X6_requirePrice
set_option maxRecDepth 20000 in
theorem ggX6_horse_X6_requireOpen : GoodIn wsX6_horse wsX6_requireOpen := goodIn_ca (goodIn_r _ [13, 14, 15, 1, 16, 77, 78, 79, 80, 81, 82, 83, 84, 85, 86, 87, 88] (by decide +kernel) (by decide +kernel)) (goodIn_sub (fun _ h => List.mem_cons_of_mem _ (List.mem_append_right _ h)) (by decide +kernel))
set_option maxRecDepth 20000 in
theorem gX6_horse_X6_requireOpen : GoodIn wsX6_horse (wsV RX6 51 RX6 yX6_requireOpen wsX6_requireOpen) := goodIn_app (goodIn_of _ (by decide +kernel)) ggX6_horse_X6_requireOpen
set_option maxRecDepth 20000 in
theorem ggX6_horse_X6_requireRoom : GoodIn wsX6_horse wsX6_requireRoom := goodIn_ca (goodIn_r _ [19, 14, 15, 20, 21, 22, 23, 24, 25, 26, 27, 89, 90, 91] (by decide +kernel) (by decide +kernel)) (goodIn_sub (fun _ h => List.mem_cons_of_mem _ (List.mem_append_right _ h)) (by decide +kernel))
set_option maxRecDepth 20000 in
theorem gX6_horse_X6_requireRoom : GoodIn wsX6_horse (va_wsS RX6 58 yX6_requireRoom wsX6_requireRoom) := goodIn_app (goodIn_of _ (by decide +kernel)) ggX6_horse_X6_requireRoom
set_option maxRecDepth 20000 in
theorem ggX6_horse_X2_save : GoodIn wsX6_horse wsX2_save := goodIn_r _ [32, 33, 34, 35, 36, 37, 38, 39, 40, 41, 31, 42, 43, 44, 45, 46, 47, 48, 49, 50, 51, 52, 53, 54, 55, 56, 57, 23, 58, 25, 27, 59, 60, 61, 62, 63, 92, 93, 94, 83, 84, 85, 86, 87, 88, 89, 90, 91] (by decide +kernel) (by decide +kernel)
set_option maxRecDepth 20000 in
theorem gX6_horse_X2_save : GoodIn wsX6_horse (wsV RX6 62 RX2 yX2_save wsX2_save) := goodIn_app (goodIn_of _ (by decide +kernel)) ggX6_horse_X2_save
set_option maxRecDepth 20000 in
theorem ggX6_horse_X1_addHorse : GoodIn wsX6_horse wsX1_addHorse := goodIn_r _ [67, 49, 68, 69, 70, 23, 71, 25, 26, 72, 73, 74, 75, 27, 76, 83, 84, 85, 86, 87, 88, 89, 90, 91] (by decide +kernel) (by decide +kernel)
set_option maxRecDepth 20000 in
theorem gX6_horse_X1_addHorse : GoodIn wsX6_horse (wsV RX6 66 RX1 yX1_addHorse wsX1_addHorse) := goodIn_app (goodIn_of _ (by decide +kernel)) ggX6_horse_X1_addHorse
theorem dX6_horse_0 : decode cX6_horse 0 = .ok (.iload_n 1, 1) := by decide +kernel
theorem dX6_horse_1 : decode cX6_horse 1 = .ok (.iload_n 2, 1) := by decide +kernel
theorem dX6_horse_2 : decode cX6_horse 2 = .ok (.invokestatic 47, 3) := by decide +kernel
theorem dX6_horse_5 : decode cX6_horse 5 = .ok (.aload_n 0, 1) := by decide +kernel
theorem dX6_horse_6 : decode cX6_horse 6 = .ok (.invokevirtual 51, 3) := by decide +kernel
theorem dX6_horse_9 : decode cX6_horse 9 = .ok (.aload_n 0, 1) := by decide +kernel
theorem dX6_horse_10 : decode cX6_horse 10 = .ok (.getfield 12, 3) := by decide +kernel
theorem dX6_horse_13 : decode cX6_horse 13 = .ok (.getfield 54, 3) := by decide +kernel
theorem dX6_horse_16 : decode cX6_horse 16 = .ok (.invokestatic 58, 3) := by decide +kernel
theorem dX6_horse_19 : decode cX6_horse 19 = .ok (.aload_n 0, 1) := by decide +kernel
theorem dX6_horse_20 : decode cX6_horse 20 = .ok (.getfield 33, 3) := by decide +kernel
theorem dX6_horse_23 : decode cX6_horse 23 = .ok (.aload_n 0, 1) := by decide +kernel
theorem dX6_horse_24 : decode cX6_horse 24 = .ok (.getfield 12, 3) := by decide +kernel
theorem dX6_horse_27 : decode cX6_horse 27 = .ok (.invokevirtual 62, 3) := by decide +kernel
theorem dX6_horse_30 : decode cX6_horse 30 = .ok (.aload_n 0, 1) := by decide +kernel
theorem dX6_horse_31 : decode cX6_horse 31 = .ok (.getfield 12, 3) := by decide +kernel
theorem dX6_horse_34 : decode cX6_horse 34 = .ok (.iload_n 1, 1) := by decide +kernel
theorem dX6_horse_35 : decode cX6_horse 35 = .ok (.iload_n 2, 1) := by decide +kernel
theorem dX6_horse_36 : decode cX6_horse 36 = .ok (.invokevirtual 66, 3) := by decide +kernel
theorem dX6_horse_39 : decode cX6_horse 39 = .ok (.ireturn, 1) := by decide +kernel
set_option maxRecDepth 20000 in
theorem ggX6_price_X6_requireHorse : GoodIn wsX6_price wsX6_requireHorse := goodIn_ca (goodIn_r _ [8, 2, 3, 9, 10, 7, 11, 12, 13, 14, 15, 16, 17, 18, 19, 87, 88, 89, 90, 91, 92, 93, 94, 95, 96, 97, 98, 99, 100, 101] (by decide +kernel) (by decide +kernel)) (goodIn_sub (fun _ h => List.mem_cons_of_mem _ (List.mem_append_left _ (List.mem_append_left _ (List.mem_append_right _ h)))) (by decide +kernel))
set_option maxRecDepth 20000 in
theorem gX6_price_X6_requireHorse : GoodIn wsX6_price (wsV RX6 70 RX6 yX6_requireHorse wsX6_requireHorse) := goodIn_app (goodIn_of _ (by decide +kernel)) ggX6_price_X6_requireHorse
set_option maxRecDepth 20000 in
theorem ggX6_price_X6_requirePrice : GoodIn wsX6_price wsX6_requirePrice := goodIn_ca (goodIn_r _ [22, 23, 24] (by decide +kernel) (by decide +kernel)) (goodIn_sub (fun _ h => List.mem_cons_of_mem _ (List.mem_append_left _ (List.mem_append_right _ h))) (by decide +kernel))
set_option maxRecDepth 20000 in
theorem gX6_price_X6_requirePrice : GoodIn wsX6_price (va_wsS RX6 47 yX6_requirePrice wsX6_requirePrice) := goodIn_app (goodIn_of _ (by decide +kernel)) ggX6_price_X6_requirePrice
set_option maxRecDepth 20000 in
theorem ggX6_price_X6_requireRunning : GoodIn wsX6_price wsX6_requireRunning := goodIn_ca (goodIn_r _ [28, 29, 30, 2, 31, 32, 33, 34, 35, 36, 37, 38, 39, 17, 40, 41, 19, 42, 87, 88, 89, 90, 91, 92, 93, 94, 95, 96, 97, 98, 99, 100, 101] (by decide +kernel) (by decide +kernel)) (goodIn_sub (fun _ h => List.mem_cons_of_mem _ (List.mem_append_right _ h)) (by decide +kernel))
set_option maxRecDepth 20000 in
theorem gX6_price_X6_requireRunning : GoodIn wsX6_price (wsV RX6 74 RX6 yX6_requireRunning wsX6_requireRunning) := goodIn_app (goodIn_of _ (by decide +kernel)) ggX6_price_X6_requireRunning
set_option maxRecDepth 20000 in
theorem ggX6_price_X6_requireOpen : GoodIn wsX6_price wsX6_requireOpen := goodIn_ca (goodIn_r _ [46, 29, 30, 2, 47, 87, 88, 89, 90, 91, 92, 93, 94, 95, 96, 97, 98] (by decide +kernel) (by decide +kernel)) (goodIn_sub (fun _ h => List.mem_cons_of_mem _ (List.mem_append_right _ h)) (by decide +kernel))
set_option maxRecDepth 20000 in
theorem gX6_price_X6_requireOpen : GoodIn wsX6_price (wsV RX6 51 RX6 yX6_requireOpen wsX6_requireOpen) := goodIn_app (goodIn_of _ (by decide +kernel)) ggX6_price_X6_requireOpen
set_option maxRecDepth 20000 in
theorem ggX6_price_X2_save : GoodIn wsX6_price wsX2_save := goodIn_r _ [52, 53, 54, 55, 56, 57, 58, 59, 60, 61, 51, 62, 63, 64, 65, 66, 34, 67, 36, 68, 69, 70, 71, 72, 73, 74, 75, 17, 76, 19, 42, 77, 78, 79, 80, 81, 102, 103, 104, 93, 94, 95, 96, 97, 98, 99, 100, 101] (by decide +kernel) (by decide +kernel)
set_option maxRecDepth 20000 in
theorem gX6_price_X2_save : GoodIn wsX6_price (wsV RX6 62 RX2 yX2_save wsX2_save) := goodIn_app (goodIn_of _ (by decide +kernel)) ggX6_price_X2_save
set_option maxRecDepth 20000 in
theorem ggX6_price_X4_put : GoodIn wsX6_price wsX4_put := goodIn_r _ [85, 41, 19, 42, 99, 100, 101] (by decide +kernel) (by decide +kernel)
set_option maxRecDepth 20000 in
theorem gX6_price_X4_put : GoodIn wsX6_price (wsV RX6 77 RX4 yX4_put wsX4_put) := goodIn_app (goodIn_of _ (by decide +kernel)) ggX6_price_X4_put
set_option maxRecDepth 20000 in
theorem ggX6_price_X4_cell : GoodIn wsX6_price wsX4_cell := goodIn_r _ [40, 41, 19, 42, 99, 100, 101] (by decide +kernel) (by decide +kernel)
set_option maxRecDepth 20000 in
theorem gX6_price_X4_cell : GoodIn wsX6_price (wsV RX6 83 RX4 yX4_cell wsX4_cell) := goodIn_app (goodIn_of _ (by decide +kernel)) ggX6_price_X4_cell
theorem dX6_price_0 : decode cX6_price 0 = .ok (.aload_n 0, 1) := by decide +kernel
theorem dX6_price_1 : decode cX6_price 1 = .ok (.iload_n 1, 1) := by decide +kernel
theorem dX6_price_2 : decode cX6_price 2 = .ok (.invokevirtual 70, 3) := by decide +kernel
theorem dX6_price_5 : decode cX6_price 5 = .ok (.iload_n 2, 1) := by decide +kernel
theorem dX6_price_6 : decode cX6_price 6 = .ok (.iload_n 3, 1) := by decide +kernel
theorem dX6_price_7 : decode cX6_price 7 = .ok (.invokestatic 47, 3) := by decide +kernel
theorem dX6_price_10 : decode cX6_price 10 = .ok (.aload_n 0, 1) := by decide +kernel
theorem dX6_price_11 : decode cX6_price 11 = .ok (.iload_n 1, 1) := by decide +kernel
theorem dX6_price_12 : decode cX6_price 12 = .ok (.invokevirtual 74, 3) := by decide +kernel
theorem dX6_price_15 : decode cX6_price 15 = .ok (.aload_n 0, 1) := by decide +kernel
theorem dX6_price_16 : decode cX6_price 16 = .ok (.invokevirtual 51, 3) := by decide +kernel
theorem dX6_price_19 : decode cX6_price 19 = .ok (.aload_n 0, 1) := by decide +kernel
theorem dX6_price_20 : decode cX6_price 20 = .ok (.getfield 33, 3) := by decide +kernel
theorem dX6_price_23 : decode cX6_price 23 = .ok (.aload_n 0, 1) := by decide +kernel
theorem dX6_price_24 : decode cX6_price 24 = .ok (.getfield 12, 3) := by decide +kernel
theorem dX6_price_27 : decode cX6_price 27 = .ok (.invokevirtual 62, 3) := by decide +kernel
theorem dX6_price_30 : decode cX6_price 30 = .ok (.aload_n 0, 1) := by decide +kernel
theorem dX6_price_31 : decode cX6_price 31 = .ok (.getfield 12, 3) := by decide +kernel
theorem dX6_price_34 : decode cX6_price 34 = .ok (.getfield 54, 3) := by decide +kernel
theorem dX6_price_37 : decode cX6_price 37 = .ok (.iload_n 1, 1) := by decide +kernel
theorem dX6_price_38 : decode cX6_price 38 = .ok (.iconst 0, 1) := by decide +kernel
theorem dX6_price_39 : decode cX6_price 39 = .ok (.iload_n 2, 1) := by decide +kernel
theorem dX6_price_40 : decode cX6_price 40 = .ok (.invokevirtual 77, 3) := by decide +kernel
theorem dX6_price_43 : decode cX6_price 43 = .ok (.aload_n 0, 1) := by decide +kernel
theorem dX6_price_44 : decode cX6_price 44 = .ok (.getfield 12, 3) := by decide +kernel
theorem dX6_price_47 : decode cX6_price 47 = .ok (.getfield 54, 3) := by decide +kernel
theorem dX6_price_50 : decode cX6_price 50 = .ok (.iload_n 1, 1) := by decide +kernel
theorem dX6_price_51 : decode cX6_price 51 = .ok (.iconst 1, 1) := by decide +kernel
theorem dX6_price_52 : decode cX6_price 52 = .ok (.iload_n 3, 1) := by decide +kernel
theorem dX6_price_53 : decode cX6_price 53 = .ok (.invokevirtual 77, 3) := by decide +kernel
theorem dX6_price_56 : decode cX6_price 56 = .ok (.aload_n 0, 1) := by decide +kernel
theorem dX6_price_57 : decode cX6_price 57 = .ok (.getfield 12, 3) := by decide +kernel
theorem dX6_price_60 : decode cX6_price 60 = .ok (.getfield 54, 3) := by decide +kernel
theorem dX6_price_63 : decode cX6_price 63 = .ok (.iload_n 1, 1) := by decide +kernel
theorem dX6_price_64 : decode cX6_price 64 = .ok (.iconst 4, 1) := by decide +kernel
theorem dX6_price_65 : decode cX6_price 65 = .ok (.invokevirtual 83, 3) := by decide +kernel
theorem dX6_price_68 : decode cX6_price 68 = .ok (.ireturn, 1) := by decide +kernel
set_option maxRecDepth 20000 in
theorem ggX6_take_X6_requireHorse : GoodIn wsX6_take wsX6_requireHorse := goodIn_ca (goodIn_r _ [8, 1, 9, 10, 11, 7, 12, 13, 14, 15, 16, 17, 18, 19, 20, 108, 109, 110, 111, 112, 113, 114, 115, 116, 117, 118, 119, 120, 121, 122] (by decide +kernel) (by decide +kernel)) (goodIn_sub (fun _ h => List.mem_cons_of_mem _ (List.mem_append_left _ (List.mem_append_left _ (List.mem_append_right _ h)))) (by decide +kernel))
set_option maxRecDepth 20000 in
theorem gX6_take_X6_requireHorse : GoodIn wsX6_take (wsV RX6 70 RX6 yX6_requireHorse wsX6_requireHorse) := goodIn_app (goodIn_of _ (by decide +kernel)) ggX6_take_X6_requireHorse
set_option maxRecDepth 20000 in
theorem ggX6_take_X6_requireStake : GoodIn wsX6_take wsX6_requireStake := goodIn_ca (goodIn_r _ [23, 24, 25] (by decide +kernel) (by decide +kernel)) (goodIn_sub (fun _ h => List.mem_cons_of_mem _ (List.mem_append_left _ (List.mem_append_right _ h))) (by decide +kernel))
set_option maxRecDepth 20000 in
theorem gX6_take_X6_requireStake : GoodIn wsX6_take (va_wsS RX6 86 yX6_requireStake wsX6_requireStake) := goodIn_app (goodIn_of _ (by decide +kernel)) ggX6_take_X6_requireStake
set_option maxRecDepth 20000 in
theorem ggX6_take_X6_requireRunning : GoodIn wsX6_take wsX6_requireRunning := goodIn_ca (goodIn_r _ [29, 30, 31, 1, 32, 33, 34, 35, 36, 37, 38, 39, 40, 18, 41, 42, 20, 43, 108, 109, 110, 111, 112, 113, 114, 115, 116, 117, 118, 119, 120, 121, 122] (by decide +kernel) (by decide +kernel)) (goodIn_sub (fun _ h => List.mem_cons_of_mem _ (List.mem_append_right _ h)) (by decide +kernel))
set_option maxRecDepth 20000 in
theorem gX6_take_X6_requireRunning : GoodIn wsX6_take (wsV RX6 74 RX6 yX6_requireRunning wsX6_requireRunning) := goodIn_app (goodIn_of _ (by decide +kernel)) ggX6_take_X6_requireRunning
set_option maxRecDepth 20000 in
theorem ggX6_take_X6_requireOpen : GoodIn wsX6_take wsX6_requireOpen := goodIn_ca (goodIn_r _ [47, 30, 31, 1, 48, 108, 109, 110, 111, 112, 113, 114, 115, 116, 117, 118, 119] (by decide +kernel) (by decide +kernel)) (goodIn_sub (fun _ h => List.mem_cons_of_mem _ (List.mem_append_right _ h)) (by decide +kernel))
set_option maxRecDepth 20000 in
theorem gX6_take_X6_requireOpen : GoodIn wsX6_take (wsV RX6 51 RX6 yX6_requireOpen wsX6_requireOpen) := goodIn_app (goodIn_of _ (by decide +kernel)) ggX6_take_X6_requireOpen
set_option maxRecDepth 20000 in
theorem ggX6_take_X6_requireRoom : GoodIn wsX6_take wsX6_requireRoom := goodIn_ca (goodIn_r _ [51, 30, 31, 52, 53, 54, 18, 55, 20, 42, 43, 120, 121, 122] (by decide +kernel) (by decide +kernel)) (goodIn_sub (fun _ h => List.mem_cons_of_mem _ (List.mem_append_right _ h)) (by decide +kernel))
set_option maxRecDepth 20000 in
theorem gX6_take_X6_requireRoom : GoodIn wsX6_take (va_wsS RX6 58 yX6_requireRoom wsX6_requireRoom) := goodIn_app (goodIn_of _ (by decide +kernel)) ggX6_take_X6_requireRoom
set_option maxRecDepth 20000 in
theorem ggX6_take_X2_save : GoodIn wsX6_take wsX2_save := goodIn_r _ [60, 61, 62, 63, 64, 65, 66, 67, 68, 69, 59, 70, 71, 72, 73, 74, 35, 75, 37, 76, 77, 78, 79, 80, 81, 82, 83, 18, 84, 20, 43, 85, 86, 87, 88, 89, 123, 124, 125, 114, 115, 116, 117, 118, 119, 120, 121, 122] (by decide +kernel) (by decide +kernel)
set_option maxRecDepth 20000 in
theorem gX6_take_X2_save : GoodIn wsX6_take (wsV RX6 62 RX2 yX2_save wsX2_save) := goodIn_app (goodIn_of _ (by decide +kernel)) ggX6_take_X2_save
set_option maxRecDepth 20000 in
theorem ggX6_take_X1_addBet : GoodIn wsX6_take wsX1_addBet := goodIn_r _ [93, 76, 37, 94, 95, 96, 18, 97, 20, 42, 98, 99, 100, 101, 43, 102, 38, 39, 40, 41, 103, 104, 105, 106, 107, 114, 115, 116, 117, 118, 119, 120, 121, 122] (by decide +kernel) (by decide +kernel)
set_option maxRecDepth 20000 in
theorem gX6_take_X1_addBet : GoodIn wsX6_take (wsV RX6 92 RX1 yX1_addBet wsX1_addBet) := goodIn_app (goodIn_of _ (by decide +kernel)) ggX6_take_X1_addBet
theorem dX6_take_0 : decode cX6_take 0 = .ok (.aload_n 0, 1) := by decide +kernel
theorem dX6_take_1 : decode cX6_take 1 = .ok (.iload_n 1, 1) := by decide +kernel
theorem dX6_take_2 : decode cX6_take 2 = .ok (.invokevirtual 70, 3) := by decide +kernel
theorem dX6_take_5 : decode cX6_take 5 = .ok (.iload_n 2, 1) := by decide +kernel
theorem dX6_take_6 : decode cX6_take 6 = .ok (.invokestatic 86, 3) := by decide +kernel
theorem dX6_take_9 : decode cX6_take 9 = .ok (.aload_n 0, 1) := by decide +kernel
theorem dX6_take_10 : decode cX6_take 10 = .ok (.iload_n 1, 1) := by decide +kernel
theorem dX6_take_11 : decode cX6_take 11 = .ok (.invokevirtual 74, 3) := by decide +kernel
theorem dX6_take_14 : decode cX6_take 14 = .ok (.aload_n 0, 1) := by decide +kernel
theorem dX6_take_15 : decode cX6_take 15 = .ok (.invokevirtual 51, 3) := by decide +kernel
theorem dX6_take_18 : decode cX6_take 18 = .ok (.aload_n 0, 1) := by decide +kernel
theorem dX6_take_19 : decode cX6_take 19 = .ok (.getfield 12, 3) := by decide +kernel
theorem dX6_take_22 : decode cX6_take 22 = .ok (.getfield 89, 3) := by decide +kernel
theorem dX6_take_25 : decode cX6_take 25 = .ok (.invokestatic 58, 3) := by decide +kernel
theorem dX6_take_28 : decode cX6_take 28 = .ok (.aload_n 0, 1) := by decide +kernel
theorem dX6_take_29 : decode cX6_take 29 = .ok (.getfield 33, 3) := by decide +kernel
theorem dX6_take_32 : decode cX6_take 32 = .ok (.aload_n 0, 1) := by decide +kernel
theorem dX6_take_33 : decode cX6_take 33 = .ok (.getfield 12, 3) := by decide +kernel
theorem dX6_take_36 : decode cX6_take 36 = .ok (.invokevirtual 62, 3) := by decide +kernel
theorem dX6_take_39 : decode cX6_take 39 = .ok (.aload_n 0, 1) := by decide +kernel
theorem dX6_take_40 : decode cX6_take 40 = .ok (.getfield 12, 3) := by decide +kernel
theorem dX6_take_43 : decode cX6_take 43 = .ok (.iload_n 1, 1) := by decide +kernel
theorem dX6_take_44 : decode cX6_take 44 = .ok (.iload_n 2, 1) := by decide +kernel
theorem dX6_take_45 : decode cX6_take 45 = .ok (.iload_n 3, 1) := by decide +kernel
theorem dX6_take_46 : decode cX6_take 46 = .ok (.invokevirtual 92, 3) := by decide +kernel
theorem dX6_take_49 : decode cX6_take 49 = .ok (.ireturn, 1) := by decide +kernel
set_option maxRecDepth 20000 in
theorem ggX6_layOff_X6_requireHorse : GoodIn wsX6_layOff wsX6_requireHorse := goodIn_ca (goodIn_r _ [8, 1, 9, 10, 11, 7, 12, 13, 14, 15, 16, 17, 18, 19, 20, 106, 107, 108, 109, 110, 111, 112, 113, 114, 115, 116, 117, 118, 119, 120] (by decide +kernel) (by decide +kernel)) (goodIn_sub (fun _ h => List.mem_cons_of_mem _ (List.mem_append_left _ (List.mem_append_left _ (List.mem_append_right _ h)))) (by decide +kernel))
set_option maxRecDepth 20000 in
theorem gX6_layOff_X6_requireHorse : GoodIn wsX6_layOff (wsV RX6 70 RX6 yX6_requireHorse wsX6_requireHorse) := goodIn_app (goodIn_of _ (by decide +kernel)) ggX6_layOff_X6_requireHorse
set_option maxRecDepth 20000 in
theorem ggX6_layOff_X6_requireStake : GoodIn wsX6_layOff wsX6_requireStake := goodIn_ca (goodIn_r _ [23, 24, 25] (by decide +kernel) (by decide +kernel)) (goodIn_sub (fun _ h => List.mem_cons_of_mem _ (List.mem_append_left _ (List.mem_append_right _ h))) (by decide +kernel))
set_option maxRecDepth 20000 in
theorem gX6_layOff_X6_requireStake : GoodIn wsX6_layOff (va_wsS RX6 86 yX6_requireStake wsX6_requireStake) := goodIn_app (goodIn_of _ (by decide +kernel)) ggX6_layOff_X6_requireStake
set_option maxRecDepth 20000 in
theorem ggX6_layOff_X6_requirePrice : GoodIn wsX6_layOff wsX6_requirePrice := goodIn_ca (goodIn_r _ [28, 24, 25] (by decide +kernel) (by decide +kernel)) (goodIn_sub (fun _ h => List.mem_cons_of_mem _ (List.mem_append_left _ (List.mem_append_right _ h))) (by decide +kernel))
set_option maxRecDepth 20000 in
theorem gX6_layOff_X6_requirePrice : GoodIn wsX6_layOff (va_wsS RX6 47 yX6_requirePrice wsX6_requirePrice) := goodIn_app (goodIn_of _ (by decide +kernel)) ggX6_layOff_X6_requirePrice
set_option maxRecDepth 20000 in
theorem ggX6_layOff_X6_requireRunning : GoodIn wsX6_layOff wsX6_requireRunning := goodIn_ca (goodIn_r _ [32, 33, 34, 1, 35, 36, 37, 38, 39, 40, 41, 42, 43, 18, 44, 45, 20, 46, 106, 107, 108, 109, 110, 111, 112, 113, 114, 115, 116, 117, 118, 119, 120] (by decide +kernel) (by decide +kernel)) (goodIn_sub (fun _ h => List.mem_cons_of_mem _ (List.mem_append_right _ h)) (by decide +kernel))
set_option maxRecDepth 20000 in
theorem gX6_layOff_X6_requireRunning : GoodIn wsX6_layOff (wsV RX6 74 RX6 yX6_requireRunning wsX6_requireRunning) := goodIn_app (goodIn_of _ (by decide +kernel)) ggX6_layOff_X6_requireRunning
set_option maxRecDepth 20000 in
theorem ggX6_layOff_X6_requireOpen : GoodIn wsX6_layOff wsX6_requireOpen := goodIn_ca (goodIn_r _ [50, 33, 34, 1, 51, 106, 107, 108, 109, 110, 111, 112, 113, 114, 115, 116, 117] (by decide +kernel) (by decide +kernel)) (goodIn_sub (fun _ h => List.mem_cons_of_mem _ (List.mem_append_right _ h)) (by decide +kernel))
set_option maxRecDepth 20000 in
theorem gX6_layOff_X6_requireOpen : GoodIn wsX6_layOff (wsV RX6 51 RX6 yX6_requireOpen wsX6_requireOpen) := goodIn_app (goodIn_of _ (by decide +kernel)) ggX6_layOff_X6_requireOpen
set_option maxRecDepth 20000 in
theorem ggX6_layOff_X6_requireRoom : GoodIn wsX6_layOff wsX6_requireRoom := goodIn_ca (goodIn_r _ [54, 33, 34, 55, 56, 57, 18, 58, 20, 45, 46, 118, 119, 120] (by decide +kernel) (by decide +kernel)) (goodIn_sub (fun _ h => List.mem_cons_of_mem _ (List.mem_append_right _ h)) (by decide +kernel))
set_option maxRecDepth 20000 in
theorem gX6_layOff_X6_requireRoom : GoodIn wsX6_layOff (va_wsS RX6 58 yX6_requireRoom wsX6_requireRoom) := goodIn_app (goodIn_of _ (by decide +kernel)) ggX6_layOff_X6_requireRoom
set_option maxRecDepth 20000 in
theorem ggX6_layOff_X2_save : GoodIn wsX6_layOff wsX2_save := goodIn_r _ [63, 64, 65, 66, 67, 68, 69, 70, 71, 72, 62, 73, 74, 75, 76, 77, 38, 78, 40, 79, 80, 81, 82, 83, 84, 85, 86, 18, 87, 20, 46, 88, 89, 90, 91, 92, 121, 122, 123, 112, 113, 114, 115, 116, 117, 118, 119, 120] (by decide +kernel) (by decide +kernel)
set_option maxRecDepth 20000 in
theorem gX6_layOff_X2_save : GoodIn wsX6_layOff (wsV RX6 62 RX2 yX2_save wsX2_save) := goodIn_app (goodIn_of _ (by decide +kernel)) ggX6_layOff_X2_save
set_option maxRecDepth 20000 in
theorem ggX6_layOff_X1_addLaid : GoodIn wsX6_layOff wsX1_addLaid := goodIn_r _ [96, 80, 97, 98, 99, 18, 100, 20, 45, 101, 102, 103, 104, 46, 105, 112, 113, 114, 115, 116, 117, 118, 119, 120] (by decide +kernel) (by decide +kernel)
set_option maxRecDepth 20000 in
theorem gX6_layOff_X1_addLaid : GoodIn wsX6_layOff (wsV RX6 99 RX1 yX1_addLaid wsX1_addLaid) := goodIn_app (goodIn_of _ (by decide +kernel)) ggX6_layOff_X1_addLaid
theorem dX6_layOff_0 : decode cX6_layOff 0 = .ok (.aload_n 0, 1) := by decide +kernel
theorem dX6_layOff_1 : decode cX6_layOff 1 = .ok (.iload_n 1, 1) := by decide +kernel
theorem dX6_layOff_2 : decode cX6_layOff 2 = .ok (.invokevirtual 70, 3) := by decide +kernel
theorem dX6_layOff_5 : decode cX6_layOff 5 = .ok (.iload_n 2, 1) := by decide +kernel
theorem dX6_layOff_6 : decode cX6_layOff 6 = .ok (.invokestatic 86, 3) := by decide +kernel
theorem dX6_layOff_9 : decode cX6_layOff 9 = .ok (.iload_n 3, 1) := by decide +kernel
theorem dX6_layOff_10 : decode cX6_layOff 10 = .ok (.iload 4, 2) := by decide +kernel
theorem dX6_layOff_12 : decode cX6_layOff 12 = .ok (.invokestatic 47, 3) := by decide +kernel
theorem dX6_layOff_15 : decode cX6_layOff 15 = .ok (.aload_n 0, 1) := by decide +kernel
theorem dX6_layOff_16 : decode cX6_layOff 16 = .ok (.iload_n 1, 1) := by decide +kernel
theorem dX6_layOff_17 : decode cX6_layOff 17 = .ok (.invokevirtual 74, 3) := by decide +kernel
theorem dX6_layOff_20 : decode cX6_layOff 20 = .ok (.aload_n 0, 1) := by decide +kernel
theorem dX6_layOff_21 : decode cX6_layOff 21 = .ok (.invokevirtual 51, 3) := by decide +kernel
theorem dX6_layOff_24 : decode cX6_layOff 24 = .ok (.aload_n 0, 1) := by decide +kernel
theorem dX6_layOff_25 : decode cX6_layOff 25 = .ok (.getfield 12, 3) := by decide +kernel
theorem dX6_layOff_28 : decode cX6_layOff 28 = .ok (.getfield 96, 3) := by decide +kernel
theorem dX6_layOff_31 : decode cX6_layOff 31 = .ok (.invokestatic 58, 3) := by decide +kernel
theorem dX6_layOff_34 : decode cX6_layOff 34 = .ok (.aload_n 0, 1) := by decide +kernel
theorem dX6_layOff_35 : decode cX6_layOff 35 = .ok (.getfield 33, 3) := by decide +kernel
theorem dX6_layOff_38 : decode cX6_layOff 38 = .ok (.aload_n 0, 1) := by decide +kernel
theorem dX6_layOff_39 : decode cX6_layOff 39 = .ok (.getfield 12, 3) := by decide +kernel
theorem dX6_layOff_42 : decode cX6_layOff 42 = .ok (.invokevirtual 62, 3) := by decide +kernel
theorem dX6_layOff_45 : decode cX6_layOff 45 = .ok (.aload_n 0, 1) := by decide +kernel
theorem dX6_layOff_46 : decode cX6_layOff 46 = .ok (.getfield 12, 3) := by decide +kernel
theorem dX6_layOff_49 : decode cX6_layOff 49 = .ok (.iload_n 1, 1) := by decide +kernel
theorem dX6_layOff_50 : decode cX6_layOff 50 = .ok (.iload_n 2, 1) := by decide +kernel
theorem dX6_layOff_51 : decode cX6_layOff 51 = .ok (.iload_n 3, 1) := by decide +kernel
theorem dX6_layOff_52 : decode cX6_layOff 52 = .ok (.iload 4, 2) := by decide +kernel
theorem dX6_layOff_54 : decode cX6_layOff 54 = .ok (.invokevirtual 99, 3) := by decide +kernel
theorem dX6_layOff_57 : decode cX6_layOff 57 = .ok (.ireturn, 1) := by decide +kernel
set_option maxRecDepth 20000 in
theorem ggX6_withdraw_X6_requireHorse : GoodIn wsX6_withdraw wsX6_requireHorse := goodIn_ca (goodIn_r _ [7, 2, 8, 9, 10, 6, 11, 12, 13, 14, 15, 16, 17, 18, 19, 94, 95, 96, 97, 98, 99, 100, 101, 102, 103, 104, 105, 106, 107, 108] (by decide +kernel) (by decide +kernel)) (goodIn_sub (fun _ h => List.mem_cons_of_mem _ (List.mem_append_left _ (List.mem_append_right _ h))) (by decide +kernel))
set_option maxRecDepth 20000 in
theorem gX6_withdraw_X6_requireHorse : GoodIn wsX6_withdraw (wsV RX6 70 RX6 yX6_requireHorse wsX6_requireHorse) := goodIn_app (goodIn_of _ (by decide +kernel)) ggX6_withdraw_X6_requireHorse
set_option maxRecDepth 20000 in
theorem ggX6_withdraw_X6_requireRunning : GoodIn wsX6_withdraw wsX6_requireRunning := goodIn_ca (goodIn_r _ [23, 24, 25, 2, 26, 27, 28, 29, 30, 31, 32, 33, 34, 17, 35, 36, 19, 37, 94, 95, 96, 97, 98, 99, 100, 101, 102, 103, 104, 105, 106, 107, 108] (by decide +kernel) (by decide +kernel)) (goodIn_sub (fun _ h => List.mem_cons_of_mem _ (List.mem_append_right _ h)) (by decide +kernel))
set_option maxRecDepth 20000 in
theorem gX6_withdraw_X6_requireRunning : GoodIn wsX6_withdraw (wsV RX6 74 RX6 yX6_requireRunning wsX6_requireRunning) := goodIn_app (goodIn_of _ (by decide +kernel)) ggX6_withdraw_X6_requireRunning
set_option maxRecDepth 20000 in
theorem ggX6_withdraw_X6_requireOpen : GoodIn wsX6_withdraw wsX6_requireOpen := goodIn_ca (goodIn_r _ [41, 24, 25, 2, 42, 94, 95, 96, 97, 98, 99, 100, 101, 102, 103, 104, 105] (by decide +kernel) (by decide +kernel)) (goodIn_sub (fun _ h => List.mem_cons_of_mem _ (List.mem_append_right _ h)) (by decide +kernel))
set_option maxRecDepth 20000 in
theorem gX6_withdraw_X6_requireOpen : GoodIn wsX6_withdraw (wsV RX6 51 RX6 yX6_requireOpen wsX6_requireOpen) := goodIn_app (goodIn_of _ (by decide +kernel)) ggX6_withdraw_X6_requireOpen
set_option maxRecDepth 20000 in
theorem ggX6_withdraw_X2_save : GoodIn wsX6_withdraw wsX2_save := goodIn_r _ [47, 48, 49, 50, 51, 52, 53, 54, 55, 56, 46, 57, 58, 59, 60, 61, 29, 62, 31, 63, 64, 65, 66, 67, 68, 69, 70, 17, 71, 19, 37, 72, 73, 74, 75, 76, 109, 110, 111, 100, 101, 102, 103, 104, 105, 106, 107, 108] (by decide +kernel) (by decide +kernel)
set_option maxRecDepth 20000 in
theorem gX6_withdraw_X2_save : GoodIn wsX6_withdraw (wsV RX6 62 RX2 yX2_save wsX2_save) := goodIn_app (goodIn_of _ (by decide +kernel)) ggX6_withdraw_X2_save
set_option maxRecDepth 20000 in
theorem ggX6_withdraw_X1_takeOut : GoodIn wsX6_withdraw wsX1_takeOut := goodIn_r _ [80, 81, 51, 52, 53, 31, 63, 82, 83, 84, 29, 85, 32, 33, 34, 17, 35, 36, 19, 37, 86, 87, 88, 89, 90, 91, 92, 93, 100, 101, 102, 103, 104, 105, 106, 107, 108] (by decide +kernel) (by decide +kernel)
set_option maxRecDepth 20000 in
theorem gX6_withdraw_X1_takeOut : GoodIn wsX6_withdraw (wsV RX6 103 RX1 yX1_takeOut wsX1_takeOut) := goodIn_app (goodIn_of _ (by decide +kernel)) ggX6_withdraw_X1_takeOut
theorem dX6_withdraw_0 : decode cX6_withdraw 0 = .ok (.aload_n 0, 1) := by decide +kernel
theorem dX6_withdraw_1 : decode cX6_withdraw 1 = .ok (.iload_n 1, 1) := by decide +kernel
theorem dX6_withdraw_2 : decode cX6_withdraw 2 = .ok (.invokevirtual 70, 3) := by decide +kernel
theorem dX6_withdraw_5 : decode cX6_withdraw 5 = .ok (.aload_n 0, 1) := by decide +kernel
theorem dX6_withdraw_6 : decode cX6_withdraw 6 = .ok (.iload_n 1, 1) := by decide +kernel
theorem dX6_withdraw_7 : decode cX6_withdraw 7 = .ok (.invokevirtual 74, 3) := by decide +kernel
theorem dX6_withdraw_10 : decode cX6_withdraw 10 = .ok (.aload_n 0, 1) := by decide +kernel
theorem dX6_withdraw_11 : decode cX6_withdraw 11 = .ok (.invokevirtual 51, 3) := by decide +kernel
theorem dX6_withdraw_14 : decode cX6_withdraw 14 = .ok (.aload_n 0, 1) := by decide +kernel
theorem dX6_withdraw_15 : decode cX6_withdraw 15 = .ok (.getfield 33, 3) := by decide +kernel
theorem dX6_withdraw_18 : decode cX6_withdraw 18 = .ok (.aload_n 0, 1) := by decide +kernel
theorem dX6_withdraw_19 : decode cX6_withdraw 19 = .ok (.getfield 12, 3) := by decide +kernel
theorem dX6_withdraw_22 : decode cX6_withdraw 22 = .ok (.invokevirtual 62, 3) := by decide +kernel
theorem dX6_withdraw_25 : decode cX6_withdraw 25 = .ok (.aload_n 0, 1) := by decide +kernel
theorem dX6_withdraw_26 : decode cX6_withdraw 26 = .ok (.getfield 12, 3) := by decide +kernel
theorem dX6_withdraw_29 : decode cX6_withdraw 29 = .ok (.iload_n 1, 1) := by decide +kernel
theorem dX6_withdraw_30 : decode cX6_withdraw 30 = .ok (.invokevirtual 103, 3) := by decide +kernel
theorem dX6_withdraw_33 : decode cX6_withdraw 33 = .ok (.ireturn, 1) := by decide +kernel
set_option maxRecDepth 20000 in
theorem ggX6_settle_X6_readArrival : GoodIn wsX6_settle wsX6_readArrival := goodIn_r _ [11, 6, 5, 4, 12, 13, 14, 15, 16, 17, 18, 19, 20, 21, 22, 23, 24, 25, 26, 27, 28, 29, 30, 31, 32, 33, 34, 35, 36, 37, 38, 39, 40, 41, 42, 43, 44, 45, 46, 47, 48, 49, 50, 51, 52, 53, 54, 55, 56, 57, 58, 59, 60, 61, 62, 63, 64, 65, 66, 67, 68, 69, 70, 71, 72, 180, 181, 182, 183, 184, 185, 186, 187, 188, 189, 190, 191, 192, 193, 194, 195, 196, 197, 198, 199, 200, 201] (by decide +kernel) (by decide +kernel)
set_option maxRecDepth 20000 in
theorem gX6_settle_X6_readArrival : GoodIn wsX6_settle (wsV RX6 107 RX6 yX6_readArrival wsX6_readArrival) := goodIn_app (goodIn_of _ (by decide +kernel)) ggX6_settle_X6_readArrival
set_option maxRecDepth 20000 in
theorem ggX6_settle_X6_requireOpen : GoodIn wsX6_settle wsX6_requireOpen := goodIn_ca (goodIn_r _ [76, 77, 78, 4, 79, 180, 181, 182, 183, 184, 185, 188, 189, 190, 191, 192, 193] (by decide +kernel) (by decide +kernel)) (goodIn_sub (fun _ h => List.mem_cons_of_mem _ (List.mem_append_right _ h)) (by decide +kernel))
set_option maxRecDepth 20000 in
theorem gX6_settle_X6_requireOpen : GoodIn wsX6_settle (wsV RX6 51 RX6 yX6_requireOpen wsX6_requireOpen) := goodIn_app (goodIn_of _ (by decide +kernel)) ggX6_settle_X6_requireOpen
set_option maxRecDepth 20000 in
theorem ggX6_settle_X2_save : GoodIn wsX6_settle wsX2_save := goodIn_r _ [84, 85, 86, 87, 88, 89, 90, 91, 92, 93, 83, 94, 95, 96, 97, 98, 30, 99, 36, 100, 101, 102, 103, 104, 105, 106, 107, 40, 108, 42, 48, 109, 110, 111, 112, 113, 202, 203, 204, 188, 189, 190, 191, 192, 193, 194, 195, 196] (by decide +kernel) (by decide +kernel)
set_option maxRecDepth 20000 in
theorem gX6_settle_X2_save : GoodIn wsX6_settle (wsV RX6 62 RX2 yX2_save wsX2_save) := goodIn_app (goodIn_of _ (by decide +kernel)) ggX6_settle_X2_save
set_option maxRecDepth 20000 in
theorem ggX6_settle_X1_settleBy : GoodIn wsX6_settle wsX1_settleBy := goodIn_r _ [117, 36, 100, 101, 102, 118, 119, 120, 40, 121, 42, 122, 123, 124, 52, 125, 54, 126, 127, 128, 129, 47, 48, 130, 131, 132, 133, 55, 134, 135, 136, 30, 137, 68, 44, 45, 46, 138, 65, 66, 67, 139, 140, 141, 142, 143, 144, 145, 146, 147, 148, 149, 150, 151, 152, 153, 154, 88, 89, 90, 103, 155, 156, 157, 158, 56, 159, 160, 161, 162, 163, 164, 165, 166, 188, 189, 190, 191, 192, 193, 194, 195, 196, 197, 198, 199, 200, 201] (by decide +kernel) (by decide +kernel)
set_option maxRecDepth 20000 in
theorem gX6_settle_X1_settleBy : GoodIn wsX6_settle (wsV RX6 118 RX1 yX1_settleBy wsX1_settleBy) := goodIn_app (goodIn_of _ (by decide +kernel)) ggX6_settle_X1_settleBy
set_option maxRecDepth 20000 in
theorem ggX6_settle_X5_empty : GoodIn wsX6_settle wsX5_empty := goodIn_r _ [170, 17, 186, 187] (by decide +kernel) (by decide +kernel)
set_option maxRecDepth 20000 in
theorem gX6_settle_X5_empty : GoodIn wsX6_settle (wsV RX6 122 RX5 yX5_empty wsX5_empty) := goodIn_app (goodIn_of _ (by decide +kernel)) ggX6_settle_X5_empty
set_option maxRecDepth 20000 in
theorem ggX6_settle_X1_won : GoodIn wsX6_settle wsX1_won := goodIn_r _ [174, 100, 101, 175, 176, 177, 178, 30, 179, 118, 119, 120, 40, 121, 42, 139, 140, 141, 142, 68, 44, 45, 46, 47, 48, 37, 38, 39, 41, 43, 188, 189, 190, 191, 192, 193, 194, 195, 196] (by decide +kernel) (by decide +kernel)
set_option maxRecDepth 20000 in
theorem gX6_settle_X1_won : GoodIn wsX6_settle (wsV RX6 125 RX1 yX1_won wsX1_won) := goodIn_app (goodIn_of _ (by decide +kernel)) ggX6_settle_X1_won
theorem dX6_settle_0 : decode cX6_settle 0 = .ok (.aload_n 0, 1) := by decide +kernel
theorem dX6_settle_1 : decode cX6_settle 1 = .ok (.invokevirtual 107, 3) := by decide +kernel
theorem dX6_settle_4 : decode cX6_settle 4 = .ok (.ifCond .ne 13, 3) := by decide +kernel
theorem dX6_settle_7 : decode cX6_settle 7 = .ok (.new 111, 3) := by decide +kernel
theorem dX6_settle_10 : decode cX6_settle 10 = .ok (.dup, 1) := by decide +kernel
theorem dX6_settle_11 : decode cX6_settle 11 = .ok (.ldc 113, 2) := by decide +kernel
theorem dX6_settle_13 : decode cX6_settle 13 = .ok (.invokespecial 115, 3) := by decide +kernel
theorem dX6_settle_16 : decode cX6_settle 16 = .ok (.athrow, 1) := by decide +kernel
theorem dX6_settle_17 : decode cX6_settle 17 = .ok (.aload_n 0, 1) := by decide +kernel
theorem dX6_settle_18 : decode cX6_settle 18 = .ok (.invokevirtual 51, 3) := by decide +kernel
theorem dX6_settle_21 : decode cX6_settle 21 = .ok (.aload_n 0, 1) := by decide +kernel
theorem dX6_settle_22 : decode cX6_settle 22 = .ok (.getfield 33, 3) := by decide +kernel
theorem dX6_settle_25 : decode cX6_settle 25 = .ok (.aload_n 0, 1) := by decide +kernel
theorem dX6_settle_26 : decode cX6_settle 26 = .ok (.getfield 12, 3) := by decide +kernel
theorem dX6_settle_29 : decode cX6_settle 29 = .ok (.invokevirtual 62, 3) := by decide +kernel
theorem dX6_settle_32 : decode cX6_settle 32 = .ok (.aload_n 0, 1) := by decide +kernel
theorem dX6_settle_33 : decode cX6_settle 33 = .ok (.getfield 12, 3) := by decide +kernel
theorem dX6_settle_36 : decode cX6_settle 36 = .ok (.aload_n 0, 1) := by decide +kernel
theorem dX6_settle_37 : decode cX6_settle 37 = .ok (.getfield 19, 3) := by decide +kernel
theorem dX6_settle_40 : decode cX6_settle 40 = .ok (.invokevirtual 118, 3) := by decide +kernel
theorem dX6_settle_43 : decode cX6_settle 43 = .ok (.aload_n 0, 1) := by decide +kernel
theorem dX6_settle_44 : decode cX6_settle 44 = .ok (.getfield 26, 3) := by decide +kernel
theorem dX6_settle_47 : decode cX6_settle 47 = .ok (.invokevirtual 122, 3) := by decide +kernel
theorem dX6_settle_50 : decode cX6_settle 50 = .ok (.aload_n 0, 1) := by decide +kernel
theorem dX6_settle_51 : decode cX6_settle 51 = .ok (.getfield 12, 3) := by decide +kernel
theorem dX6_settle_54 : decode cX6_settle 54 = .ok (.invokevirtual 125, 3) := by decide +kernel
theorem dX6_settle_57 : decode cX6_settle 57 = .ok (.ireturn, 1) := by decide +kernel
set_option maxRecDepth 20000 in
theorem ggX6_set_X6_requireSetting : GoodIn wsX6_set wsX6_requireSetting := goodIn_ca (goodIn_r _ [10, 11, 12] (by decide +kernel) (by decide +kernel)) (goodIn_sub (fun _ h => List.mem_cons_of_mem _ (List.mem_append_left _ (List.mem_append_right _ h))) (by decide +kernel))
set_option maxRecDepth 20000 in
theorem gX6_set_X6_requireSetting : GoodIn wsX6_set (va_wsS RX6 129 yX6_requireSetting wsX6_requireSetting) := goodIn_app (goodIn_of _ (by decide +kernel)) ggX6_set_X6_requireSetting
set_option maxRecDepth 20000 in
theorem ggX6_set_X6_fits : GoodIn wsX6_set wsX6_fits := goodIn_r _ [15, 16] (by decide +kernel) (by decide +kernel)
set_option maxRecDepth 20000 in
theorem gX6_set_X6_fits : GoodIn wsX6_set (va_wsS RX6 132 yX6_fits wsX6_fits) := goodIn_app (goodIn_of _ (by decide +kernel)) ggX6_set_X6_fits
set_option maxRecDepth 20000 in
theorem ggX6_set_X6_requireOpen : GoodIn wsX6_set wsX6_requireOpen := goodIn_ca (goodIn_r _ [20, 21, 22, 4, 23, 67, 68, 69, 70, 71, 72, 73, 74, 75, 76, 77, 78] (by decide +kernel) (by decide +kernel)) (goodIn_sub (fun _ h => List.mem_cons_of_mem _ (List.mem_append_right _ h)) (by decide +kernel))
set_option maxRecDepth 20000 in
theorem gX6_set_X6_requireOpen : GoodIn wsX6_set (wsV RX6 51 RX6 yX6_requireOpen wsX6_requireOpen) := goodIn_app (goodIn_of _ (by decide +kernel)) ggX6_set_X6_requireOpen
set_option maxRecDepth 20000 in
theorem ggX6_set_X2_save : GoodIn wsX6_set wsX2_save := goodIn_r _ [28, 29, 30, 31, 32, 33, 34, 35, 36, 37, 27, 38, 39, 40, 41, 42, 43, 44, 45, 46, 47, 48, 49, 50, 51, 52, 53, 54, 55, 56, 57, 58, 59, 60, 61, 62, 79, 80, 81, 73, 74, 75, 76, 77, 78, 82, 83, 84] (by decide +kernel) (by decide +kernel)
set_option maxRecDepth 20000 in
theorem gX6_set_X2_save : GoodIn wsX6_set (wsV RX6 62 RX2 yX2_save wsX2_save) := goodIn_app (goodIn_of _ (by decide +kernel)) ggX6_set_X2_save
set_option maxRecDepth 20000 in
theorem ggX6_set_X6_settingNow : GoodIn wsX6_set wsX6_settingNow := goodIn_r _ [66, 4, 5, 6, 67, 68, 69, 70, 71, 72, 73, 74, 75, 76, 77, 78] (by decide +kernel) (by decide +kernel)
set_option maxRecDepth 20000 in
theorem gX6_set_X6_settingNow : GoodIn wsX6_set (wsV RX6 138 RX6 yX6_settingNow wsX6_settingNow) := goodIn_app (goodIn_of _ (by decide +kernel)) ggX6_set_X6_settingNow
theorem dX6_set_0 : decode cX6_set 0 = .ok (.iload_n 1, 1) := by decide +kernel
theorem dX6_set_1 : decode cX6_set 1 = .ok (.invokestatic 129, 3) := by decide +kernel
theorem dX6_set_4 : decode cX6_set 4 = .ok (.iload_n 1, 1) := by decide +kernel
theorem dX6_set_5 : decode cX6_set 5 = .ok (.iload_n 2, 1) := by decide +kernel
theorem dX6_set_6 : decode cX6_set 6 = .ok (.invokestatic 132, 3) := by decide +kernel
theorem dX6_set_9 : decode cX6_set 9 = .ok (.ifCond .ne 13, 3) := by decide +kernel
theorem dX6_set_12 : decode cX6_set 12 = .ok (.new 111, 3) := by decide +kernel
theorem dX6_set_15 : decode cX6_set 15 = .ok (.dup, 1) := by decide +kernel
theorem dX6_set_16 : decode cX6_set 16 = .ok (.ldc 136, 2) := by decide +kernel
theorem dX6_set_18 : decode cX6_set 18 = .ok (.invokespecial 115, 3) := by decide +kernel
theorem dX6_set_21 : decode cX6_set 21 = .ok (.athrow, 1) := by decide +kernel
theorem dX6_set_22 : decode cX6_set 22 = .ok (.aload_n 0, 1) := by decide +kernel
theorem dX6_set_23 : decode cX6_set 23 = .ok (.invokevirtual 51, 3) := by decide +kernel
theorem dX6_set_26 : decode cX6_set 26 = .ok (.aload_n 0, 1) := by decide +kernel
theorem dX6_set_27 : decode cX6_set 27 = .ok (.getfield 33, 3) := by decide +kernel
theorem dX6_set_30 : decode cX6_set 30 = .ok (.aload_n 0, 1) := by decide +kernel
theorem dX6_set_31 : decode cX6_set 31 = .ok (.getfield 12, 3) := by decide +kernel
theorem dX6_set_34 : decode cX6_set 34 = .ok (.invokevirtual 62, 3) := by decide +kernel
theorem dX6_set_37 : decode cX6_set 37 = .ok (.aload_n 0, 1) := by decide +kernel
theorem dX6_set_38 : decode cX6_set 38 = .ok (.iload_n 1, 1) := by decide +kernel
theorem dX6_set_39 : decode cX6_set 39 = .ok (.invokevirtual 138, 3) := by decide +kernel
theorem dX6_set_42 : decode cX6_set 42 = .ok (.istore_n 3, 1) := by decide +kernel
theorem dX6_set_43 : decode cX6_set 43 = .ok (.iload_n 1, 1) := by decide +kernel
theorem dX6_set_44 : decode cX6_set 44 = .ok (.ifCond .ne 14, 3) := by decide +kernel
theorem dX6_set_47 : decode cX6_set 47 = .ok (.aload_n 0, 1) := by decide +kernel
theorem dX6_set_48 : decode cX6_set 48 = .ok (.getfield 12, 3) := by decide +kernel
theorem dX6_set_51 : decode cX6_set 51 = .ok (.iload_n 2, 1) := by decide +kernel
theorem dX6_set_52 : decode cX6_set 52 = .ok (.putfield 141, 3) := by decide +kernel
theorem dX6_set_55 : decode cX6_set 55 = .ok (.goto 11, 3) := by decide +kernel
theorem dX6_set_58 : decode cX6_set 58 = .ok (.aload_n 0, 1) := by decide +kernel
theorem dX6_set_59 : decode cX6_set 59 = .ok (.getfield 12, 3) := by decide +kernel
theorem dX6_set_62 : decode cX6_set 62 = .ok (.iload_n 2, 1) := by decide +kernel
theorem dX6_set_63 : decode cX6_set 63 = .ok (.putfield 145, 3) := by decide +kernel
theorem dX6_set_66 : decode cX6_set 66 = .ok (.iload_n 3, 1) := by decide +kernel
theorem dX6_set_67 : decode cX6_set 67 = .ok (.ireturn, 1) := by decide +kernel
set_option maxRecDepth 20000 in
theorem ggX6_append_X5_isFull : GoodIn wsX6_append wsX5_isFull := goodIn_r _ [10, 11, 12, 27, 28] (by decide +kernel) (by decide +kernel)
set_option maxRecDepth 20000 in
theorem gX6_append_X5_isFull : GoodIn wsX6_append (wsV RX6 150 RX5 yX5_isFull wsX5_isFull) := goodIn_app (goodIn_of _ (by decide +kernel)) ggX6_append_X5_isFull
set_option maxRecDepth 20000 in
theorem ggX6_append_X5_add : GoodIn wsX6_append wsX5_add := goodIn_r _ [16, 11, 12, 27, 28] (by decide +kernel) (by decide +kernel)
set_option maxRecDepth 20000 in
theorem gX6_append_X5_add : GoodIn wsX6_append (wsV RX6 158 RX5 yX5_add wsX5_add) := goodIn_app (goodIn_of _ (by decide +kernel)) ggX6_append_X5_add
set_option maxRecDepth 20000 in
theorem ggX6_append_X5_length : GoodIn wsX6_append wsX5_length := goodIn_r _ [20, 11, 27, 28] (by decide +kernel) (by decide +kernel)
set_option maxRecDepth 20000 in
theorem gX6_append_X5_length : GoodIn wsX6_append (wsV RX6 161 RX5 yX5_length wsX5_length) := goodIn_app (goodIn_of _ (by decide +kernel)) ggX6_append_X5_length
theorem dX6_append_0 : decode cX6_append 0 = .ok (.iload_n 1, 1) := by decide +kernel
theorem dX6_append_1 : decode cX6_append 1 = .ok (.bipush 33, 2) := by decide +kernel
theorem dX6_append_3 : decode cX6_append 3 = .ok (.if_icmp .lt 9, 3) := by decide +kernel
theorem dX6_append_6 : decode cX6_append 6 = .ok (.iload_n 1, 1) := by decide +kernel
theorem dX6_append_7 : decode cX6_append 7 = .ok (.bipush 126, 2) := by decide +kernel
theorem dX6_append_9 : decode cX6_append 9 = .ok (.if_icmp .le 13, 3) := by decide +kernel
theorem dX6_append_12 : decode cX6_append 12 = .ok (.new 111, 3) := by decide +kernel
theorem dX6_append_15 : decode cX6_append 15 = .ok (.dup, 1) := by decide +kernel
theorem dX6_append_16 : decode cX6_append 16 = .ok (.ldc 148, 2) := by decide +kernel
theorem dX6_append_18 : decode cX6_append 18 = .ok (.invokespecial 115, 3) := by decide +kernel
theorem dX6_append_21 : decode cX6_append 21 = .ok (.athrow, 1) := by decide +kernel
theorem dX6_append_22 : decode cX6_append 22 = .ok (.aload_n 0, 1) := by decide +kernel
theorem dX6_append_23 : decode cX6_append 23 = .ok (.getfield 26, 3) := by decide +kernel
theorem dX6_append_26 : decode cX6_append 26 = .ok (.invokevirtual 150, 3) := by decide +kernel
theorem dX6_append_29 : decode cX6_append 29 = .ok (.ifCond .eq 13, 3) := by decide +kernel
theorem dX6_append_32 : decode cX6_append 32 = .ok (.new 153, 3) := by decide +kernel
theorem dX6_append_35 : decode cX6_append 35 = .ok (.dup, 1) := by decide +kernel
theorem dX6_append_36 : decode cX6_append 36 = .ok (.ldc 155, 2) := by decide +kernel
theorem dX6_append_38 : decode cX6_append 38 = .ok (.invokespecial 157, 3) := by decide +kernel
theorem dX6_append_41 : decode cX6_append 41 = .ok (.athrow, 1) := by decide +kernel
theorem dX6_append_42 : decode cX6_append 42 = .ok (.aload_n 0, 1) := by decide +kernel
theorem dX6_append_43 : decode cX6_append 43 = .ok (.getfield 26, 3) := by decide +kernel
theorem dX6_append_46 : decode cX6_append 46 = .ok (.iload_n 1, 1) := by decide +kernel
theorem dX6_append_47 : decode cX6_append 47 = .ok (.invokevirtual 158, 3) := by decide +kernel
theorem dX6_append_50 : decode cX6_append 50 = .ok (.aload_n 0, 1) := by decide +kernel
theorem dX6_append_51 : decode cX6_append 51 = .ok (.getfield 26, 3) := by decide +kernel
theorem dX6_append_54 : decode cX6_append 54 = .ok (.invokevirtual 161, 3) := by decide +kernel
theorem dX6_append_57 : decode cX6_append 57 = .ok (.ireturn, 1) := by decide +kernel
set_option maxRecDepth 20000 in
theorem ggX6_clearBuffer_X5_length : GoodIn wsX6_clearBuffer wsX5_length := goodIn_r _ [6, 7, 18, 19] (by decide +kernel) (by decide +kernel)
set_option maxRecDepth 20000 in
theorem gX6_clearBuffer_X5_length : GoodIn wsX6_clearBuffer (wsV RX6 161 RX5 yX5_length wsX5_length) := goodIn_app (goodIn_of _ (by decide +kernel)) ggX6_clearBuffer_X5_length
set_option maxRecDepth 20000 in
theorem ggX6_clearBuffer_X5_empty : GoodIn wsX6_clearBuffer wsX5_empty := goodIn_r _ [11, 7, 18, 19] (by decide +kernel) (by decide +kernel)
set_option maxRecDepth 20000 in
theorem gX6_clearBuffer_X5_empty : GoodIn wsX6_clearBuffer (wsV RX6 122 RX5 yX5_empty wsX5_empty) := goodIn_app (goodIn_of _ (by decide +kernel)) ggX6_clearBuffer_X5_empty
theorem dX6_clearBuffer_0 : decode cX6_clearBuffer 0 = .ok (.aload_n 0, 1) := by decide +kernel
theorem dX6_clearBuffer_1 : decode cX6_clearBuffer 1 = .ok (.getfield 26, 3) := by decide +kernel
theorem dX6_clearBuffer_4 : decode cX6_clearBuffer 4 = .ok (.invokevirtual 161, 3) := by decide +kernel
theorem dX6_clearBuffer_7 : decode cX6_clearBuffer 7 = .ok (.istore_n 1, 1) := by decide +kernel
theorem dX6_clearBuffer_8 : decode cX6_clearBuffer 8 = .ok (.aload_n 0, 1) := by decide +kernel
theorem dX6_clearBuffer_9 : decode cX6_clearBuffer 9 = .ok (.getfield 26, 3) := by decide +kernel
theorem dX6_clearBuffer_12 : decode cX6_clearBuffer 12 = .ok (.invokevirtual 122, 3) := by decide +kernel
theorem dX6_clearBuffer_15 : decode cX6_clearBuffer 15 = .ok (.iload_n 1, 1) := by decide +kernel
theorem dX6_clearBuffer_16 : decode cX6_clearBuffer 16 = .ok (.ireturn, 1) := by decide +kernel
set_option maxRecDepth 20000 in
theorem ggX6_firstError_X5_firstWrong : GoodIn wsX6_firstError wsX5_firstWrong := goodIn_r _ [6, 7, 8, 9, 10, 5, 11, 12, 19, 20] (by decide +kernel) (by decide +kernel)
set_option maxRecDepth 20000 in
theorem gX6_firstError_X5_firstWrong : GoodIn wsX6_firstError (wsV RX6 164 RX5 yX5_firstWrong wsX5_firstWrong) := goodIn_app (goodIn_of _ (by decide +kernel)) ggX6_firstError_X5_firstWrong
theorem dX6_firstError_0 : decode cX6_firstError 0 = .ok (.aload_n 0, 1) := by decide +kernel
theorem dX6_firstError_1 : decode cX6_firstError 1 = .ok (.getfield 26, 3) := by decide +kernel
theorem dX6_firstError_4 : decode cX6_firstError 4 = .ok (.invokevirtual 164, 3) := by decide +kernel
theorem dX6_firstError_7 : decode cX6_firstError 7 = .ok (.ireturn, 1) := by decide +kernel
set_option maxRecDepth 20000 in
theorem ggX6_keep_X6_requireSlot : GoodIn wsX6_keep wsX6_requireSlot := goodIn_ca (goodIn_r _ [6, 7, 8] (by decide +kernel) (by decide +kernel)) (goodIn_sub (fun _ h => List.mem_cons_of_mem _ (List.mem_append_right _ h)) (by decide +kernel))
set_option maxRecDepth 20000 in
theorem gX6_keep_X6_requireSlot : GoodIn wsX6_keep (va_wsS RX6 167 yX6_requireSlot wsX6_requireSlot) := goodIn_app (goodIn_of _ (by decide +kernel)) ggX6_keep_X6_requireSlot
set_option maxRecDepth 20000 in
theorem ggX6_keep_X6_slotOf : GoodIn wsX6_keep wsX6_slotOf := goodIn_r _ [12, 13, 14, 52, 53, 54, 55, 56, 57] (by decide +kernel) (by decide +kernel)
set_option maxRecDepth 20000 in
theorem gX6_keep_X6_slotOf : GoodIn wsX6_keep (wsV RX6 170 RX6 yX6_slotOf wsX6_slotOf) := goodIn_app (goodIn_of _ (by decide +kernel)) ggX6_keep_X6_slotOf
set_option maxRecDepth 20000 in
theorem ggX6_keep_X3_fill : GoodIn wsX6_keep wsX3_fill := goodIn_r _ [19, 20, 21, 22, 23, 24, 25, 26, 27, 28, 29, 30, 31, 32, 33, 34, 35, 36, 37, 38, 39, 40, 41, 42, 43, 44, 45, 46, 47, 64, 65, 58, 59, 60, 61, 62, 63, 66, 67, 68] (by decide +kernel) (by decide +kernel)
set_option maxRecDepth 20000 in
theorem gX6_keep_X3_fill : GoodIn wsX6_keep (wsV RX6 174 RX3 yX3_fill wsX3_fill) := goodIn_app (goodIn_of _ (by decide +kernel)) ggX6_keep_X3_fill
set_option maxRecDepth 20000 in
theorem ggX6_keep_X4_size : GoodIn wsX6_keep wsX4_size := goodIn_r _ [51, 38, 66, 67, 68] (by decide +kernel) (by decide +kernel)
set_option maxRecDepth 20000 in
theorem gX6_keep_X4_size : GoodIn wsX6_keep (wsV RX6 177 RX4 yX4_size wsX4_size) := goodIn_app (goodIn_of _ (by decide +kernel)) ggX6_keep_X4_size
theorem dX6_keep_0 : decode cX6_keep 0 = .ok (.iload_n 1, 1) := by decide +kernel
theorem dX6_keep_1 : decode cX6_keep 1 = .ok (.invokestatic 167, 3) := by decide +kernel
theorem dX6_keep_4 : decode cX6_keep 4 = .ok (.aload_n 0, 1) := by decide +kernel
theorem dX6_keep_5 : decode cX6_keep 5 = .ok (.iload_n 1, 1) := by decide +kernel
theorem dX6_keep_6 : decode cX6_keep 6 = .ok (.invokevirtual 170, 3) := by decide +kernel
theorem dX6_keep_9 : decode cX6_keep 9 = .ok (.aload_n 0, 1) := by decide +kernel
theorem dX6_keep_10 : decode cX6_keep 10 = .ok (.getfield 12, 3) := by decide +kernel
theorem dX6_keep_13 : decode cX6_keep 13 = .ok (.invokevirtual 174, 3) := by decide +kernel
theorem dX6_keep_16 : decode cX6_keep 16 = .ok (.aload_n 0, 1) := by decide +kernel
theorem dX6_keep_17 : decode cX6_keep 17 = .ok (.getfield 12, 3) := by decide +kernel
theorem dX6_keep_20 : decode cX6_keep 20 = .ok (.getfield 89, 3) := by decide +kernel
theorem dX6_keep_23 : decode cX6_keep 23 = .ok (.invokevirtual 177, 3) := by decide +kernel
theorem dX6_keep_26 : decode cX6_keep 26 = .ok (.ireturn, 1) := by decide +kernel
set_option maxRecDepth 20000 in
theorem ggX6_goBack_X6_requireSlot : GoodIn wsX6_goBack wsX6_requireSlot := goodIn_ca (goodIn_r _ [9, 10, 11] (by decide +kernel) (by decide +kernel)) (goodIn_sub (fun _ h => List.mem_cons_of_mem _ (List.mem_append_right _ h)) (by decide +kernel))
set_option maxRecDepth 20000 in
theorem gX6_goBack_X6_requireSlot : GoodIn wsX6_goBack (va_wsS RX6 167 yX6_requireSlot wsX6_requireSlot) := goodIn_app (goodIn_of _ (by decide +kernel)) ggX6_goBack_X6_requireSlot
set_option maxRecDepth 20000 in
theorem ggX6_goBack_X6_slotOf : GoodIn wsX6_goBack wsX6_slotOf := goodIn_r _ [15, 16, 17, 73, 74, 75, 76, 77, 78] (by decide +kernel) (by decide +kernel)
set_option maxRecDepth 20000 in
theorem gX6_goBack_X6_slotOf : GoodIn wsX6_goBack (wsV RX6 170 RX6 yX6_slotOf wsX6_slotOf) := goodIn_app (goodIn_of _ (by decide +kernel)) ggX6_goBack_X6_slotOf
set_option maxRecDepth 20000 in
theorem ggX6_goBack_X3_isFull : GoodIn wsX6_goBack wsX3_isFull := goodIn_r _ [22, 23, 85, 86] (by decide +kernel) (by decide +kernel)
set_option maxRecDepth 20000 in
theorem gX6_goBack_X3_isFull : GoodIn wsX6_goBack (wsV RX6 180 RX3 yX3_isFull wsX3_isFull) := goodIn_app (goodIn_of _ (by decide +kernel)) ggX6_goBack_X3_isFull
set_option maxRecDepth 20000 in
theorem ggX6_goBack_X2_save : GoodIn wsX6_goBack wsX2_save := goodIn_r _ [28, 29, 30, 31, 32, 33, 34, 35, 36, 37, 27, 38, 39, 40, 41, 42, 43, 44, 45, 46, 47, 48, 49, 50, 51, 52, 53, 54, 55, 56, 57, 58, 59, 60, 61, 62, 87, 88, 89, 79, 80, 81, 82, 83, 84, 90, 91, 92] (by decide +kernel) (by decide +kernel)
set_option maxRecDepth 20000 in
theorem gX6_goBack_X2_save : GoodIn wsX6_goBack (wsV RX6 62 RX2 yX2_save wsX2_save) := goodIn_app (goodIn_of _ (by decide +kernel)) ggX6_goBack_X2_save
set_option maxRecDepth 20000 in
theorem ggX6_goBack_X3_bringBack : GoodIn wsX6_goBack wsX3_bringBack := goodIn_r _ [66, 67, 68, 41, 42, 43, 44, 45, 46, 47, 48, 49, 50, 51, 52, 53, 54, 55, 56, 57, 58, 32, 33, 34, 59, 60, 61, 62, 85, 86, 79, 80, 81, 82, 83, 84, 90, 91, 92] (by decide +kernel) (by decide +kernel)
set_option maxRecDepth 20000 in
theorem gX6_goBack_X3_bringBack : GoodIn wsX6_goBack (wsV RX6 183 RX3 yX3_bringBack wsX3_bringBack) := goodIn_app (goodIn_of _ (by decide +kernel)) ggX6_goBack_X3_bringBack
set_option maxRecDepth 20000 in
theorem ggX6_goBack_X4_size : GoodIn wsX6_goBack wsX4_size := goodIn_r _ [72, 56, 90, 91, 92] (by decide +kernel) (by decide +kernel)
set_option maxRecDepth 20000 in
theorem gX6_goBack_X4_size : GoodIn wsX6_goBack (wsV RX6 177 RX4 yX4_size wsX4_size) := goodIn_app (goodIn_of _ (by decide +kernel)) ggX6_goBack_X4_size
theorem dX6_goBack_0 : decode cX6_goBack 0 = .ok (.iload_n 1, 1) := by decide +kernel
theorem dX6_goBack_1 : decode cX6_goBack 1 = .ok (.invokestatic 167, 3) := by decide +kernel
theorem dX6_goBack_4 : decode cX6_goBack 4 = .ok (.aload_n 0, 1) := by decide +kernel
theorem dX6_goBack_5 : decode cX6_goBack 5 = .ok (.iload_n 1, 1) := by decide +kernel
theorem dX6_goBack_6 : decode cX6_goBack 6 = .ok (.invokevirtual 170, 3) := by decide +kernel
theorem dX6_goBack_9 : decode cX6_goBack 9 = .ok (.astore_n 2, 1) := by decide +kernel
theorem dX6_goBack_10 : decode cX6_goBack 10 = .ok (.aload_n 2, 1) := by decide +kernel
theorem dX6_goBack_11 : decode cX6_goBack 11 = .ok (.invokevirtual 180, 3) := by decide +kernel
theorem dX6_goBack_14 : decode cX6_goBack 14 = .ok (.ifCond .ne 13, 3) := by decide +kernel
theorem dX6_goBack_17 : decode cX6_goBack 17 = .ok (.new 153, 3) := by decide +kernel
theorem dX6_goBack_20 : decode cX6_goBack 20 = .ok (.dup, 1) := by decide +kernel
theorem dX6_goBack_21 : decode cX6_goBack 21 = .ok (.ldc 181, 2) := by decide +kernel
theorem dX6_goBack_23 : decode cX6_goBack 23 = .ok (.invokespecial 157, 3) := by decide +kernel
theorem dX6_goBack_26 : decode cX6_goBack 26 = .ok (.athrow, 1) := by decide +kernel
theorem dX6_goBack_27 : decode cX6_goBack 27 = .ok (.aload_n 0, 1) := by decide +kernel
theorem dX6_goBack_28 : decode cX6_goBack 28 = .ok (.getfield 33, 3) := by decide +kernel
theorem dX6_goBack_31 : decode cX6_goBack 31 = .ok (.aload_n 0, 1) := by decide +kernel
theorem dX6_goBack_32 : decode cX6_goBack 32 = .ok (.getfield 12, 3) := by decide +kernel
theorem dX6_goBack_35 : decode cX6_goBack 35 = .ok (.invokevirtual 62, 3) := by decide +kernel
theorem dX6_goBack_38 : decode cX6_goBack 38 = .ok (.aload_n 2, 1) := by decide +kernel
theorem dX6_goBack_39 : decode cX6_goBack 39 = .ok (.aload_n 0, 1) := by decide +kernel
theorem dX6_goBack_40 : decode cX6_goBack 40 = .ok (.getfield 12, 3) := by decide +kernel
theorem dX6_goBack_43 : decode cX6_goBack 43 = .ok (.invokevirtual 183, 3) := by decide +kernel
theorem dX6_goBack_46 : decode cX6_goBack 46 = .ok (.aload_n 0, 1) := by decide +kernel
theorem dX6_goBack_47 : decode cX6_goBack 47 = .ok (.getfield 12, 3) := by decide +kernel
theorem dX6_goBack_50 : decode cX6_goBack 50 = .ok (.getfield 89, 3) := by decide +kernel
theorem dX6_goBack_53 : decode cX6_goBack 53 = .ok (.invokevirtual 177, 3) := by decide +kernel
theorem dX6_goBack_56 : decode cX6_goBack 56 = .ok (.ireturn, 1) := by decide +kernel
set_option maxRecDepth 20000 in
theorem ggX6_undo_X2_size : GoodIn wsX6_undo wsX2_size := goodIn_r _ [9, 10, 53, 54, 55] (by decide +kernel) (by decide +kernel)
set_option maxRecDepth 20000 in
theorem gX6_undo_X2_size : GoodIn wsX6_undo (wsV RX6 186 RX2 yX2_size wsX2_size) := goodIn_app (goodIn_of _ (by decide +kernel)) ggX6_undo_X2_size
set_option maxRecDepth 20000 in
theorem ggX6_undo_X2_restore : GoodIn wsX6_undo wsX2_restore := goodIn_r _ [14, 15, 10, 16, 17, 18, 8, 19, 20, 21, 22, 23, 24, 25, 26, 27, 28, 29, 30, 31, 32, 33, 34, 35, 36, 37, 38, 39, 40, 41, 42, 43, 44, 45, 46, 53, 54, 55, 56, 57, 58, 59, 60, 61, 62, 63, 64] (by decide +kernel) (by decide +kernel)
set_option maxRecDepth 20000 in
theorem gX6_undo_X2_restore : GoodIn wsX6_undo (wsV RX6 189 RX2 yX2_restore wsX2_restore) := goodIn_app (goodIn_of _ (by decide +kernel)) ggX6_undo_X2_restore
theorem dX6_undo_0 : decode cX6_undo 0 = .ok (.aload_n 0, 1) := by decide +kernel
theorem dX6_undo_1 : decode cX6_undo 1 = .ok (.getfield 33, 3) := by decide +kernel
theorem dX6_undo_4 : decode cX6_undo 4 = .ok (.invokevirtual 186, 3) := by decide +kernel
theorem dX6_undo_7 : decode cX6_undo 7 = .ok (.ifCond .ne 13, 3) := by decide +kernel
theorem dX6_undo_10 : decode cX6_undo 10 = .ok (.new 153, 3) := by decide +kernel
theorem dX6_undo_13 : decode cX6_undo 13 = .ok (.dup, 1) := by decide +kernel
theorem dX6_undo_14 : decode cX6_undo 14 = .ok (.ldc 187, 2) := by decide +kernel
theorem dX6_undo_16 : decode cX6_undo 16 = .ok (.invokespecial 157, 3) := by decide +kernel
theorem dX6_undo_19 : decode cX6_undo 19 = .ok (.athrow, 1) := by decide +kernel
theorem dX6_undo_20 : decode cX6_undo 20 = .ok (.aload_n 0, 1) := by decide +kernel
theorem dX6_undo_21 : decode cX6_undo 21 = .ok (.getfield 33, 3) := by decide +kernel
theorem dX6_undo_24 : decode cX6_undo 24 = .ok (.aload_n 0, 1) := by decide +kernel
theorem dX6_undo_25 : decode cX6_undo 25 = .ok (.getfield 12, 3) := by decide +kernel
theorem dX6_undo_28 : decode cX6_undo 28 = .ok (.invokevirtual 189, 3) := by decide +kernel
theorem dX6_undo_31 : decode cX6_undo 31 = .ok (.aload_n 0, 1) := by decide +kernel
theorem dX6_undo_32 : decode cX6_undo 32 = .ok (.getfield 33, 3) := by decide +kernel
theorem dX6_undo_35 : decode cX6_undo 35 = .ok (.invokevirtual 186, 3) := by decide +kernel
theorem dX6_undo_38 : decode cX6_undo 38 = .ok (.ireturn, 1) := by decide +kernel
set_option maxRecDepth 20000 in
theorem ggX6_horseOf_X6_requireHorse : GoodIn wsX6_horseOf wsX6_requireHorse := goodIn_ca (goodIn_r _ [7, 1, 2, 8, 9, 6, 10, 11, 12, 13, 14, 15, 16, 17, 18, 30, 31, 32, 33, 34, 35, 36, 37, 38, 39, 40, 41, 42, 43, 44] (by decide +kernel) (by decide +kernel)) (goodIn_sub (fun _ h => List.mem_cons_of_mem _ (List.mem_append_left _ (List.mem_append_right _ h))) (by decide +kernel))
set_option maxRecDepth 20000 in
theorem gX6_horseOf_X6_requireHorse : GoodIn wsX6_horseOf (wsV RX6 70 RX6 yX6_requireHorse wsX6_requireHorse) := goodIn_app (goodIn_of _ (by decide +kernel)) ggX6_horseOf_X6_requireHorse
set_option maxRecDepth 20000 in
theorem ggX6_horseOf_X6_requireProperty : GoodIn wsX6_horseOf wsX6_requireProperty := goodIn_ca (goodIn_r _ [21, 22, 23] (by decide +kernel) (by decide +kernel)) (goodIn_sub (fun _ h => List.mem_cons_of_mem _ (List.mem_append_right _ h)) (by decide +kernel))
set_option maxRecDepth 20000 in
theorem gX6_horseOf_X6_requireProperty : GoodIn wsX6_horseOf (va_wsS RX6 192 yX6_requireProperty wsX6_requireProperty) := goodIn_app (goodIn_of _ (by decide +kernel)) ggX6_horseOf_X6_requireProperty
set_option maxRecDepth 20000 in
theorem ggX6_horseOf_X4_cell : GoodIn wsX6_horseOf wsX4_cell := goodIn_r _ [27, 28, 18, 29, 42, 43, 44] (by decide +kernel) (by decide +kernel)
set_option maxRecDepth 20000 in
theorem gX6_horseOf_X4_cell : GoodIn wsX6_horseOf (wsV RX6 83 RX4 yX4_cell wsX4_cell) := goodIn_app (goodIn_of _ (by decide +kernel)) ggX6_horseOf_X4_cell
theorem dX6_horseOf_0 : decode cX6_horseOf 0 = .ok (.aload_n 0, 1) := by decide +kernel
theorem dX6_horseOf_1 : decode cX6_horseOf 1 = .ok (.iload_n 1, 1) := by decide +kernel
theorem dX6_horseOf_2 : decode cX6_horseOf 2 = .ok (.invokevirtual 70, 3) := by decide +kernel
theorem dX6_horseOf_5 : decode cX6_horseOf 5 = .ok (.iload_n 2, 1) := by decide +kernel
theorem dX6_horseOf_6 : decode cX6_horseOf 6 = .ok (.bipush 9, 2) := by decide +kernel
theorem dX6_horseOf_8 : decode cX6_horseOf 8 = .ok (.invokestatic 192, 3) := by decide +kernel
theorem dX6_horseOf_11 : decode cX6_horseOf 11 = .ok (.aload_n 0, 1) := by decide +kernel
theorem dX6_horseOf_12 : decode cX6_horseOf 12 = .ok (.getfield 12, 3) := by decide +kernel
theorem dX6_horseOf_15 : decode cX6_horseOf 15 = .ok (.getfield 54, 3) := by decide +kernel
theorem dX6_horseOf_18 : decode cX6_horseOf 18 = .ok (.iload_n 1, 1) := by decide +kernel
theorem dX6_horseOf_19 : decode cX6_horseOf 19 = .ok (.iload_n 2, 1) := by decide +kernel
theorem dX6_horseOf_20 : decode cX6_horseOf 20 = .ok (.invokevirtual 83, 3) := by decide +kernel
theorem dX6_horseOf_23 : decode cX6_horseOf 23 = .ok (.ireturn, 1) := by decide +kernel
set_option maxRecDepth 20000 in
theorem ggX6_bet_X6_requireRow : GoodIn wsX6_bet wsX6_requireRow := goodIn_ca (goodIn_r _ [6, 7, 8, 9, 10, 11, 12, 13, 14, 38, 39, 40] (by decide +kernel) (by decide +kernel)) (goodIn_sub (fun _ h => List.mem_cons_of_mem _ (List.mem_append_left _ (List.mem_append_right _ h))) (by decide +kernel))
set_option maxRecDepth 20000 in
theorem gX6_bet_X6_requireRow : GoodIn wsX6_bet (va_wsS RX6 195 yX6_requireRow wsX6_requireRow) := goodIn_app (goodIn_of _ (by decide +kernel)) ggX6_bet_X6_requireRow
set_option maxRecDepth 20000 in
theorem ggX6_bet_X6_requireProperty : GoodIn wsX6_bet wsX6_requireProperty := goodIn_ca (goodIn_r _ [17, 18, 19] (by decide +kernel) (by decide +kernel)) (goodIn_sub (fun _ h => List.mem_cons_of_mem _ (List.mem_append_right _ h)) (by decide +kernel))
set_option maxRecDepth 20000 in
theorem gX6_bet_X6_requireProperty : GoodIn wsX6_bet (va_wsS RX6 192 yX6_requireProperty wsX6_requireProperty) := goodIn_app (goodIn_of _ (by decide +kernel)) ggX6_bet_X6_requireProperty
set_option maxRecDepth 20000 in
theorem ggX6_bet_X4_cell : GoodIn wsX6_bet wsX4_cell := goodIn_r _ [23, 24, 14, 25, 38, 39, 40] (by decide +kernel) (by decide +kernel)
set_option maxRecDepth 20000 in
theorem gX6_bet_X4_cell : GoodIn wsX6_bet (wsV RX6 83 RX4 yX4_cell wsX4_cell) := goodIn_app (goodIn_of _ (by decide +kernel)) ggX6_bet_X4_cell
theorem dX6_bet_0 : decode cX6_bet 0 = .ok (.aload_n 0, 1) := by decide +kernel
theorem dX6_bet_1 : decode cX6_bet 1 = .ok (.getfield 12, 3) := by decide +kernel
theorem dX6_bet_4 : decode cX6_bet 4 = .ok (.getfield 89, 3) := by decide +kernel
theorem dX6_bet_7 : decode cX6_bet 7 = .ok (.iload_n 1, 1) := by decide +kernel
theorem dX6_bet_8 : decode cX6_bet 8 = .ok (.invokestatic 195, 3) := by decide +kernel
theorem dX6_bet_11 : decode cX6_bet 11 = .ok (.iload_n 2, 1) := by decide +kernel
theorem dX6_bet_12 : decode cX6_bet 12 = .ok (.bipush 8, 2) := by decide +kernel
theorem dX6_bet_14 : decode cX6_bet 14 = .ok (.invokestatic 192, 3) := by decide +kernel
theorem dX6_bet_17 : decode cX6_bet 17 = .ok (.aload_n 0, 1) := by decide +kernel
theorem dX6_bet_18 : decode cX6_bet 18 = .ok (.getfield 12, 3) := by decide +kernel
theorem dX6_bet_21 : decode cX6_bet 21 = .ok (.getfield 89, 3) := by decide +kernel
theorem dX6_bet_24 : decode cX6_bet 24 = .ok (.iload_n 1, 1) := by decide +kernel
theorem dX6_bet_25 : decode cX6_bet 25 = .ok (.iload_n 2, 1) := by decide +kernel
theorem dX6_bet_26 : decode cX6_bet 26 = .ok (.invokevirtual 83, 3) := by decide +kernel
theorem dX6_bet_29 : decode cX6_bet 29 = .ok (.ireturn, 1) := by decide +kernel
set_option maxRecDepth 20000 in
theorem ggX6_laid_X6_requireRow : GoodIn wsX6_laid wsX6_requireRow := goodIn_ca (goodIn_r _ [6, 7, 8, 9, 10, 11, 12, 13, 14, 38, 39, 40] (by decide +kernel) (by decide +kernel)) (goodIn_sub (fun _ h => List.mem_cons_of_mem _ (List.mem_append_left _ (List.mem_append_right _ h))) (by decide +kernel))
set_option maxRecDepth 20000 in
theorem gX6_laid_X6_requireRow : GoodIn wsX6_laid (va_wsS RX6 195 yX6_requireRow wsX6_requireRow) := goodIn_app (goodIn_of _ (by decide +kernel)) ggX6_laid_X6_requireRow
set_option maxRecDepth 20000 in
theorem ggX6_laid_X6_requireProperty : GoodIn wsX6_laid wsX6_requireProperty := goodIn_ca (goodIn_r _ [17, 18, 19] (by decide +kernel) (by decide +kernel)) (goodIn_sub (fun _ h => List.mem_cons_of_mem _ (List.mem_append_right _ h)) (by decide +kernel))
set_option maxRecDepth 20000 in
theorem gX6_laid_X6_requireProperty : GoodIn wsX6_laid (va_wsS RX6 192 yX6_requireProperty wsX6_requireProperty) := goodIn_app (goodIn_of _ (by decide +kernel)) ggX6_laid_X6_requireProperty
set_option maxRecDepth 20000 in
theorem ggX6_laid_X4_cell : GoodIn wsX6_laid wsX4_cell := goodIn_r _ [23, 24, 14, 25, 38, 39, 40] (by decide +kernel) (by decide +kernel)
set_option maxRecDepth 20000 in
theorem gX6_laid_X4_cell : GoodIn wsX6_laid (wsV RX6 83 RX4 yX4_cell wsX4_cell) := goodIn_app (goodIn_of _ (by decide +kernel)) ggX6_laid_X4_cell
theorem dX6_laid_0 : decode cX6_laid 0 = .ok (.aload_n 0, 1) := by decide +kernel
theorem dX6_laid_1 : decode cX6_laid 1 = .ok (.getfield 12, 3) := by decide +kernel
theorem dX6_laid_4 : decode cX6_laid 4 = .ok (.getfield 96, 3) := by decide +kernel
theorem dX6_laid_7 : decode cX6_laid 7 = .ok (.iload_n 1, 1) := by decide +kernel
theorem dX6_laid_8 : decode cX6_laid 8 = .ok (.invokestatic 195, 3) := by decide +kernel
theorem dX6_laid_11 : decode cX6_laid 11 = .ok (.iload_n 2, 1) := by decide +kernel
theorem dX6_laid_12 : decode cX6_laid 12 = .ok (.iconst 5, 1) := by decide +kernel
theorem dX6_laid_13 : decode cX6_laid 13 = .ok (.invokestatic 192, 3) := by decide +kernel
theorem dX6_laid_16 : decode cX6_laid 16 = .ok (.aload_n 0, 1) := by decide +kernel
theorem dX6_laid_17 : decode cX6_laid 17 = .ok (.getfield 12, 3) := by decide +kernel
theorem dX6_laid_20 : decode cX6_laid 20 = .ok (.getfield 96, 3) := by decide +kernel
theorem dX6_laid_23 : decode cX6_laid 23 = .ok (.iload_n 1, 1) := by decide +kernel
theorem dX6_laid_24 : decode cX6_laid 24 = .ok (.iload_n 2, 1) := by decide +kernel
theorem dX6_laid_25 : decode cX6_laid 25 = .ok (.invokevirtual 83, 3) := by decide +kernel
theorem dX6_laid_28 : decode cX6_laid 28 = .ok (.ireturn, 1) := by decide +kernel
set_option maxRecDepth 20000 in
theorem ggX6_count_X6_requireProperty : GoodIn wsX6_count wsX6_requireProperty := goodIn_ca (goodIn_r _ [4, 5, 6] (by decide +kernel) (by decide +kernel)) (goodIn_sub (fun _ h => List.mem_cons_of_mem _ (List.mem_append_right _ h)) (by decide +kernel))
set_option maxRecDepth 20000 in
theorem gX6_count_X6_requireProperty : GoodIn wsX6_count (va_wsS RX6 192 yX6_requireProperty wsX6_requireProperty) := goodIn_app (goodIn_of _ (by decide +kernel)) ggX6_count_X6_requireProperty
set_option maxRecDepth 20000 in
theorem ggX6_count_X6_counted : GoodIn wsX6_count wsX6_counted := goodIn_r _ [10, 11, 12, 13, 14, 15, 16, 17, 18, 19, 20, 21, 22, 23, 24, 25, 26, 27, 28, 29, 30, 31, 32, 33, 34, 35, 36, 37, 38, 39, 40, 41, 42, 43, 44, 45, 46, 47, 48, 49, 50, 51, 52, 53, 54, 55, 56, 57, 58, 59, 60, 61, 62, 63, 64, 65, 66, 67, 68, 69, 70, 71, 72, 73, 74, 75, 76, 77, 78, 79, 80, 81, 82, 83, 84, 85, 86, 87, 88, 89, 90, 91, 92, 93, 94, 95, 96, 97, 98, 99, 100, 101, 102] (by decide +kernel) (by decide +kernel)
set_option maxRecDepth 20000 in
theorem gX6_count_X6_counted : GoodIn wsX6_count (wsV RX6 199 RX6 yX6_counted wsX6_counted) := goodIn_app (goodIn_of _ (by decide +kernel)) ggX6_count_X6_counted
theorem dX6_count_0 : decode cX6_count 0 = .ok (.iload_n 1, 1) := by decide +kernel
theorem dX6_count_1 : decode cX6_count 1 = .ok (.bipush 14, 2) := by decide +kernel
theorem dX6_count_3 : decode cX6_count 3 = .ok (.invokestatic 192, 3) := by decide +kernel
theorem dX6_count_6 : decode cX6_count 6 = .ok (.aload_n 0, 1) := by decide +kernel
theorem dX6_count_7 : decode cX6_count 7 = .ok (.iload_n 1, 1) := by decide +kernel
theorem dX6_count_8 : decode cX6_count 8 = .ok (.invokevirtual 199, 3) := by decide +kernel
theorem dX6_count_11 : decode cX6_count 11 = .ok (.ireturn, 1) := by decide +kernel
set_option maxRecDepth 20000 in
theorem ggX6_setting_X6_requireSetting : GoodIn wsX6_setting wsX6_requireSetting := goodIn_ca (goodIn_r _ [4, 5, 6] (by decide +kernel) (by decide +kernel)) (goodIn_sub (fun _ h => List.mem_cons_of_mem _ (List.mem_append_right _ h)) (by decide +kernel))
set_option maxRecDepth 20000 in
theorem gX6_setting_X6_requireSetting : GoodIn wsX6_setting (va_wsS RX6 129 yX6_requireSetting wsX6_requireSetting) := goodIn_app (goodIn_of _ (by decide +kernel)) ggX6_setting_X6_requireSetting
set_option maxRecDepth 20000 in
theorem ggX6_setting_X6_settingNow : GoodIn wsX6_setting wsX6_settingNow := goodIn_r _ [10, 11, 12, 13, 14, 15, 16, 17, 18, 19, 20, 21, 22, 23, 24, 25] (by decide +kernel) (by decide +kernel)
set_option maxRecDepth 20000 in
theorem gX6_setting_X6_settingNow : GoodIn wsX6_setting (wsV RX6 138 RX6 yX6_settingNow wsX6_settingNow) := goodIn_app (goodIn_of _ (by decide +kernel)) ggX6_setting_X6_settingNow
theorem dX6_setting_0 : decode cX6_setting 0 = .ok (.iload_n 1, 1) := by decide +kernel
theorem dX6_setting_1 : decode cX6_setting 1 = .ok (.invokestatic 129, 3) := by decide +kernel
theorem dX6_setting_4 : decode cX6_setting 4 = .ok (.aload_n 0, 1) := by decide +kernel
theorem dX6_setting_5 : decode cX6_setting 5 = .ok (.iload_n 1, 1) := by decide +kernel
theorem dX6_setting_6 : decode cX6_setting 6 = .ok (.invokevirtual 138, 3) := by decide +kernel
theorem dX6_setting_9 : decode cX6_setting 9 = .ok (.ireturn, 1) := by decide +kernel
set_option maxRecDepth 20000 in
theorem ggX6_ifArrived_X6_readArrival : GoodIn wsX6_ifArrived wsX6_readArrival := goodIn_r _ [7, 8, 2, 1, 9, 10, 11, 12, 13, 14, 15, 16, 17, 18, 19, 20, 21, 22, 23, 24, 25, 26, 27, 28, 29, 30, 31, 32, 33, 34, 35, 36, 37, 38, 39, 40, 41, 42, 43, 44, 45, 46, 47, 48, 49, 50, 51, 52, 53, 54, 55, 56, 57, 58, 59, 60, 61, 62, 63, 64, 65, 66, 67, 68, 69, 126, 127, 128, 129, 130, 131, 132, 133, 134, 135, 136, 137, 138, 139, 140, 141, 142, 143, 144, 145, 146, 147] (by decide +kernel) (by decide +kernel)
set_option maxRecDepth 20000 in
theorem gX6_ifArrived_X6_readArrival : GoodIn wsX6_ifArrived (wsV RX6 107 RX6 yX6_readArrival wsX6_readArrival) := goodIn_app (goodIn_of _ (by decide +kernel)) ggX6_ifArrived_X6_readArrival
set_option maxRecDepth 20000 in
theorem ggX6_ifArrived_X1_wouldWin : GoodIn wsX6_ifArrived wsX1_wouldWin := goodIn_r _ [73, 74, 75, 76, 77, 78, 79, 27, 80, 81, 82, 83, 37, 84, 39, 85, 86, 87, 88, 65, 41, 42, 43, 44, 45, 34, 35, 36, 38, 40, 89, 90, 91, 92, 93, 62, 63, 64, 33, 94, 95, 96, 97, 98, 99, 100, 49, 101, 52, 102, 103, 104, 105, 51, 106, 107, 108, 109, 110, 111, 112, 113, 114, 115, 116, 117, 118, 119, 120, 121, 53, 122, 123, 124, 125, 134, 135, 136, 137, 138, 139, 140, 141, 142, 143, 144, 145, 146, 147] (by decide +kernel) (by decide +kernel)
set_option maxRecDepth 20000 in
theorem gX6_ifArrived_X1_wouldWin : GoodIn wsX6_ifArrived (wsV RX6 202 RX1 yX1_wouldWin wsX1_wouldWin) := goodIn_app (goodIn_of _ (by decide +kernel)) ggX6_ifArrived_X1_wouldWin
theorem dX6_ifArrived_0 : decode cX6_ifArrived 0 = .ok (.aload_n 0, 1) := by decide +kernel
theorem dX6_ifArrived_1 : decode cX6_ifArrived 1 = .ok (.invokevirtual 107, 3) := by decide +kernel
theorem dX6_ifArrived_4 : decode cX6_ifArrived 4 = .ok (.ifCond .eq 17, 3) := by decide +kernel
theorem dX6_ifArrived_7 : decode cX6_ifArrived 7 = .ok (.aload_n 0, 1) := by decide +kernel
theorem dX6_ifArrived_8 : decode cX6_ifArrived 8 = .ok (.getfield 12, 3) := by decide +kernel
theorem dX6_ifArrived_11 : decode cX6_ifArrived 11 = .ok (.aload_n 0, 1) := by decide +kernel
theorem dX6_ifArrived_12 : decode cX6_ifArrived 12 = .ok (.getfield 19, 3) := by decide +kernel
theorem dX6_ifArrived_15 : decode cX6_ifArrived 15 = .ok (.invokevirtual 202, 3) := by decide +kernel
theorem dX6_ifArrived_18 : decode cX6_ifArrived 18 = .ok (.goto 4, 3) := by decide +kernel
theorem dX6_ifArrived_21 : decode cX6_ifArrived 21 = .ok (.iconst (-1), 1) := by decide +kernel
theorem dX6_ifArrived_22 : decode cX6_ifArrived 22 = .ok (.ireturn, 1) := by decide +kernel
set_option maxRecDepth 20000 in
theorem ggX6_ifWon_X6_requireHorse : GoodIn wsX6_ifWon wsX6_requireHorse := goodIn_ca (goodIn_r _ [5, 6, 7, 8, 9, 4, 10, 11, 12, 13, 14, 15, 16, 17, 18, 120, 121, 122, 123, 124, 125, 126, 127, 128, 129, 130, 131, 132, 133, 134] (by decide +kernel) (by decide +kernel)) (goodIn_sub (fun _ h => List.mem_cons_of_mem _ (List.mem_append_right _ h)) (by decide +kernel))
set_option maxRecDepth 20000 in
theorem gX6_ifWon_X6_requireHorse : GoodIn wsX6_ifWon (wsV RX6 70 RX6 yX6_requireHorse wsX6_requireHorse) := goodIn_app (goodIn_of _ (by decide +kernel)) ggX6_ifWon_X6_requireHorse
set_option maxRecDepth 20000 in
theorem ggX6_ifWon_X6_wouldWinWith : GoodIn wsX6_ifWon wsX6_wouldWinWith := goodIn_r _ [22, 6, 23, 7, 24, 25, 26, 27, 28, 29, 30, 31, 32, 16, 33, 34, 18, 35, 36, 37, 38, 39, 40, 41, 42, 43, 44, 45, 46, 47, 48, 49, 50, 51, 52, 53, 54, 55, 56, 57, 58, 59, 60, 61, 62, 63, 64, 65, 66, 67, 68, 69, 70, 71, 72, 73, 74, 75, 76, 77, 78, 79, 80, 81, 82, 83, 84, 85, 86, 87, 88, 89, 90, 91, 92, 93, 94, 95, 96, 97, 98, 99, 100, 101, 102, 103, 104, 105, 106, 107, 108, 109, 110, 111, 112, 113, 114, 115, 116, 117, 118, 119, 120, 121, 122, 123, 124, 125, 126, 127, 128, 129, 130, 131, 132, 133, 134, 135, 136, 137, 138, 139] (by decide +kernel) (by decide +kernel)
set_option maxRecDepth 20000 in
theorem gX6_ifWon_X6_wouldWinWith : GoodIn wsX6_ifWon (wsV RX6 206 RX6 yX6_wouldWinWith wsX6_wouldWinWith) := goodIn_app (goodIn_of _ (by decide +kernel)) ggX6_ifWon_X6_wouldWinWith
theorem dX6_ifWon_0 : decode cX6_ifWon 0 = .ok (.aload_n 0, 1) := by decide +kernel
theorem dX6_ifWon_1 : decode cX6_ifWon 1 = .ok (.iload_n 1, 1) := by decide +kernel
theorem dX6_ifWon_2 : decode cX6_ifWon 2 = .ok (.invokevirtual 70, 3) := by decide +kernel
theorem dX6_ifWon_5 : decode cX6_ifWon 5 = .ok (.aload_n 0, 1) := by decide +kernel
theorem dX6_ifWon_6 : decode cX6_ifWon 6 = .ok (.iload_n 1, 1) := by decide +kernel
theorem dX6_ifWon_7 : decode cX6_ifWon 7 = .ok (.invokevirtual 206, 3) := by decide +kernel
theorem dX6_ifWon_10 : decode cX6_ifWon 10 = .ok (.ireturn, 1) := by decide +kernel
set_option maxRecDepth 20000 in
theorem ggX6_worst_X4_size : GoodIn wsX6_worst wsX4_size := goodIn_r _ [7, 8, 119, 120, 121] (by decide +kernel) (by decide +kernel)
set_option maxRecDepth 20000 in
theorem gX6_worst_X4_size : GoodIn wsX6_worst (wsV RX6 177 RX4 yX4_size wsX4_size) := goodIn_app (goodIn_of _ (by decide +kernel)) ggX6_worst_X4_size
set_option maxRecDepth 20000 in
theorem ggX6_worst_X1_runs : GoodIn wsX6_worst wsX1_runs := goodIn_r _ [13, 14, 15, 16, 17, 6, 18, 19, 8, 20, 113, 114, 115, 116, 117, 118, 119, 120, 121] (by decide +kernel) (by decide +kernel)
set_option maxRecDepth 20000 in
theorem gX6_worst_X1_runs : GoodIn wsX6_worst (wsV RX6 209 RX1 yX1_runs wsX1_runs) := goodIn_app (goodIn_of _ (by decide +kernel)) ggX6_worst_X1_runs
set_option maxRecDepth 20000 in
theorem ggX6_worst_X6_wouldWinWith : GoodIn wsX6_worst wsX6_wouldWinWith := goodIn_r _ [25, 1, 26, 2, 9, 10, 11, 12, 13, 14, 15, 16, 17, 6, 18, 19, 8, 20, 27, 28, 29, 30, 31, 32, 33, 34, 35, 36, 37, 38, 39, 40, 41, 42, 43, 44, 45, 46, 47, 48, 49, 50, 51, 52, 53, 3, 4, 5, 7, 54, 55, 56, 57, 58, 59, 60, 61, 62, 63, 64, 65, 66, 67, 68, 69, 70, 71, 72, 73, 74, 75, 76, 77, 78, 79, 80, 81, 82, 83, 84, 85, 86, 87, 88, 89, 90, 91, 92, 93, 94, 95, 96, 97, 98, 99, 100, 101, 102, 103, 104, 105, 106, 107, 108, 109, 110, 111, 112, 113, 114, 115, 116, 117, 118, 119, 120, 121, 122, 123, 124, 125, 126] (by decide +kernel) (by decide +kernel)
set_option maxRecDepth 20000 in
theorem gX6_worst_X6_wouldWinWith : GoodIn wsX6_worst (wsV RX6 206 RX6 yX6_wouldWinWith wsX6_wouldWinWith) := goodIn_app (goodIn_of _ (by decide +kernel)) ggX6_worst_X6_wouldWinWith
theorem dX6_worst_0 : decode cX6_worst 0 = .ok (.iconst (-1), 1) := by decide +kernel
theorem dX6_worst_1 : decode cX6_worst 1 = .ok (.istore_n 1, 1) := by decide +kernel
theorem dX6_worst_2 : decode cX6_worst 2 = .ok (.iconst 0, 1) := by decide +kernel
theorem dX6_worst_3 : decode cX6_worst 3 = .ok (.istore_n 2, 1) := by decide +kernel
theorem dX6_worst_4 : decode cX6_worst 4 = .ok (.iconst 0, 1) := by decide +kernel
theorem dX6_worst_5 : decode cX6_worst 5 = .ok (.istore_n 3, 1) := by decide +kernel
theorem dX6_worst_6 : decode cX6_worst 6 = .ok (.iload_n 3, 1) := by decide +kernel
theorem dX6_worst_7 : decode cX6_worst 7 = .ok (.aload_n 0, 1) := by decide +kernel
theorem dX6_worst_8 : decode cX6_worst 8 = .ok (.getfield 12, 3) := by decide +kernel
theorem dX6_worst_11 : decode cX6_worst 11 = .ok (.getfield 54, 3) := by decide +kernel
theorem dX6_worst_14 : decode cX6_worst 14 = .ok (.invokevirtual 177, 3) := by decide +kernel
theorem dX6_worst_17 : decode cX6_worst 17 = .ok (.if_icmp .ge 43, 3) := by decide +kernel
theorem dX6_worst_20 : decode cX6_worst 20 = .ok (.aload_n 0, 1) := by decide +kernel
theorem dX6_worst_21 : decode cX6_worst 21 = .ok (.getfield 12, 3) := by decide +kernel
theorem dX6_worst_24 : decode cX6_worst 24 = .ok (.iload_n 3, 1) := by decide +kernel
theorem dX6_worst_25 : decode cX6_worst 25 = .ok (.invokevirtual 209, 3) := by decide +kernel
theorem dX6_worst_28 : decode cX6_worst 28 = .ok (.ifCond .eq 26, 3) := by decide +kernel
theorem dX6_worst_31 : decode cX6_worst 31 = .ok (.aload_n 0, 1) := by decide +kernel
theorem dX6_worst_32 : decode cX6_worst 32 = .ok (.iload_n 3, 1) := by decide +kernel
theorem dX6_worst_33 : decode cX6_worst 33 = .ok (.invokevirtual 206, 3) := by decide +kernel
theorem dX6_worst_36 : decode cX6_worst 36 = .ok (.istore 4, 2) := by decide +kernel
theorem dX6_worst_38 : decode cX6_worst 38 = .ok (.iload_n 1, 1) := by decide +kernel
theorem dX6_worst_39 : decode cX6_worst 39 = .ok (.iconst (-1), 1) := by decide +kernel
theorem dX6_worst_40 : decode cX6_worst 40 = .ok (.if_icmp .eq 9, 3) := by decide +kernel
theorem dX6_worst_43 : decode cX6_worst 43 = .ok (.iload 4, 2) := by decide +kernel
theorem dX6_worst_45 : decode cX6_worst 45 = .ok (.iload_n 2, 1) := by decide +kernel
theorem dX6_worst_46 : decode cX6_worst 46 = .ok (.if_icmp .ge 8, 3) := by decide +kernel
theorem dX6_worst_49 : decode cX6_worst 49 = .ok (.iload_n 3, 1) := by decide +kernel
theorem dX6_worst_50 : decode cX6_worst 50 = .ok (.istore_n 1, 1) := by decide +kernel
theorem dX6_worst_51 : decode cX6_worst 51 = .ok (.iload 4, 2) := by decide +kernel
theorem dX6_worst_53 : decode cX6_worst 53 = .ok (.istore_n 2, 1) := by decide +kernel
theorem dX6_worst_54 : decode cX6_worst 54 = .ok (.iinc 3 1, 3) := by decide +kernel
theorem dX6_worst_57 : decode cX6_worst 57 = .ok (.goto (-51), 3) := by decide +kernel
theorem dX6_worst_60 : decode cX6_worst 60 = .ok (.iload_n 1, 1) := by decide +kernel
theorem dX6_worst_61 : decode cX6_worst 61 = .ok (.ireturn, 1) := by decide +kernel
set_option maxRecDepth 20000 in
theorem ggX6_cover_X6_requireHorse : GoodIn wsX6_cover wsX6_requireHorse := goodIn_ca (goodIn_r _ [5, 6, 7, 8, 9, 4, 10, 11, 12, 13, 14, 15, 16, 17, 18, 128, 129, 130, 131, 132, 133, 134, 135, 136, 137, 138, 139, 140, 141, 142] (by decide +kernel) (by decide +kernel)) (goodIn_sub (fun _ h => List.mem_cons_of_mem _ (List.mem_append_right _ h)) (by decide +kernel))
set_option maxRecDepth 20000 in
theorem gX6_cover_X6_requireHorse : GoodIn wsX6_cover (wsV RX6 70 RX6 yX6_requireHorse wsX6_requireHorse) := goodIn_app (goodIn_of _ (by decide +kernel)) ggX6_cover_X6_requireHorse
set_option maxRecDepth 20000 in
theorem ggX6_cover_X6_wouldWinWith : GoodIn wsX6_cover wsX6_wouldWinWith := goodIn_r _ [22, 6, 23, 7, 24, 25, 26, 27, 28, 29, 30, 31, 32, 16, 33, 34, 18, 35, 36, 37, 38, 39, 40, 41, 42, 43, 44, 45, 46, 47, 48, 49, 50, 51, 52, 53, 54, 55, 56, 57, 58, 59, 60, 61, 62, 63, 64, 65, 66, 67, 68, 69, 70, 71, 72, 73, 74, 75, 76, 77, 78, 79, 80, 81, 82, 83, 84, 85, 86, 87, 88, 89, 90, 91, 92, 93, 94, 95, 96, 97, 98, 99, 100, 101, 102, 103, 104, 105, 106, 107, 108, 109, 110, 111, 112, 113, 114, 115, 116, 117, 118, 119, 128, 129, 130, 131, 132, 133, 134, 135, 136, 137, 138, 139, 140, 141, 142, 143, 144, 145, 146, 147] (by decide +kernel) (by decide +kernel)
set_option maxRecDepth 20000 in
theorem gX6_cover_X6_wouldWinWith : GoodIn wsX6_cover (wsV RX6 206 RX6 yX6_wouldWinWith wsX6_wouldWinWith) := goodIn_app (goodIn_of _ (by decide +kernel)) ggX6_cover_X6_wouldWinWith
set_option maxRecDepth 20000 in
theorem ggX6_cover_X6_coveringStake : GoodIn wsX6_cover wsX6_coveringStake := goodIn_r _ [123, 6, 7, 124, 125, 126, 127, 31, 32, 16, 33, 34, 18, 35, 24, 25, 26, 27, 28, 29, 30, 128, 129, 130, 131, 132, 133, 134, 135, 136, 137, 138, 139, 140, 141, 142] (by decide +kernel) (by decide +kernel)
set_option maxRecDepth 20000 in
theorem gX6_cover_X6_coveringStake : GoodIn wsX6_cover (wsV RX6 213 RX6 yX6_coveringStake wsX6_coveringStake) := goodIn_app (goodIn_of _ (by decide +kernel)) ggX6_cover_X6_coveringStake
theorem dX6_cover_0 : decode cX6_cover 0 = .ok (.aload_n 0, 1) := by decide +kernel
theorem dX6_cover_1 : decode cX6_cover 1 = .ok (.iload_n 1, 1) := by decide +kernel
theorem dX6_cover_2 : decode cX6_cover 2 = .ok (.invokevirtual 70, 3) := by decide +kernel
theorem dX6_cover_5 : decode cX6_cover 5 = .ok (.aload_n 0, 1) := by decide +kernel
theorem dX6_cover_6 : decode cX6_cover 6 = .ok (.iload_n 1, 1) := by decide +kernel
theorem dX6_cover_7 : decode cX6_cover 7 = .ok (.aload_n 0, 1) := by decide +kernel
theorem dX6_cover_8 : decode cX6_cover 8 = .ok (.iload_n 1, 1) := by decide +kernel
theorem dX6_cover_9 : decode cX6_cover 9 = .ok (.invokevirtual 206, 3) := by decide +kernel
theorem dX6_cover_12 : decode cX6_cover 12 = .ok (.invokevirtual 213, 3) := by decide +kernel
theorem dX6_cover_15 : decode cX6_cover 15 = .ok (.ireturn, 1) := by decide +kernel
set_option maxRecDepth 20000 in
theorem ggX6_safeShare_X1_running : GoodIn wsX6_safeShare wsX1_running := goodIn_r _ [9, 10, 11, 12, 13, 14, 15, 16, 17, 18, 19, 20, 21, 22, 116, 117, 118, 119, 120, 121, 122, 123, 124] (by decide +kernel) (by decide +kernel)
set_option maxRecDepth 20000 in
theorem gX6_safeShare_X1_running : GoodIn wsX6_safeShare (wsV RX6 216 RX1 yX1_running wsX1_running) := goodIn_app (goodIn_of _ (by decide +kernel)) ggX6_safeShare_X1_running
set_option maxRecDepth 20000 in
theorem ggX6_safeShare_X4_size : GoodIn wsX6_safeShare wsX4_size := goodIn_r _ [26, 16, 122, 123, 124] (by decide +kernel) (by decide +kernel)
set_option maxRecDepth 20000 in
theorem gX6_safeShare_X4_size : GoodIn wsX6_safeShare (wsV RX6 177 RX4 yX4_size wsX4_size) := goodIn_app (goodIn_of _ (by decide +kernel)) ggX6_safeShare_X4_size
set_option maxRecDepth 20000 in
theorem ggX6_safeShare_X1_runs : GoodIn wsX6_safeShare wsX1_runs := goodIn_r _ [30, 10, 31, 18, 19, 14, 20, 21, 16, 22, 116, 117, 118, 119, 120, 121, 122, 123, 124] (by decide +kernel) (by decide +kernel)
set_option maxRecDepth 20000 in
theorem gX6_safeShare_X1_runs : GoodIn wsX6_safeShare (wsV RX6 209 RX1 yX1_runs wsX1_runs) := goodIn_app (goodIn_of _ (by decide +kernel)) ggX6_safeShare_X1_runs
set_option maxRecDepth 20000 in
theorem ggX6_safeShare_X6_wouldWinWith : GoodIn wsX6_safeShare wsX6_wouldWinWith := goodIn_r _ [36, 1, 37, 2, 27, 28, 29, 8, 30, 10, 31, 18, 19, 14, 20, 21, 16, 22, 38, 39, 40, 41, 42, 6, 7, 9, 11, 12, 13, 15, 17, 43, 44, 45, 46, 47, 48, 49, 50, 51, 52, 53, 54, 55, 56, 23, 24, 25, 26, 57, 58, 59, 60, 61, 62, 63, 64, 65, 66, 67, 68, 69, 70, 71, 72, 73, 74, 75, 76, 77, 78, 79, 80, 81, 82, 83, 84, 85, 86, 87, 88, 89, 90, 91, 92, 93, 94, 95, 96, 97, 98, 99, 100, 101, 102, 103, 104, 105, 106, 107, 108, 109, 110, 111, 112, 113, 114, 115, 116, 117, 118, 119, 120, 121, 122, 123, 124, 125, 126, 127, 128, 129] (by decide +kernel) (by decide +kernel)
set_option maxRecDepth 20000 in
theorem gX6_safeShare_X6_wouldWinWith : GoodIn wsX6_safeShare (wsV RX6 206 RX6 yX6_wouldWinWith wsX6_wouldWinWith) := goodIn_app (goodIn_of _ (by decide +kernel)) ggX6_safeShare_X6_wouldWinWith
theorem dX6_safeShare_0 : decode cX6_safeShare 0 = .ok (.aload_n 0, 1) := by decide +kernel
theorem dX6_safeShare_1 : decode cX6_safeShare 1 = .ok (.getfield 12, 3) := by decide +kernel
theorem dX6_safeShare_4 : decode cX6_safeShare 4 = .ok (.invokevirtual 216, 3) := by decide +kernel
theorem dX6_safeShare_7 : decode cX6_safeShare 7 = .ok (.istore_n 1, 1) := by decide +kernel
theorem dX6_safeShare_8 : decode cX6_safeShare 8 = .ok (.iload_n 1, 1) := by decide +kernel
theorem dX6_safeShare_9 : decode cX6_safeShare 9 = .ok (.ifCond .gt 5, 3) := by decide +kernel
theorem dX6_safeShare_12 : decode cX6_safeShare 12 = .ok (.dconst 1, 1) := by decide +kernel
theorem dX6_safeShare_13 : decode cX6_safeShare 13 = .ok (.dreturn, 1) := by decide +kernel
theorem dX6_safeShare_14 : decode cX6_safeShare 14 = .ok (.iconst 0, 1) := by decide +kernel
theorem dX6_safeShare_15 : decode cX6_safeShare 15 = .ok (.istore_n 2, 1) := by decide +kernel
theorem dX6_safeShare_16 : decode cX6_safeShare 16 = .ok (.iconst 0, 1) := by decide +kernel
theorem dX6_safeShare_17 : decode cX6_safeShare 17 = .ok (.istore_n 3, 1) := by decide +kernel
theorem dX6_safeShare_18 : decode cX6_safeShare 18 = .ok (.iload_n 3, 1) := by decide +kernel
theorem dX6_safeShare_19 : decode cX6_safeShare 19 = .ok (.aload_n 0, 1) := by decide +kernel
theorem dX6_safeShare_20 : decode cX6_safeShare 20 = .ok (.getfield 12, 3) := by decide +kernel
theorem dX6_safeShare_23 : decode cX6_safeShare 23 = .ok (.getfield 54, 3) := by decide +kernel
theorem dX6_safeShare_26 : decode cX6_safeShare 26 = .ok (.invokevirtual 177, 3) := by decide +kernel
theorem dX6_safeShare_29 : decode cX6_safeShare 29 = .ok (.if_icmp .ge 41, 3) := by decide +kernel
theorem dX6_safeShare_32 : decode cX6_safeShare 32 = .ok (.aload_n 0, 1) := by decide +kernel
theorem dX6_safeShare_33 : decode cX6_safeShare 33 = .ok (.getfield 12, 3) := by decide +kernel
theorem dX6_safeShare_36 : decode cX6_safeShare 36 = .ok (.iload_n 3, 1) := by decide +kernel
theorem dX6_safeShare_37 : decode cX6_safeShare 37 = .ok (.invokevirtual 209, 3) := by decide +kernel
theorem dX6_safeShare_40 : decode cX6_safeShare 40 = .ok (.ifCond .eq 24, 3) := by decide +kernel
theorem dX6_safeShare_43 : decode cX6_safeShare 43 = .ok (.aload_n 0, 1) := by decide +kernel
theorem dX6_safeShare_44 : decode cX6_safeShare 44 = .ok (.iload_n 3, 1) := by decide +kernel
theorem dX6_safeShare_45 : decode cX6_safeShare 45 = .ok (.invokevirtual 206, 3) := by decide +kernel
theorem dX6_safeShare_48 : decode cX6_safeShare 48 = .ok (.ldc 219, 2) := by decide +kernel
theorem dX6_safeShare_50 : decode cX6_safeShare 50 = .ok (.aload_n 0, 1) := by decide +kernel
theorem dX6_safeShare_51 : decode cX6_safeShare 51 = .ok (.getfield 12, 3) := by decide +kernel
theorem dX6_safeShare_54 : decode cX6_safeShare 54 = .ok (.getfield 145, 3) := by decide +kernel
theorem dX6_safeShare_57 : decode cX6_safeShare 57 = .ok (.isub, 1) := by decide +kernel
theorem dX6_safeShare_58 : decode cX6_safeShare 58 = .ok (.if_icmp .lt 6, 3) := by decide +kernel
theorem dX6_safeShare_61 : decode cX6_safeShare 61 = .ok (.iinc 2 1, 3) := by decide +kernel
theorem dX6_safeShare_64 : decode cX6_safeShare 64 = .ok (.iinc 3 1, 3) := by decide +kernel
theorem dX6_safeShare_67 : decode cX6_safeShare 67 = .ok (.goto (-49), 3) := by decide +kernel
theorem dX6_safeShare_70 : decode cX6_safeShare 70 = .ok (.iload_n 2, 1) := by decide +kernel
theorem dX6_safeShare_71 : decode cX6_safeShare 71 = .ok (.i2d, 1) := by decide +kernel
theorem dX6_safeShare_72 : decode cX6_safeShare 72 = .ok (.iload_n 1, 1) := by decide +kernel
theorem dX6_safeShare_73 : decode cX6_safeShare 73 = .ok (.i2d, 1) := by decide +kernel
theorem dX6_safeShare_74 : decode cX6_safeShare 74 = .ok (.ddiv, 1) := by decide +kernel
theorem dX6_safeShare_75 : decode cX6_safeShare 75 = .ok (.dreturn, 1) := by decide +kernel
set_option maxRecDepth 20000 in
theorem ggX6_digest_X6_counted : GoodIn wsX6_digest wsX6_counted := goodIn_r _ [12, 2, 13, 3, 4, 14, 15, 16, 17, 18, 19, 20, 21, 22, 23, 24, 25, 26, 27, 28, 29, 30, 31, 32, 33, 34, 35, 36, 37, 38, 39, 40, 41, 42, 43, 44, 45, 46, 47, 48, 49, 50, 51, 52, 53, 54, 55, 56, 57, 58, 59, 60, 61, 62, 63, 64, 65, 66, 67, 68, 69, 70, 71, 72, 73, 74, 75, 76, 77, 78, 79, 80, 81, 82, 83, 224, 225, 226, 227, 228, 229, 230, 231, 232, 233, 234, 235, 236, 237, 238, 239, 240, 241] (by decide +kernel) (by decide +kernel)
set_option maxRecDepth 20000 in
theorem gX6_digest_X6_counted : GoodIn wsX6_digest (wsV RX6 199 RX6 yX6_counted wsX6_counted) := goodIn_app (goodIn_of _ (by decide +kernel)) ggX6_digest_X6_counted
set_option maxRecDepth 20000 in
theorem ggX6_digest_X6_mixed : GoodIn wsX6_digest wsX6_mixed := goodIn_r _ [86, 87] (by decide +kernel) (by decide +kernel)
set_option maxRecDepth 20000 in
theorem gX6_digest_X6_mixed : GoodIn wsX6_digest (va_wsS RX6 222 yX6_mixed wsX6_mixed) := goodIn_app (goodIn_of _ (by decide +kernel)) ggX6_digest_X6_mixed
set_option maxRecDepth 20000 in
theorem ggX6_digest_X6_settingNow : GoodIn wsX6_digest wsX6_settingNow := goodIn_r _ [91, 2, 92, 93, 224, 225, 226, 227, 228, 229, 230, 231, 232, 233, 234, 235] (by decide +kernel) (by decide +kernel)
set_option maxRecDepth 20000 in
theorem gX6_digest_X6_settingNow : GoodIn wsX6_digest (wsV RX6 138 RX6 yX6_settingNow wsX6_settingNow) := goodIn_app (goodIn_of _ (by decide +kernel)) ggX6_digest_X6_settingNow
set_option maxRecDepth 20000 in
theorem ggX6_digest_X6_mixedHorses : GoodIn wsX6_digest wsX6_mixedHorses := goodIn_r _ [97, 2, 13, 16, 17, 18, 19, 20, 21, 98, 99, 100, 11, 101, 102, 103, 60, 61, 25, 62, 27, 48, 33, 34, 35, 36, 37, 50, 51, 52, 53, 54, 23, 24, 26, 28, 29, 30, 31, 32, 104, 105, 106, 107, 108, 109, 110, 111, 112, 113, 114, 115, 116, 117, 118, 119, 120, 121, 72, 71, 42, 73, 39, 40, 41, 43, 44, 45, 46, 47, 122, 123, 124, 125, 59, 126, 127, 128, 129, 130, 131, 132, 133, 134, 135, 136, 137, 138, 139, 140, 141, 142, 143, 144, 145, 146, 147, 148, 149, 150, 151, 152, 153, 154, 155, 156, 157, 158, 159, 160, 161, 162, 163, 164, 165, 84, 85, 86, 87, 166, 167, 168, 169, 170, 93, 171, 224, 225, 226, 227, 228, 229, 230, 231, 232, 233, 234, 235, 236, 237, 238, 242, 243, 244, 245, 246] (by decide +kernel) (by decide +kernel)
set_option maxRecDepth 20000 in
theorem gX6_digest_X6_mixedHorses : GoodIn wsX6_digest (wsV RX6 226 RX6 yX6_mixedHorses wsX6_mixedHorses) := goodIn_app (goodIn_of _ (by decide +kernel)) ggX6_digest_X6_mixedHorses
set_option maxRecDepth 20000 in
theorem ggX6_digest_X6_mixedTable : GoodIn wsX6_digest wsX6_mixedTable := goodIn_r _ [174, 16, 17, 18, 19, 20, 21, 158, 159, 11, 160, 161, 162, 163, 164, 36, 165, 33, 34, 35, 37, 84, 85, 86, 87, 236, 237, 238] (by decide +kernel) (by decide +kernel)
set_option maxRecDepth 20000 in
theorem gX6_digest_X6_mixedTable : GoodIn wsX6_digest (va_wsS RX6 230 yX6_mixedTable wsX6_mixedTable) := goodIn_app (goodIn_of _ (by decide +kernel)) ggX6_digest_X6_mixedTable
set_option maxRecDepth 20000 in
theorem ggX6_digest_X6_ifArrived : GoodIn wsX6_digest wsX6_ifArrived := goodIn_r _ [178, 2, 102, 179, 180, 181, 11, 182, 7, 183, 184, 185, 186, 187, 188, 189, 190, 191, 192, 193, 194, 195, 196, 197, 50, 51, 52, 25, 53, 54, 23, 24, 26, 27, 28, 29, 30, 19, 31, 21, 32, 33, 34, 35, 36, 37, 104, 105, 106, 107, 108, 109, 110, 111, 112, 113, 198, 199, 200, 201, 202, 103, 60, 61, 62, 48, 114, 115, 116, 117, 118, 119, 120, 121, 72, 71, 42, 73, 39, 40, 41, 43, 17, 18, 20, 44, 45, 46, 47, 122, 123, 124, 125, 59, 126, 127, 128, 129, 130, 131, 132, 133, 134, 135, 136, 137, 138, 139, 140, 141, 142, 143, 144, 145, 146, 147, 148, 149, 150, 151, 152, 153, 154, 155, 156, 157, 224, 225, 226, 227, 228, 229, 247, 248, 230, 231, 232, 233, 234, 235, 236, 237, 238, 242, 243, 244, 245, 246] (by decide +kernel) (by decide +kernel)
set_option maxRecDepth 20000 in
theorem gX6_digest_X6_ifArrived : GoodIn wsX6_digest (wsV RX6 234 RX6 yX6_ifArrived wsX6_ifArrived) := goodIn_app (goodIn_of _ (by decide +kernel)) ggX6_digest_X6_ifArrived
set_option maxRecDepth 20000 in
theorem ggX6_digest_X6_worst : GoodIn wsX6_digest wsX6_worst := goodIn_r _ [206, 2, 13, 16, 17, 18, 19, 20, 21, 103, 60, 61, 25, 62, 27, 48, 33, 34, 35, 36, 37, 98, 99, 100, 11, 101, 102, 50, 51, 52, 53, 54, 23, 24, 26, 28, 29, 30, 31, 32, 104, 105, 106, 107, 108, 109, 110, 111, 112, 113, 114, 115, 116, 117, 118, 119, 120, 121, 72, 71, 42, 73, 39, 40, 41, 43, 44, 45, 46, 47, 122, 123, 124, 125, 59, 126, 127, 128, 129, 130, 131, 132, 133, 134, 135, 136, 137, 138, 139, 140, 141, 142, 143, 144, 145, 146, 147, 148, 149, 150, 151, 152, 153, 154, 155, 156, 157, 224, 225, 226, 227, 228, 229, 230, 231, 232, 233, 234, 235, 236, 237, 238, 242, 243, 244, 245, 246] (by decide +kernel) (by decide +kernel)
set_option maxRecDepth 20000 in
theorem gX6_digest_X6_worst : GoodIn wsX6_digest (wsV RX6 237 RX6 yX6_worst wsX6_worst) := goodIn_app (goodIn_of _ (by decide +kernel)) ggX6_digest_X6_worst
set_option maxRecDepth 20000 in
theorem ggX6_digest_X6_safeShare : GoodIn wsX6_digest wsX6_safeShare := goodIn_r _ [210, 2, 13, 211, 93, 22, 23, 24, 25, 26, 27, 28, 29, 30, 19, 31, 21, 32, 33, 34, 35, 36, 37, 16, 17, 18, 20, 103, 60, 61, 62, 48, 98, 99, 100, 11, 101, 102, 50, 51, 52, 53, 54, 104, 105, 106, 107, 108, 109, 110, 111, 112, 113, 114, 115, 116, 117, 118, 119, 120, 121, 72, 71, 42, 73, 39, 40, 41, 43, 44, 45, 46, 47, 122, 123, 124, 125, 59, 126, 127, 128, 129, 130, 131, 132, 133, 134, 135, 136, 137, 138, 139, 140, 141, 142, 143, 144, 145, 146, 147, 148, 149, 150, 151, 152, 153, 154, 155, 156, 157, 224, 225, 226, 227, 228, 229, 230, 231, 232, 233, 234, 235, 236, 237, 238, 242, 243, 244, 245, 246] (by decide +kernel) (by decide +kernel)
set_option maxRecDepth 20000 in
theorem gX6_digest_X6_safeShare : GoodIn wsX6_digest (wsV RX6 240 RX6 yX6_safeShare wsX6_safeShare) := goodIn_app (goodIn_of _ (by decide +kernel)) ggX6_digest_X6_safeShare
set_option maxRecDepth 20000 in
theorem ggX6_digest_X6_bitsOfShare : GoodIn wsX6_digest wsX6_bitsOfShare := goodIn_r _ [214, 215, 216, 217] (by decide +kernel) (by decide +kernel)
set_option maxRecDepth 20000 in
theorem gX6_digest_X6_bitsOfShare : GoodIn wsX6_digest (va_wsS RX6 244 yX6_bitsOfShare wsX6_bitsOfShare) := goodIn_app (goodIn_of _ (by decide +kernel)) ggX6_digest_X6_bitsOfShare
set_option maxRecDepth 20000 in
theorem ggX6_digest_X3_isFull : GoodIn wsX6_digest wsX3_isFull := goodIn_r _ [222, 223, 249, 250] (by decide +kernel) (by decide +kernel)
set_option maxRecDepth 20000 in
theorem gX6_digest_X3_isFull : GoodIn wsX6_digest (wsV RX6 180 RX3 yX3_isFull wsX3_isFull) := goodIn_app (goodIn_of _ (by decide +kernel)) ggX6_digest_X3_isFull
set_option maxRecDepth 20000 in
theorem ggX6_digest_X5_length : GoodIn wsX6_digest wsX5_length := goodIn_r _ [201, 188, 247, 248] (by decide +kernel) (by decide +kernel)
set_option maxRecDepth 20000 in
theorem gX6_digest_X5_length : GoodIn wsX6_digest (wsV RX6 161 RX5 yX5_length wsX5_length) := goodIn_app (goodIn_of _ (by decide +kernel)) ggX6_digest_X5_length
set_option maxRecDepth 20000 in
theorem ggX6_digest_X5_codeAt : GoodIn wsX6_digest wsX5_codeAt := goodIn_r _ [196, 188, 197, 247, 248] (by decide +kernel) (by decide +kernel)
set_option maxRecDepth 20000 in
theorem gX6_digest_X5_codeAt : GoodIn wsX6_digest (wsV RX6 248 RX5 yX5_codeAt wsX5_codeAt) := goodIn_app (goodIn_of _ (by decide +kernel)) ggX6_digest_X5_codeAt
theorem dX6_digest_0 : decode cX6_digest 0 = .ok (.ldc2_w 220, 3) := by decide +kernel
theorem dX6_digest_3 : decode cX6_digest 3 = .ok (.lstore_n 1, 1) := by decide +kernel
theorem dX6_digest_4 : decode cX6_digest 4 = .ok (.iconst 0, 1) := by decide +kernel
theorem dX6_digest_5 : decode cX6_digest 5 = .ok (.istore_n 3, 1) := by decide +kernel
theorem dX6_digest_6 : decode cX6_digest 6 = .ok (.iload_n 3, 1) := by decide +kernel
theorem dX6_digest_7 : decode cX6_digest 7 = .ok (.bipush 14, 2) := by decide +kernel
theorem dX6_digest_9 : decode cX6_digest 9 = .ok (.if_icmp .ge 20, 3) := by decide +kernel
theorem dX6_digest_12 : decode cX6_digest 12 = .ok (.lload_n 1, 1) := by decide +kernel
theorem dX6_digest_13 : decode cX6_digest 13 = .ok (.aload_n 0, 1) := by decide +kernel
theorem dX6_digest_14 : decode cX6_digest 14 = .ok (.iload_n 3, 1) := by decide +kernel
theorem dX6_digest_15 : decode cX6_digest 15 = .ok (.invokevirtual 199, 3) := by decide +kernel
theorem dX6_digest_18 : decode cX6_digest 18 = .ok (.i2l, 1) := by decide +kernel
theorem dX6_digest_19 : decode cX6_digest 19 = .ok (.invokestatic 222, 3) := by decide +kernel
theorem dX6_digest_22 : decode cX6_digest 22 = .ok (.lstore_n 1, 1) := by decide +kernel
theorem dX6_digest_23 : decode cX6_digest 23 = .ok (.iinc 3 1, 3) := by decide +kernel
theorem dX6_digest_26 : decode cX6_digest 26 = .ok (.goto (-20), 3) := by decide +kernel
theorem dX6_digest_29 : decode cX6_digest 29 = .ok (.lload_n 1, 1) := by decide +kernel
theorem dX6_digest_30 : decode cX6_digest 30 = .ok (.aload_n 0, 1) := by decide +kernel
theorem dX6_digest_31 : decode cX6_digest 31 = .ok (.iconst 0, 1) := by decide +kernel
theorem dX6_digest_32 : decode cX6_digest 32 = .ok (.invokevirtual 138, 3) := by decide +kernel
theorem dX6_digest_35 : decode cX6_digest 35 = .ok (.i2l, 1) := by decide +kernel
theorem dX6_digest_36 : decode cX6_digest 36 = .ok (.invokestatic 222, 3) := by decide +kernel
theorem dX6_digest_39 : decode cX6_digest 39 = .ok (.lstore_n 1, 1) := by decide +kernel
theorem dX6_digest_40 : decode cX6_digest 40 = .ok (.lload_n 1, 1) := by decide +kernel
theorem dX6_digest_41 : decode cX6_digest 41 = .ok (.aload_n 0, 1) := by decide +kernel
theorem dX6_digest_42 : decode cX6_digest 42 = .ok (.iconst 1, 1) := by decide +kernel
theorem dX6_digest_43 : decode cX6_digest 43 = .ok (.invokevirtual 138, 3) := by decide +kernel
theorem dX6_digest_46 : decode cX6_digest 46 = .ok (.i2l, 1) := by decide +kernel
theorem dX6_digest_47 : decode cX6_digest 47 = .ok (.invokestatic 222, 3) := by decide +kernel
theorem dX6_digest_50 : decode cX6_digest 50 = .ok (.lstore_n 1, 1) := by decide +kernel
theorem dX6_digest_51 : decode cX6_digest 51 = .ok (.aload_n 0, 1) := by decide +kernel
theorem dX6_digest_52 : decode cX6_digest 52 = .ok (.lload_n 1, 1) := by decide +kernel
theorem dX6_digest_53 : decode cX6_digest 53 = .ok (.invokevirtual 226, 3) := by decide +kernel
theorem dX6_digest_56 : decode cX6_digest 56 = .ok (.lstore_n 1, 1) := by decide +kernel
theorem dX6_digest_57 : decode cX6_digest 57 = .ok (.lload_n 1, 1) := by decide +kernel
theorem dX6_digest_58 : decode cX6_digest 58 = .ok (.aload_n 0, 1) := by decide +kernel
theorem dX6_digest_59 : decode cX6_digest 59 = .ok (.getfield 12, 3) := by decide +kernel
theorem dX6_digest_62 : decode cX6_digest 62 = .ok (.getfield 89, 3) := by decide +kernel
theorem dX6_digest_65 : decode cX6_digest 65 = .ok (.invokestatic 230, 3) := by decide +kernel
theorem dX6_digest_68 : decode cX6_digest 68 = .ok (.lstore_n 1, 1) := by decide +kernel
theorem dX6_digest_69 : decode cX6_digest 69 = .ok (.lload_n 1, 1) := by decide +kernel
theorem dX6_digest_70 : decode cX6_digest 70 = .ok (.aload_n 0, 1) := by decide +kernel
theorem dX6_digest_71 : decode cX6_digest 71 = .ok (.getfield 12, 3) := by decide +kernel
theorem dX6_digest_74 : decode cX6_digest 74 = .ok (.getfield 96, 3) := by decide +kernel
theorem dX6_digest_77 : decode cX6_digest 77 = .ok (.invokestatic 230, 3) := by decide +kernel
theorem dX6_digest_80 : decode cX6_digest 80 = .ok (.lstore_n 1, 1) := by decide +kernel
theorem dX6_digest_81 : decode cX6_digest 81 = .ok (.lload_n 1, 1) := by decide +kernel
theorem dX6_digest_82 : decode cX6_digest 82 = .ok (.aload_n 0, 1) := by decide +kernel
theorem dX6_digest_83 : decode cX6_digest 83 = .ok (.invokevirtual 234, 3) := by decide +kernel
theorem dX6_digest_86 : decode cX6_digest 86 = .ok (.i2l, 1) := by decide +kernel
theorem dX6_digest_87 : decode cX6_digest 87 = .ok (.invokestatic 222, 3) := by decide +kernel
theorem dX6_digest_90 : decode cX6_digest 90 = .ok (.lstore_n 1, 1) := by decide +kernel
theorem dX6_digest_91 : decode cX6_digest 91 = .ok (.lload_n 1, 1) := by decide +kernel
theorem dX6_digest_92 : decode cX6_digest 92 = .ok (.aload_n 0, 1) := by decide +kernel
theorem dX6_digest_93 : decode cX6_digest 93 = .ok (.invokevirtual 237, 3) := by decide +kernel
theorem dX6_digest_96 : decode cX6_digest 96 = .ok (.i2l, 1) := by decide +kernel
theorem dX6_digest_97 : decode cX6_digest 97 = .ok (.invokestatic 222, 3) := by decide +kernel
theorem dX6_digest_100 : decode cX6_digest 100 = .ok (.lstore_n 1, 1) := by decide +kernel
theorem dX6_digest_101 : decode cX6_digest 101 = .ok (.lload_n 1, 1) := by decide +kernel
theorem dX6_digest_102 : decode cX6_digest 102 = .ok (.aload_n 0, 1) := by decide +kernel
theorem dX6_digest_103 : decode cX6_digest 103 = .ok (.invokevirtual 240, 3) := by decide +kernel
theorem dX6_digest_106 : decode cX6_digest 106 = .ok (.invokestatic 244, 3) := by decide +kernel
theorem dX6_digest_109 : decode cX6_digest 109 = .ok (.invokestatic 222, 3) := by decide +kernel
theorem dX6_digest_112 : decode cX6_digest 112 = .ok (.lstore_n 1, 1) := by decide +kernel
theorem dX6_digest_113 : decode cX6_digest 113 = .ok (.lload_n 1, 1) := by decide +kernel
theorem dX6_digest_114 : decode cX6_digest 114 = .ok (.aload_n 0, 1) := by decide +kernel
theorem dX6_digest_115 : decode cX6_digest 115 = .ok (.getfield 40, 3) := by decide +kernel
theorem dX6_digest_118 : decode cX6_digest 118 = .ok (.invokevirtual 180, 3) := by decide +kernel
theorem dX6_digest_121 : decode cX6_digest 121 = .ok (.ifCond .eq 7, 3) := by decide +kernel
theorem dX6_digest_124 : decode cX6_digest 124 = .ok (.lconst 1, 1) := by decide +kernel
theorem dX6_digest_125 : decode cX6_digest 125 = .ok (.goto 4, 3) := by decide +kernel
theorem dX6_digest_128 : decode cX6_digest 128 = .ok (.lconst 0, 1) := by decide +kernel
theorem dX6_digest_129 : decode cX6_digest 129 = .ok (.invokestatic 222, 3) := by decide +kernel
theorem dX6_digest_132 : decode cX6_digest 132 = .ok (.lstore_n 1, 1) := by decide +kernel
theorem dX6_digest_133 : decode cX6_digest 133 = .ok (.lload_n 1, 1) := by decide +kernel
theorem dX6_digest_134 : decode cX6_digest 134 = .ok (.aload_n 0, 1) := by decide +kernel
theorem dX6_digest_135 : decode cX6_digest 135 = .ok (.getfield 44, 3) := by decide +kernel
theorem dX6_digest_138 : decode cX6_digest 138 = .ok (.invokevirtual 180, 3) := by decide +kernel
theorem dX6_digest_141 : decode cX6_digest 141 = .ok (.ifCond .eq 7, 3) := by decide +kernel
theorem dX6_digest_144 : decode cX6_digest 144 = .ok (.lconst 1, 1) := by decide +kernel
theorem dX6_digest_145 : decode cX6_digest 145 = .ok (.goto 4, 3) := by decide +kernel
theorem dX6_digest_148 : decode cX6_digest 148 = .ok (.lconst 0, 1) := by decide +kernel
theorem dX6_digest_149 : decode cX6_digest 149 = .ok (.invokestatic 222, 3) := by decide +kernel
theorem dX6_digest_152 : decode cX6_digest 152 = .ok (.lstore_n 1, 1) := by decide +kernel
theorem dX6_digest_153 : decode cX6_digest 153 = .ok (.lload_n 1, 1) := by decide +kernel
theorem dX6_digest_154 : decode cX6_digest 154 = .ok (.aload_n 0, 1) := by decide +kernel
theorem dX6_digest_155 : decode cX6_digest 155 = .ok (.getfield 26, 3) := by decide +kernel
theorem dX6_digest_158 : decode cX6_digest 158 = .ok (.invokevirtual 161, 3) := by decide +kernel
theorem dX6_digest_161 : decode cX6_digest 161 = .ok (.i2l, 1) := by decide +kernel
theorem dX6_digest_162 : decode cX6_digest 162 = .ok (.invokestatic 222, 3) := by decide +kernel
theorem dX6_digest_165 : decode cX6_digest 165 = .ok (.lstore_n 1, 1) := by decide +kernel
theorem dX6_digest_166 : decode cX6_digest 166 = .ok (.iconst 0, 1) := by decide +kernel
theorem dX6_digest_167 : decode cX6_digest 167 = .ok (.istore_n 3, 1) := by decide +kernel
theorem dX6_digest_168 : decode cX6_digest 168 = .ok (.iload_n 3, 1) := by decide +kernel
theorem dX6_digest_169 : decode cX6_digest 169 = .ok (.aload_n 0, 1) := by decide +kernel
theorem dX6_digest_170 : decode cX6_digest 170 = .ok (.getfield 26, 3) := by decide +kernel
theorem dX6_digest_173 : decode cX6_digest 173 = .ok (.invokevirtual 161, 3) := by decide +kernel
theorem dX6_digest_176 : decode cX6_digest 176 = .ok (.if_icmp .ge 23, 3) := by decide +kernel
theorem dX6_digest_179 : decode cX6_digest 179 = .ok (.lload_n 1, 1) := by decide +kernel
theorem dX6_digest_180 : decode cX6_digest 180 = .ok (.aload_n 0, 1) := by decide +kernel
theorem dX6_digest_181 : decode cX6_digest 181 = .ok (.getfield 26, 3) := by decide +kernel
theorem dX6_digest_184 : decode cX6_digest 184 = .ok (.iload_n 3, 1) := by decide +kernel
theorem dX6_digest_185 : decode cX6_digest 185 = .ok (.invokevirtual 248, 3) := by decide +kernel
theorem dX6_digest_188 : decode cX6_digest 188 = .ok (.i2l, 1) := by decide +kernel
theorem dX6_digest_189 : decode cX6_digest 189 = .ok (.invokestatic 222, 3) := by decide +kernel
theorem dX6_digest_192 : decode cX6_digest 192 = .ok (.lstore_n 1, 1) := by decide +kernel
theorem dX6_digest_193 : decode cX6_digest 193 = .ok (.iinc 3 1, 3) := by decide +kernel
theorem dX6_digest_196 : decode cX6_digest 196 = .ok (.goto (-28), 3) := by decide +kernel
theorem dX6_digest_199 : decode cX6_digest 199 = .ok (.lload_n 1, 1) := by decide +kernel
theorem dX6_digest_200 : decode cX6_digest 200 = .ok (.lreturn, 1) := by decide +kernel
theorem dX6_requirePrice_0 : decode cX6_requirePrice 0 = .ok (.iload_n 0, 1) := by decide +kernel
theorem dX6_requirePrice_1 : decode cX6_requirePrice 1 = .ok (.iconst 1, 1) := by decide +kernel
theorem dX6_requirePrice_2 : decode cX6_requirePrice 2 = .ok (.if_icmp .lt 20, 3) := by decide +kernel
theorem dX6_requirePrice_5 : decode cX6_requirePrice 5 = .ok (.iload_n 0, 1) := by decide +kernel
theorem dX6_requirePrice_6 : decode cX6_requirePrice 6 = .ok (.bipush 100, 2) := by decide +kernel
theorem dX6_requirePrice_8 : decode cX6_requirePrice 8 = .ok (.if_icmp .gt 14, 3) := by decide +kernel
theorem dX6_requirePrice_11 : decode cX6_requirePrice 11 = .ok (.iload_n 1, 1) := by decide +kernel
theorem dX6_requirePrice_12 : decode cX6_requirePrice 12 = .ok (.iconst 1, 1) := by decide +kernel
theorem dX6_requirePrice_13 : decode cX6_requirePrice 13 = .ok (.if_icmp .lt 9, 3) := by decide +kernel
theorem dX6_requirePrice_16 : decode cX6_requirePrice 16 = .ok (.iload_n 1, 1) := by decide +kernel
theorem dX6_requirePrice_17 : decode cX6_requirePrice 17 = .ok (.bipush 20, 2) := by decide +kernel
theorem dX6_requirePrice_19 : decode cX6_requirePrice 19 = .ok (.if_icmp .le 13, 3) := by decide +kernel
theorem dX6_requirePrice_22 : decode cX6_requirePrice 22 = .ok (.new 111, 3) := by decide +kernel
theorem dX6_requirePrice_25 : decode cX6_requirePrice 25 = .ok (.dup, 1) := by decide +kernel
theorem dX6_requirePrice_26 : decode cX6_requirePrice 26 = .ok (.ldc 251, 2) := by decide +kernel
theorem dX6_requirePrice_28 : decode cX6_requirePrice 28 = .ok (.invokespecial 115, 3) := by decide +kernel
theorem dX6_requirePrice_31 : decode cX6_requirePrice 31 = .ok (.athrow, 1) := by decide +kernel
theorem dX6_requirePrice_32 : decode cX6_requirePrice 32 = .ok (.return_, 1) := by decide +kernel
theorem dX6_requireStake_0 : decode cX6_requireStake 0 = .ok (.iload_n 0, 1) := by decide +kernel
theorem dX6_requireStake_1 : decode cX6_requireStake 1 = .ok (.iconst 1, 1) := by decide +kernel
theorem dX6_requireStake_2 : decode cX6_requireStake 2 = .ok (.if_icmp .lt 10, 3) := by decide +kernel
theorem dX6_requireStake_5 : decode cX6_requireStake 5 = .ok (.iload_n 0, 1) := by decide +kernel
theorem dX6_requireStake_6 : decode cX6_requireStake 6 = .ok (.sipush 9999, 3) := by decide +kernel
theorem dX6_requireStake_9 : decode cX6_requireStake 9 = .ok (.if_icmp .le 13, 3) := by decide +kernel
theorem dX6_requireStake_12 : decode cX6_requireStake 12 = .ok (.new 111, 3) := by decide +kernel
theorem dX6_requireStake_15 : decode cX6_requireStake 15 = .ok (.dup, 1) := by decide +kernel
theorem dX6_requireStake_16 : decode cX6_requireStake 16 = .ok (.ldc 253, 2) := by decide +kernel
theorem dX6_requireStake_18 : decode cX6_requireStake 18 = .ok (.invokespecial 115, 3) := by decide +kernel
theorem dX6_requireStake_21 : decode cX6_requireStake 21 = .ok (.athrow, 1) := by decide +kernel
theorem dX6_requireStake_22 : decode cX6_requireStake 22 = .ok (.return_, 1) := by decide +kernel
theorem dX6_requireProperty_0 : decode cX6_requireProperty 0 = .ok (.iload_n 0, 1) := by decide +kernel
theorem dX6_requireProperty_1 : decode cX6_requireProperty 1 = .ok (.ifCond .lt 8, 3) := by decide +kernel
theorem dX6_requireProperty_4 : decode cX6_requireProperty 4 = .ok (.iload_n 0, 1) := by decide +kernel
theorem dX6_requireProperty_5 : decode cX6_requireProperty 5 = .ok (.iload_n 1, 1) := by decide +kernel
theorem dX6_requireProperty_6 : decode cX6_requireProperty 6 = .ok (.if_icmp .lt 13, 3) := by decide +kernel
theorem dX6_requireProperty_9 : decode cX6_requireProperty 9 = .ok (.new 111, 3) := by decide +kernel
theorem dX6_requireProperty_12 : decode cX6_requireProperty 12 = .ok (.dup, 1) := by decide +kernel
theorem dX6_requireProperty_13 : decode cX6_requireProperty 13 = .ok (.ldc 255, 2) := by decide +kernel
theorem dX6_requireProperty_15 : decode cX6_requireProperty 15 = .ok (.invokespecial 115, 3) := by decide +kernel
theorem dX6_requireProperty_18 : decode cX6_requireProperty 18 = .ok (.athrow, 1) := by decide +kernel
theorem dX6_requireProperty_19 : decode cX6_requireProperty 19 = .ok (.return_, 1) := by decide +kernel
theorem dX6_requireSetting_0 : decode cX6_requireSetting 0 = .ok (.iload_n 0, 1) := by decide +kernel
theorem dX6_requireSetting_1 : decode cX6_requireSetting 1 = .ok (.ifCond .lt 8, 3) := by decide +kernel
theorem dX6_requireSetting_4 : decode cX6_requireSetting 4 = .ok (.iload_n 0, 1) := by decide +kernel
theorem dX6_requireSetting_5 : decode cX6_requireSetting 5 = .ok (.iconst 1, 1) := by decide +kernel
theorem dX6_requireSetting_6 : decode cX6_requireSetting 6 = .ok (.if_icmp .le 14, 3) := by decide +kernel
theorem dX6_requireSetting_9 : decode cX6_requireSetting 9 = .ok (.new 257, 3) := by decide +kernel
theorem dX6_requireSetting_12 : decode cX6_requireSetting 12 = .ok (.dup, 1) := by decide +kernel
theorem dX6_requireSetting_13 : decode cX6_requireSetting 13 = .ok (.ldc_w 259, 3) := by decide +kernel
theorem dX6_requireSetting_16 : decode cX6_requireSetting 16 = .ok (.invokespecial 261, 3) := by decide +kernel
theorem dX6_requireSetting_19 : decode cX6_requireSetting 19 = .ok (.athrow, 1) := by decide +kernel
theorem dX6_requireSetting_20 : decode cX6_requireSetting 20 = .ok (.return_, 1) := by decide +kernel
theorem dX6_requireSlot_0 : decode cX6_requireSlot 0 = .ok (.iload_n 0, 1) := by decide +kernel
theorem dX6_requireSlot_1 : decode cX6_requireSlot 1 = .ok (.ifCond .lt 8, 3) := by decide +kernel
theorem dX6_requireSlot_4 : decode cX6_requireSlot 4 = .ok (.iload_n 0, 1) := by decide +kernel
theorem dX6_requireSlot_5 : decode cX6_requireSlot 5 = .ok (.iconst 1, 1) := by decide +kernel
theorem dX6_requireSlot_6 : decode cX6_requireSlot 6 = .ok (.if_icmp .le 14, 3) := by decide +kernel
theorem dX6_requireSlot_9 : decode cX6_requireSlot 9 = .ok (.new 111, 3) := by decide +kernel
theorem dX6_requireSlot_12 : decode cX6_requireSlot 12 = .ok (.dup, 1) := by decide +kernel
theorem dX6_requireSlot_13 : decode cX6_requireSlot 13 = .ok (.ldc_w 262, 3) := by decide +kernel
theorem dX6_requireSlot_16 : decode cX6_requireSlot 16 = .ok (.invokespecial 115, 3) := by decide +kernel
theorem dX6_requireSlot_19 : decode cX6_requireSlot 19 = .ok (.athrow, 1) := by decide +kernel
theorem dX6_requireSlot_20 : decode cX6_requireSlot 20 = .ok (.return_, 1) := by decide +kernel
set_option maxRecDepth 20000 in
theorem ggX6_requireRow_X4_has : GoodIn wsX6_requireRow wsX4_has := goodIn_r _ [7, 8, 9, 10, 11] (by decide +kernel) (by decide +kernel)
set_option maxRecDepth 20000 in
theorem gX6_requireRow_X4_has : GoodIn wsX6_requireRow (wsV RX6 264 RX4 yX4_has wsX4_has) := goodIn_app (goodIn_of _ (by decide +kernel)) ggX6_requireRow_X4_has
theorem dX6_requireRow_0 : decode cX6_requireRow 0 = .ok (.aload_n 0, 1) := by decide +kernel
theorem dX6_requireRow_1 : decode cX6_requireRow 1 = .ok (.iload_n 1, 1) := by decide +kernel
theorem dX6_requireRow_2 : decode cX6_requireRow 2 = .ok (.invokevirtual 264, 3) := by decide +kernel
theorem dX6_requireRow_5 : decode cX6_requireRow 5 = .ok (.ifCond .ne 14, 3) := by decide +kernel
theorem dX6_requireRow_8 : decode cX6_requireRow 8 = .ok (.new 257, 3) := by decide +kernel
theorem dX6_requireRow_11 : decode cX6_requireRow 11 = .ok (.dup, 1) := by decide +kernel
theorem dX6_requireRow_12 : decode cX6_requireRow 12 = .ok (.ldc_w 267, 3) := by decide +kernel
theorem dX6_requireRow_15 : decode cX6_requireRow 15 = .ok (.invokespecial 261, 3) := by decide +kernel
theorem dX6_requireRow_18 : decode cX6_requireRow 18 = .ok (.athrow, 1) := by decide +kernel
theorem dX6_requireRow_19 : decode cX6_requireRow 19 = .ok (.return_, 1) := by decide +kernel
set_option maxRecDepth 20000 in
theorem ggX6_requireRoom_X4_isFull : GoodIn wsX6_requireRoom wsX4_isFull := goodIn_r _ [7, 8, 9, 10, 11, 12, 13] (by decide +kernel) (by decide +kernel)
set_option maxRecDepth 20000 in
theorem gX6_requireRoom_X4_isFull : GoodIn wsX6_requireRoom (wsV RX6 269 RX4 yX4_isFull wsX4_isFull) := goodIn_app (goodIn_of _ (by decide +kernel)) ggX6_requireRoom_X4_isFull
theorem dX6_requireRoom_0 : decode cX6_requireRoom 0 = .ok (.aload_n 0, 1) := by decide +kernel
theorem dX6_requireRoom_1 : decode cX6_requireRoom 1 = .ok (.invokevirtual 269, 3) := by decide +kernel
theorem dX6_requireRoom_4 : decode cX6_requireRoom 4 = .ok (.ifCond .eq 14, 3) := by decide +kernel
theorem dX6_requireRoom_7 : decode cX6_requireRoom 7 = .ok (.new 153, 3) := by decide +kernel
theorem dX6_requireRoom_10 : decode cX6_requireRoom 10 = .ok (.dup, 1) := by decide +kernel
theorem dX6_requireRoom_11 : decode cX6_requireRoom 11 = .ok (.ldc_w 270, 3) := by decide +kernel
theorem dX6_requireRoom_14 : decode cX6_requireRoom 14 = .ok (.invokespecial 157, 3) := by decide +kernel
theorem dX6_requireRoom_17 : decode cX6_requireRoom 17 = .ok (.athrow, 1) := by decide +kernel
theorem dX6_requireRoom_18 : decode cX6_requireRoom 18 = .ok (.return_, 1) := by decide +kernel
set_option maxRecDepth 20000 in
theorem ggX6_requireHorse_X6_requireRow : GoodIn wsX6_requireHorse wsX6_requireRow := goodIn_ca (goodIn_r _ [6, 7, 8, 9, 10, 11, 12, 13, 14, 27, 28, 29] (by decide +kernel) (by decide +kernel)) (goodIn_sub (fun _ h => List.mem_cons_of_mem _ (List.mem_append_right _ h)) (by decide +kernel))
set_option maxRecDepth 20000 in
theorem gX6_requireHorse_X6_requireRow : GoodIn wsX6_requireHorse (va_wsS RX6 195 yX6_requireRow wsX6_requireRow) := goodIn_app (goodIn_of _ (by decide +kernel)) ggX6_requireHorse_X6_requireRow
theorem dX6_requireHorse_0 : decode cX6_requireHorse 0 = .ok (.aload_n 0, 1) := by decide +kernel
theorem dX6_requireHorse_1 : decode cX6_requireHorse 1 = .ok (.getfield 12, 3) := by decide +kernel
theorem dX6_requireHorse_4 : decode cX6_requireHorse 4 = .ok (.getfield 54, 3) := by decide +kernel
theorem dX6_requireHorse_7 : decode cX6_requireHorse 7 = .ok (.iload_n 1, 1) := by decide +kernel
theorem dX6_requireHorse_8 : decode cX6_requireHorse 8 = .ok (.invokestatic 195, 3) := by decide +kernel
theorem dX6_requireHorse_11 : decode cX6_requireHorse 11 = .ok (.return_, 1) := by decide +kernel
set_option maxRecDepth 20000 in
theorem ggX6_requireRunning_X1_runs : GoodIn wsX6_requireRunning wsX1_runs := goodIn_r _ [8, 9, 10, 11, 12, 13, 14, 15, 16, 17, 24, 25, 26, 27, 28, 29, 30, 31, 32] (by decide +kernel) (by decide +kernel)
set_option maxRecDepth 20000 in
theorem gX6_requireRunning_X1_runs : GoodIn wsX6_requireRunning (wsV RX6 209 RX1 yX1_runs wsX1_runs) := goodIn_app (goodIn_of _ (by decide +kernel)) ggX6_requireRunning_X1_runs
theorem dX6_requireRunning_0 : decode cX6_requireRunning 0 = .ok (.aload_n 0, 1) := by decide +kernel
theorem dX6_requireRunning_1 : decode cX6_requireRunning 1 = .ok (.getfield 12, 3) := by decide +kernel
theorem dX6_requireRunning_4 : decode cX6_requireRunning 4 = .ok (.iload_n 1, 1) := by decide +kernel
theorem dX6_requireRunning_5 : decode cX6_requireRunning 5 = .ok (.invokevirtual 209, 3) := by decide +kernel
theorem dX6_requireRunning_8 : decode cX6_requireRunning 8 = .ok (.ifCond .ne 14, 3) := by decide +kernel
theorem dX6_requireRunning_11 : decode cX6_requireRunning 11 = .ok (.new 153, 3) := by decide +kernel
theorem dX6_requireRunning_14 : decode cX6_requireRunning 14 = .ok (.dup, 1) := by decide +kernel
theorem dX6_requireRunning_15 : decode cX6_requireRunning 15 = .ok (.ldc_w 272, 3) := by decide +kernel
theorem dX6_requireRunning_18 : decode cX6_requireRunning 18 = .ok (.invokespecial 157, 3) := by decide +kernel
theorem dX6_requireRunning_21 : decode cX6_requireRunning 21 = .ok (.athrow, 1) := by decide +kernel
theorem dX6_requireRunning_22 : decode cX6_requireRunning 22 = .ok (.return_, 1) := by decide +kernel
theorem dX6_requireOpen_0 : decode cX6_requireOpen 0 = .ok (.aload_n 0, 1) := by decide +kernel
theorem dX6_requireOpen_1 : decode cX6_requireOpen 1 = .ok (.getfield 12, 3) := by decide +kernel
theorem dX6_requireOpen_4 : decode cX6_requireOpen 4 = .ok (.getfield 274, 3) := by decide +kernel
theorem dX6_requireOpen_7 : decode cX6_requireOpen 7 = .ok (.ifCond .eq 14, 3) := by decide +kernel
theorem dX6_requireOpen_10 : decode cX6_requireOpen 10 = .ok (.new 153, 3) := by decide +kernel
theorem dX6_requireOpen_13 : decode cX6_requireOpen 13 = .ok (.dup, 1) := by decide +kernel
theorem dX6_requireOpen_14 : decode cX6_requireOpen 14 = .ok (.ldc_w 278, 3) := by decide +kernel
theorem dX6_requireOpen_17 : decode cX6_requireOpen 17 = .ok (.invokespecial 157, 3) := by decide +kernel
theorem dX6_requireOpen_20 : decode cX6_requireOpen 20 = .ok (.athrow, 1) := by decide +kernel
theorem dX6_requireOpen_21 : decode cX6_requireOpen 21 = .ok (.return_, 1) := by decide +kernel
theorem dX6_fits_0 : decode cX6_fits 0 = .ok (.iload_n 0, 1) := by decide +kernel
theorem dX6_fits_1 : decode cX6_fits 1 = .ok (.ifCond .ne 19, 3) := by decide +kernel
theorem dX6_fits_4 : decode cX6_fits 4 = .ok (.iload_n 1, 1) := by decide +kernel
theorem dX6_fits_5 : decode cX6_fits 5 = .ok (.iconst 4, 1) := by decide +kernel
theorem dX6_fits_6 : decode cX6_fits 6 = .ok (.if_icmp .eq 8, 3) := by decide +kernel
theorem dX6_fits_9 : decode cX6_fits 9 = .ok (.iload_n 1, 1) := by decide +kernel
theorem dX6_fits_10 : decode cX6_fits 10 = .ok (.iconst 5, 1) := by decide +kernel
theorem dX6_fits_11 : decode cX6_fits 11 = .ok (.if_icmp .ne 7, 3) := by decide +kernel
theorem dX6_fits_14 : decode cX6_fits 14 = .ok (.iconst 1, 1) := by decide +kernel
theorem dX6_fits_15 : decode cX6_fits 15 = .ok (.goto 4, 3) := by decide +kernel
theorem dX6_fits_18 : decode cX6_fits 18 = .ok (.iconst 0, 1) := by decide +kernel
theorem dX6_fits_19 : decode cX6_fits 19 = .ok (.ireturn, 1) := by decide +kernel
theorem dX6_fits_20 : decode cX6_fits 20 = .ok (.iload_n 1, 1) := by decide +kernel
theorem dX6_fits_21 : decode cX6_fits 21 = .ok (.ifCond .lt 14, 3) := by decide +kernel
theorem dX6_fits_24 : decode cX6_fits 24 = .ok (.iload_n 1, 1) := by decide +kernel
theorem dX6_fits_25 : decode cX6_fits 25 = .ok (.ldc_w 280, 3) := by decide +kernel
theorem dX6_fits_28 : decode cX6_fits 28 = .ok (.if_icmp .gt 7, 3) := by decide +kernel
theorem dX6_fits_31 : decode cX6_fits 31 = .ok (.iconst 1, 1) := by decide +kernel
theorem dX6_fits_32 : decode cX6_fits 32 = .ok (.goto 4, 3) := by decide +kernel
theorem dX6_fits_35 : decode cX6_fits 35 = .ok (.iconst 0, 1) := by decide +kernel
theorem dX6_fits_36 : decode cX6_fits 36 = .ok (.ireturn, 1) := by decide +kernel
theorem dX6_settingNow_0 : decode cX6_settingNow 0 = .ok (.iload_n 1, 1) := by decide +kernel
theorem dX6_settingNow_1 : decode cX6_settingNow 1 = .ok (.ifCond .ne 13, 3) := by decide +kernel
theorem dX6_settingNow_4 : decode cX6_settingNow 4 = .ok (.aload_n 0, 1) := by decide +kernel
theorem dX6_settingNow_5 : decode cX6_settingNow 5 = .ok (.getfield 12, 3) := by decide +kernel
theorem dX6_settingNow_8 : decode cX6_settingNow 8 = .ok (.getfield 141, 3) := by decide +kernel
theorem dX6_settingNow_11 : decode cX6_settingNow 11 = .ok (.goto 10, 3) := by decide +kernel
theorem dX6_settingNow_14 : decode cX6_settingNow 14 = .ok (.aload_n 0, 1) := by decide +kernel
theorem dX6_settingNow_15 : decode cX6_settingNow 15 = .ok (.getfield 12, 3) := by decide +kernel
theorem dX6_settingNow_18 : decode cX6_settingNow 18 = .ok (.getfield 145, 3) := by decide +kernel
theorem dX6_settingNow_21 : decode cX6_settingNow 21 = .ok (.ireturn, 1) := by decide +kernel
theorem dX6_slotOf_0 : decode cX6_slotOf 0 = .ok (.iload_n 1, 1) := by decide +kernel
theorem dX6_slotOf_1 : decode cX6_slotOf 1 = .ok (.ifCond .ne 10, 3) := by decide +kernel
theorem dX6_slotOf_4 : decode cX6_slotOf 4 = .ok (.aload_n 0, 1) := by decide +kernel
theorem dX6_slotOf_5 : decode cX6_slotOf 5 = .ok (.getfield 40, 3) := by decide +kernel
theorem dX6_slotOf_8 : decode cX6_slotOf 8 = .ok (.goto 7, 3) := by decide +kernel
theorem dX6_slotOf_11 : decode cX6_slotOf 11 = .ok (.aload_n 0, 1) := by decide +kernel
theorem dX6_slotOf_12 : decode cX6_slotOf 12 = .ok (.getfield 44, 3) := by decide +kernel
theorem dX6_slotOf_15 : decode cX6_slotOf 15 = .ok (.areturn, 1) := by decide +kernel
set_option maxRecDepth 20000 in
theorem ggX6_counted_X4_size : GoodIn wsX6_counted wsX4_size := goodIn_r _ [11, 12, 87, 88, 89] (by decide +kernel) (by decide +kernel)
set_option maxRecDepth 20000 in
theorem gX6_counted_X4_size : GoodIn wsX6_counted (wsV RX6 177 RX4 yX4_size wsX4_size) := goodIn_app (goodIn_of _ (by decide +kernel)) ggX6_counted_X4_size
set_option maxRecDepth 20000 in
theorem ggX6_counted_X1_running : GoodIn wsX6_counted wsX1_running := goodIn_r _ [17, 18, 19, 20, 21, 10, 22, 12, 23, 24, 25, 26, 27, 28, 81, 82, 83, 84, 85, 86, 87, 88, 89] (by decide +kernel) (by decide +kernel)
set_option maxRecDepth 20000 in
theorem gX6_counted_X1_running : GoodIn wsX6_counted (wsV RX6 216 RX1 yX1_running wsX1_running) := goodIn_app (goodIn_of _ (by decide +kernel)) ggX6_counted_X1_running
set_option maxRecDepth 20000 in
theorem ggX6_counted_X1_stakes : GoodIn wsX6_counted wsX1_stakes := goodIn_r _ [32, 33, 34, 8, 9, 10, 11, 12, 35, 36, 37, 16, 38, 39, 24, 25, 26, 27, 28, 81, 82, 83, 84, 85, 86, 87, 88, 89] (by decide +kernel) (by decide +kernel)
set_option maxRecDepth 20000 in
theorem gX6_counted_X1_stakes : GoodIn wsX6_counted (wsV RX6 281 RX1 yX1_stakes wsX1_stakes) := goodIn_app (goodIn_of _ (by decide +kernel)) ggX6_counted_X1_stakes
set_option maxRecDepth 20000 in
theorem ggX6_counted_X4_sum : GoodIn wsX6_counted wsX4_sum := goodIn_r _ [22, 12, 23, 24, 25, 10, 26, 27, 28, 87, 88, 89] (by decide +kernel) (by decide +kernel)
set_option maxRecDepth 20000 in
theorem gX6_counted_X4_sum : GoodIn wsX6_counted (wsV RX6 284 RX4 yX4_sum wsX4_sum) := goodIn_app (goodIn_of _ (by decide +kernel)) ggX6_counted_X4_sum
set_option maxRecDepth 20000 in
theorem ggX6_counted_X1_places : GoodIn wsX6_counted wsX1_places := goodIn_r _ [44, 45, 14, 15, 16, 17, 18, 19, 20, 21, 10, 22, 12, 23, 24, 25, 26, 27, 28, 81, 82, 83, 84, 85, 86, 87, 88, 89] (by decide +kernel) (by decide +kernel)
set_option maxRecDepth 20000 in
theorem gX6_counted_X1_places : GoodIn wsX6_counted (wsV RX6 287 RX1 yX1_places wsX1_places) := goodIn_app (goodIn_of _ (by decide +kernel)) ggX6_counted_X1_places
set_option maxRecDepth 20000 in
theorem ggX6_counted_X1_round : GoodIn wsX6_counted wsX1_round := goodIn_r _ [49, 18, 34, 8, 9, 10, 11, 12, 50, 51, 52, 16, 53, 39, 24, 25, 26, 27, 28, 54, 55, 56, 57, 81, 82, 83, 84, 85, 86, 87, 88, 89] (by decide +kernel) (by decide +kernel)
set_option maxRecDepth 20000 in
theorem gX6_counted_X1_round : GoodIn wsX6_counted (wsV RX6 290 RX1 yX1_round wsX1_round) := goodIn_app (goodIn_of _ (by decide +kernel)) ggX6_counted_X1_round
set_option maxRecDepth 20000 in
theorem ggX6_counted_X1_won : GoodIn wsX6_counted wsX1_won := goodIn_r _ [61, 33, 62, 63, 64, 30, 31, 16, 32, 34, 8, 9, 10, 11, 12, 35, 36, 37, 38, 39, 24, 25, 26, 27, 28, 19, 20, 21, 22, 23, 81, 82, 83, 84, 85, 86, 87, 88, 89] (by decide +kernel) (by decide +kernel)
set_option maxRecDepth 20000 in
theorem gX6_counted_X1_won : GoodIn wsX6_counted (wsV RX6 125 RX1 yX1_won wsX1_won) := goodIn_app (goodIn_of _ (by decide +kernel)) ggX6_counted_X1_won
set_option maxRecDepth 20000 in
theorem ggX6_counted_X1_wonByLosses : GoodIn wsX6_counted wsX1_wonByLosses := goodIn_r _ [68, 63, 33, 62, 34, 8, 9, 10, 11, 12, 35, 36, 37, 16, 38, 39, 24, 25, 26, 27, 28, 81, 82, 83, 84, 85, 86, 87, 88, 89] (by decide +kernel) (by decide +kernel)
set_option maxRecDepth 20000 in
theorem gX6_counted_X1_wonByLosses : GoodIn wsX6_counted (wsV RX6 293 RX1 yX1_wonByLosses wsX1_wonByLosses) := goodIn_app (goodIn_of _ (by decide +kernel)) ggX6_counted_X1_wonByLosses
set_option maxRecDepth 20000 in
theorem ggX6_counted_X2_size : GoodIn wsX6_counted wsX2_size := goodIn_r _ [73, 74, 90, 91, 92] (by decide +kernel) (by decide +kernel)
set_option maxRecDepth 20000 in
theorem gX6_counted_X2_size : GoodIn wsX6_counted (wsV RX6 186 RX2 yX2_size wsX2_size) := goodIn_app (goodIn_of _ (by decide +kernel)) ggX6_counted_X2_size
theorem dX6_counted_0 : decode cX6_counted 0 = .ok (.iload_n 1, 1) := by decide +kernel
theorem dX6_counted_1 : decode cX6_counted 1 = .ok (.tableswitch 257 0 12 #[67, 78, 86, 97, 108, 116, 128, 155, 181, 197, 205, 213, 235], 67) := by decide +kernel
theorem dX6_counted_68 : decode cX6_counted 68 = .ok (.aload_n 0, 1) := by decide +kernel
theorem dX6_counted_69 : decode cX6_counted 69 = .ok (.getfield 12, 3) := by decide +kernel
theorem dX6_counted_72 : decode cX6_counted 72 = .ok (.getfield 54, 3) := by decide +kernel
theorem dX6_counted_75 : decode cX6_counted 75 = .ok (.invokevirtual 177, 3) := by decide +kernel
theorem dX6_counted_78 : decode cX6_counted 78 = .ok (.ireturn, 1) := by decide +kernel
theorem dX6_counted_79 : decode cX6_counted 79 = .ok (.aload_n 0, 1) := by decide +kernel
theorem dX6_counted_80 : decode cX6_counted 80 = .ok (.getfield 12, 3) := by decide +kernel
theorem dX6_counted_83 : decode cX6_counted 83 = .ok (.invokevirtual 216, 3) := by decide +kernel
theorem dX6_counted_86 : decode cX6_counted 86 = .ok (.ireturn, 1) := by decide +kernel
theorem dX6_counted_87 : decode cX6_counted 87 = .ok (.aload_n 0, 1) := by decide +kernel
theorem dX6_counted_88 : decode cX6_counted 88 = .ok (.getfield 12, 3) := by decide +kernel
theorem dX6_counted_91 : decode cX6_counted 91 = .ok (.getfield 89, 3) := by decide +kernel
theorem dX6_counted_94 : decode cX6_counted 94 = .ok (.invokevirtual 177, 3) := by decide +kernel
theorem dX6_counted_97 : decode cX6_counted 97 = .ok (.ireturn, 1) := by decide +kernel
theorem dX6_counted_98 : decode cX6_counted 98 = .ok (.aload_n 0, 1) := by decide +kernel
theorem dX6_counted_99 : decode cX6_counted 99 = .ok (.getfield 12, 3) := by decide +kernel
theorem dX6_counted_102 : decode cX6_counted 102 = .ok (.getfield 96, 3) := by decide +kernel
theorem dX6_counted_105 : decode cX6_counted 105 = .ok (.invokevirtual 177, 3) := by decide +kernel
theorem dX6_counted_108 : decode cX6_counted 108 = .ok (.ireturn, 1) := by decide +kernel
theorem dX6_counted_109 : decode cX6_counted 109 = .ok (.aload_n 0, 1) := by decide +kernel
theorem dX6_counted_110 : decode cX6_counted 110 = .ok (.getfield 12, 3) := by decide +kernel
theorem dX6_counted_113 : decode cX6_counted 113 = .ok (.invokevirtual 281, 3) := by decide +kernel
theorem dX6_counted_116 : decode cX6_counted 116 = .ok (.ireturn, 1) := by decide +kernel
theorem dX6_counted_117 : decode cX6_counted 117 = .ok (.aload_n 0, 1) := by decide +kernel
theorem dX6_counted_118 : decode cX6_counted 118 = .ok (.getfield 12, 3) := by decide +kernel
theorem dX6_counted_121 : decode cX6_counted 121 = .ok (.getfield 96, 3) := by decide +kernel
theorem dX6_counted_124 : decode cX6_counted 124 = .ok (.iconst 1, 1) := by decide +kernel
theorem dX6_counted_125 : decode cX6_counted 125 = .ok (.invokevirtual 284, 3) := by decide +kernel
theorem dX6_counted_128 : decode cX6_counted 128 = .ok (.ireturn, 1) := by decide +kernel
theorem dX6_counted_129 : decode cX6_counted 129 = .ok (.aload_n 0, 1) := by decide +kernel
theorem dX6_counted_130 : decode cX6_counted 130 = .ok (.getfield 12, 3) := by decide +kernel
theorem dX6_counted_133 : decode cX6_counted 133 = .ok (.getfield 274, 3) := by decide +kernel
theorem dX6_counted_136 : decode cX6_counted 136 = .ok (.ifCond .eq 18, 3) := by decide +kernel
theorem dX6_counted_139 : decode cX6_counted 139 = .ok (.aload_n 0, 1) := by decide +kernel
theorem dX6_counted_140 : decode cX6_counted 140 = .ok (.getfield 12, 3) := by decide +kernel
theorem dX6_counted_143 : decode cX6_counted 143 = .ok (.getfield 89, 3) := by decide +kernel
theorem dX6_counted_146 : decode cX6_counted 146 = .ok (.bipush 6, 2) := by decide +kernel
theorem dX6_counted_148 : decode cX6_counted 148 = .ok (.invokevirtual 284, 3) := by decide +kernel
theorem dX6_counted_151 : decode cX6_counted 151 = .ok (.goto 4, 3) := by decide +kernel
theorem dX6_counted_154 : decode cX6_counted 154 = .ok (.iconst 0, 1) := by decide +kernel
theorem dX6_counted_155 : decode cX6_counted 155 = .ok (.ireturn, 1) := by decide +kernel
theorem dX6_counted_156 : decode cX6_counted 156 = .ok (.aload_n 0, 1) := by decide +kernel
theorem dX6_counted_157 : decode cX6_counted 157 = .ok (.getfield 12, 3) := by decide +kernel
theorem dX6_counted_160 : decode cX6_counted 160 = .ok (.getfield 274, 3) := by decide +kernel
theorem dX6_counted_163 : decode cX6_counted 163 = .ok (.ifCond .eq 17, 3) := by decide +kernel
theorem dX6_counted_166 : decode cX6_counted 166 = .ok (.aload_n 0, 1) := by decide +kernel
theorem dX6_counted_167 : decode cX6_counted 167 = .ok (.getfield 12, 3) := by decide +kernel
theorem dX6_counted_170 : decode cX6_counted 170 = .ok (.getfield 96, 3) := by decide +kernel
theorem dX6_counted_173 : decode cX6_counted 173 = .ok (.iconst 4, 1) := by decide +kernel
theorem dX6_counted_174 : decode cX6_counted 174 = .ok (.invokevirtual 284, 3) := by decide +kernel
theorem dX6_counted_177 : decode cX6_counted 177 = .ok (.goto 4, 3) := by decide +kernel
theorem dX6_counted_180 : decode cX6_counted 180 = .ok (.iconst 0, 1) := by decide +kernel
theorem dX6_counted_181 : decode cX6_counted 181 = .ok (.ireturn, 1) := by decide +kernel
theorem dX6_counted_182 : decode cX6_counted 182 = .ok (.aload_n 0, 1) := by decide +kernel
theorem dX6_counted_183 : decode cX6_counted 183 = .ok (.getfield 12, 3) := by decide +kernel
theorem dX6_counted_186 : decode cX6_counted 186 = .ok (.getfield 274, 3) := by decide +kernel
theorem dX6_counted_189 : decode cX6_counted 189 = .ok (.ifCond .eq 7, 3) := by decide +kernel
theorem dX6_counted_192 : decode cX6_counted 192 = .ok (.iconst 1, 1) := by decide +kernel
theorem dX6_counted_193 : decode cX6_counted 193 = .ok (.goto 4, 3) := by decide +kernel
theorem dX6_counted_196 : decode cX6_counted 196 = .ok (.iconst 0, 1) := by decide +kernel
theorem dX6_counted_197 : decode cX6_counted 197 = .ok (.ireturn, 1) := by decide +kernel
theorem dX6_counted_198 : decode cX6_counted 198 = .ok (.aload_n 0, 1) := by decide +kernel
theorem dX6_counted_199 : decode cX6_counted 199 = .ok (.getfield 12, 3) := by decide +kernel
theorem dX6_counted_202 : decode cX6_counted 202 = .ok (.invokevirtual 287, 3) := by decide +kernel
theorem dX6_counted_205 : decode cX6_counted 205 = .ok (.ireturn, 1) := by decide +kernel
theorem dX6_counted_206 : decode cX6_counted 206 = .ok (.aload_n 0, 1) := by decide +kernel
theorem dX6_counted_207 : decode cX6_counted 207 = .ok (.getfield 12, 3) := by decide +kernel
theorem dX6_counted_210 : decode cX6_counted 210 = .ok (.invokevirtual 290, 3) := by decide +kernel
theorem dX6_counted_213 : decode cX6_counted 213 = .ok (.ireturn, 1) := by decide +kernel
theorem dX6_counted_214 : decode cX6_counted 214 = .ok (.aload_n 0, 1) := by decide +kernel
theorem dX6_counted_215 : decode cX6_counted 215 = .ok (.getfield 12, 3) := by decide +kernel
theorem dX6_counted_218 : decode cX6_counted 218 = .ok (.getfield 274, 3) := by decide +kernel
theorem dX6_counted_221 : decode cX6_counted 221 = .ok (.ifCond .eq 13, 3) := by decide +kernel
theorem dX6_counted_224 : decode cX6_counted 224 = .ok (.aload_n 0, 1) := by decide +kernel
theorem dX6_counted_225 : decode cX6_counted 225 = .ok (.getfield 12, 3) := by decide +kernel
theorem dX6_counted_228 : decode cX6_counted 228 = .ok (.invokevirtual 125, 3) := by decide +kernel
theorem dX6_counted_231 : decode cX6_counted 231 = .ok (.goto 4, 3) := by decide +kernel
theorem dX6_counted_234 : decode cX6_counted 234 = .ok (.iconst 0, 1) := by decide +kernel
theorem dX6_counted_235 : decode cX6_counted 235 = .ok (.ireturn, 1) := by decide +kernel
theorem dX6_counted_236 : decode cX6_counted 236 = .ok (.aload_n 0, 1) := by decide +kernel
theorem dX6_counted_237 : decode cX6_counted 237 = .ok (.getfield 12, 3) := by decide +kernel
theorem dX6_counted_240 : decode cX6_counted 240 = .ok (.getfield 274, 3) := by decide +kernel
theorem dX6_counted_243 : decode cX6_counted 243 = .ok (.ifCond .eq 13, 3) := by decide +kernel
theorem dX6_counted_246 : decode cX6_counted 246 = .ok (.aload_n 0, 1) := by decide +kernel
theorem dX6_counted_247 : decode cX6_counted 247 = .ok (.getfield 12, 3) := by decide +kernel
theorem dX6_counted_250 : decode cX6_counted 250 = .ok (.invokevirtual 293, 3) := by decide +kernel
theorem dX6_counted_253 : decode cX6_counted 253 = .ok (.goto 4, 3) := by decide +kernel
theorem dX6_counted_256 : decode cX6_counted 256 = .ok (.iconst 0, 1) := by decide +kernel
theorem dX6_counted_257 : decode cX6_counted 257 = .ok (.ireturn, 1) := by decide +kernel
theorem dX6_counted_258 : decode cX6_counted 258 = .ok (.aload_n 0, 1) := by decide +kernel
theorem dX6_counted_259 : decode cX6_counted 259 = .ok (.getfield 33, 3) := by decide +kernel
theorem dX6_counted_262 : decode cX6_counted 262 = .ok (.invokevirtual 186, 3) := by decide +kernel
theorem dX6_counted_265 : decode cX6_counted 265 = .ok (.ireturn, 1) := by decide +kernel
set_option maxRecDepth 20000 in
theorem ggX6_readArrival_X5_isArrival : GoodIn wsX6_readArrival wsX5_isArrival := goodIn_r _ [8, 9, 10, 11, 12, 7, 13, 14, 15, 16, 17, 18, 71, 72] (by decide +kernel) (by decide +kernel)
set_option maxRecDepth 20000 in
theorem gX6_readArrival_X5_isArrival : GoodIn wsX6_readArrival (wsV RX6 296 RX5 yX5_isArrival wsX5_isArrival) := goodIn_app (goodIn_of _ (by decide +kernel)) ggX6_readArrival_X5_isArrival
set_option maxRecDepth 20000 in
theorem ggX6_readArrival_X1_places : GoodIn wsX6_readArrival wsX1_places := goodIn_r _ [23, 24, 25, 26, 22, 27, 28, 29, 30, 31, 32, 33, 34, 35, 36, 37, 38, 39, 40, 73, 74, 75, 76, 77, 78, 79, 80, 81] (by decide +kernel) (by decide +kernel)
set_option maxRecDepth 20000 in
theorem gX6_readArrival_X1_places : GoodIn wsX6_readArrival (wsV RX6 287 RX1 yX1_places wsX1_places) := goodIn_app (goodIn_of _ (by decide +kernel)) ggX6_readArrival_X1_places
set_option maxRecDepth 20000 in
theorem ggX6_readArrival_X0_begin : GoodIn wsX6_readArrival wsX0_begin := goodIn_r _ [45, 46, 47, 48, 49, 50, 82, 83, 84, 85, 86] (by decide +kernel) (by decide +kernel)
set_option maxRecDepth 20000 in
theorem gX6_readArrival_X0_begin : GoodIn wsX6_readArrival (wsV RX6 299 RX0 yX0_begin wsX0_begin) := goodIn_app (goodIn_of _ (by decide +kernel)) ggX6_readArrival_X0_begin
set_option maxRecDepth 20000 in
theorem ggX6_readArrival_X5_length : GoodIn wsX6_readArrival wsX5_length := goodIn_r _ [54, 9, 71, 72] (by decide +kernel) (by decide +kernel)
set_option maxRecDepth 20000 in
theorem gX6_readArrival_X5_length : GoodIn wsX6_readArrival (wsV RX6 161 RX5 yX5_length wsX5_length) := goodIn_app (goodIn_of _ (by decide +kernel)) ggX6_readArrival_X5_length
set_option maxRecDepth 20000 in
theorem ggX6_readArrival_X5_codeAt : GoodIn wsX6_readArrival wsX5_codeAt := goodIn_r _ [17, 9, 18, 71, 72] (by decide +kernel) (by decide +kernel)
set_option maxRecDepth 20000 in
theorem gX6_readArrival_X5_codeAt : GoodIn wsX6_readArrival (wsV RX6 248 RX5 yX5_codeAt wsX5_codeAt) := goodIn_app (goodIn_of _ (by decide +kernel)) ggX6_readArrival_X5_codeAt
set_option maxRecDepth 20000 in
theorem ggX6_readArrival_X1_runs : GoodIn wsX6_readArrival wsX1_runs := goodIn_r _ [59, 28, 60, 36, 37, 32, 38, 39, 34, 40, 73, 74, 75, 76, 77, 78, 79, 80, 81] (by decide +kernel) (by decide +kernel)
set_option maxRecDepth 20000 in
theorem gX6_readArrival_X1_runs : GoodIn wsX6_readArrival (wsV RX6 209 RX1 yX1_runs wsX1_runs) := goodIn_app (goodIn_of _ (by decide +kernel)) ggX6_readArrival_X1_runs
set_option maxRecDepth 20000 in
theorem ggX6_readArrival_X0_arrive : GoodIn wsX6_readArrival wsX0_arrive := goodIn_r _ [64, 46, 49, 50, 47, 82, 83, 84, 85, 86] (by decide +kernel) (by decide +kernel)
set_option maxRecDepth 20000 in
theorem gX6_readArrival_X0_arrive : GoodIn wsX6_readArrival (wsV RX6 302 RX0 yX0_arrive wsX0_arrive) := goodIn_app (goodIn_of _ (by decide +kernel)) ggX6_readArrival_X0_arrive
theorem dX6_readArrival_0 : decode cX6_readArrival 0 = .ok (.aload_n 0, 1) := by decide +kernel
theorem dX6_readArrival_1 : decode cX6_readArrival 1 = .ok (.getfield 26, 3) := by decide +kernel
theorem dX6_readArrival_4 : decode cX6_readArrival 4 = .ok (.invokevirtual 296, 3) := by decide +kernel
theorem dX6_readArrival_7 : decode cX6_readArrival 7 = .ok (.ifCond .ne 5, 3) := by decide +kernel
theorem dX6_readArrival_10 : decode cX6_readArrival 10 = .ok (.iconst 0, 1) := by decide +kernel
theorem dX6_readArrival_11 : decode cX6_readArrival 11 = .ok (.ireturn, 1) := by decide +kernel
theorem dX6_readArrival_12 : decode cX6_readArrival 12 = .ok (.aload_n 0, 1) := by decide +kernel
theorem dX6_readArrival_13 : decode cX6_readArrival 13 = .ok (.getfield 19, 3) := by decide +kernel
theorem dX6_readArrival_16 : decode cX6_readArrival 16 = .ok (.aload_n 0, 1) := by decide +kernel
theorem dX6_readArrival_17 : decode cX6_readArrival 17 = .ok (.getfield 12, 3) := by decide +kernel
theorem dX6_readArrival_20 : decode cX6_readArrival 20 = .ok (.invokevirtual 287, 3) := by decide +kernel
theorem dX6_readArrival_23 : decode cX6_readArrival 23 = .ok (.invokevirtual 299, 3) := by decide +kernel
theorem dX6_readArrival_26 : decode cX6_readArrival 26 = .ok (.iconst 0, 1) := by decide +kernel
theorem dX6_readArrival_27 : decode cX6_readArrival 27 = .ok (.istore_n 1, 1) := by decide +kernel
theorem dX6_readArrival_28 : decode cX6_readArrival 28 = .ok (.iload_n 1, 1) := by decide +kernel
theorem dX6_readArrival_29 : decode cX6_readArrival 29 = .ok (.aload_n 0, 1) := by decide +kernel
theorem dX6_readArrival_30 : decode cX6_readArrival 30 = .ok (.getfield 26, 3) := by decide +kernel
theorem dX6_readArrival_33 : decode cX6_readArrival 33 = .ok (.invokevirtual 161, 3) := by decide +kernel
theorem dX6_readArrival_36 : decode cX6_readArrival 36 = .ok (.if_icmp .ge 66, 3) := by decide +kernel
theorem dX6_readArrival_39 : decode cX6_readArrival 39 = .ok (.aload_n 0, 1) := by decide +kernel
theorem dX6_readArrival_40 : decode cX6_readArrival 40 = .ok (.getfield 26, 3) := by decide +kernel
theorem dX6_readArrival_43 : decode cX6_readArrival 43 = .ok (.iload_n 1, 1) := by decide +kernel
theorem dX6_readArrival_44 : decode cX6_readArrival 44 = .ok (.invokevirtual 248, 3) := by decide +kernel
theorem dX6_readArrival_47 : decode cX6_readArrival 47 = .ok (.bipush 97, 2) := by decide +kernel
theorem dX6_readArrival_49 : decode cX6_readArrival 49 = .ok (.isub, 1) := by decide +kernel
theorem dX6_readArrival_50 : decode cX6_readArrival 50 = .ok (.istore_n 2, 1) := by decide +kernel
theorem dX6_readArrival_51 : decode cX6_readArrival 51 = .ok (.aload_n 0, 1) := by decide +kernel
theorem dX6_readArrival_52 : decode cX6_readArrival 52 = .ok (.getfield 12, 3) := by decide +kernel
theorem dX6_readArrival_55 : decode cX6_readArrival 55 = .ok (.iload_n 2, 1) := by decide +kernel
theorem dX6_readArrival_56 : decode cX6_readArrival 56 = .ok (.invokevirtual 209, 3) := by decide +kernel
theorem dX6_readArrival_59 : decode cX6_readArrival 59 = .ok (.ifCond .ne 5, 3) := by decide +kernel
theorem dX6_readArrival_62 : decode cX6_readArrival 62 = .ok (.iconst 0, 1) := by decide +kernel
theorem dX6_readArrival_63 : decode cX6_readArrival 63 = .ok (.ireturn, 1) := by decide +kernel
theorem dX6_readArrival_64 : decode cX6_readArrival 64 = .ok (.aload_n 0, 1) := by decide +kernel
theorem dX6_readArrival_65 : decode cX6_readArrival 65 = .ok (.getfield 19, 3) := by decide +kernel
theorem dX6_readArrival_68 : decode cX6_readArrival 68 = .ok (.iload_n 2, 1) := by decide +kernel
theorem dX6_readArrival_69 : decode cX6_readArrival 69 = .ok (.iload_n 1, 1) := by decide +kernel
theorem dX6_readArrival_70 : decode cX6_readArrival 70 = .ok (.ifCond .le 22, 3) := by decide +kernel
theorem dX6_readArrival_73 : decode cX6_readArrival 73 = .ok (.aload_n 0, 1) := by decide +kernel
theorem dX6_readArrival_74 : decode cX6_readArrival 74 = .ok (.getfield 26, 3) := by decide +kernel
theorem dX6_readArrival_77 : decode cX6_readArrival 77 = .ok (.iload_n 1, 1) := by decide +kernel
theorem dX6_readArrival_78 : decode cX6_readArrival 78 = .ok (.iconst 1, 1) := by decide +kernel
theorem dX6_readArrival_79 : decode cX6_readArrival 79 = .ok (.isub, 1) := by decide +kernel
theorem dX6_readArrival_80 : decode cX6_readArrival 80 = .ok (.invokevirtual 248, 3) := by decide +kernel
theorem dX6_readArrival_83 : decode cX6_readArrival 83 = .ok (.bipush 61, 2) := by decide +kernel
theorem dX6_readArrival_85 : decode cX6_readArrival 85 = .ok (.if_icmp .ne 7, 3) := by decide +kernel
theorem dX6_readArrival_88 : decode cX6_readArrival 88 = .ok (.iconst 1, 1) := by decide +kernel
theorem dX6_readArrival_89 : decode cX6_readArrival 89 = .ok (.goto 4, 3) := by decide +kernel
theorem dX6_readArrival_92 : decode cX6_readArrival 92 = .ok (.iconst 0, 1) := by decide +kernel
theorem dX6_readArrival_93 : decode cX6_readArrival 93 = .ok (.invokevirtual 302, 3) := by decide +kernel
theorem dX6_readArrival_96 : decode cX6_readArrival 96 = .ok (.iinc 1 2, 3) := by decide +kernel
theorem dX6_readArrival_99 : decode cX6_readArrival 99 = .ok (.goto (-71), 3) := by decide +kernel
theorem dX6_readArrival_102 : decode cX6_readArrival 102 = .ok (.iconst 1, 1) := by decide +kernel
theorem dX6_readArrival_103 : decode cX6_readArrival 103 = .ok (.ireturn, 1) := by decide +kernel
set_option maxRecDepth 20000 in
theorem ggX6_wouldWinWith_X1_runs : GoodIn wsX6_wouldWinWith wsX1_runs := goodIn_r _ [8, 9, 10, 11, 12, 13, 14, 15, 16, 17, 108, 109, 110, 111, 112, 113, 114, 115, 116] (by decide +kernel) (by decide +kernel)
set_option maxRecDepth 20000 in
theorem gX6_wouldWinWith_X1_runs : GoodIn wsX6_wouldWinWith (wsV RX6 209 RX1 yX1_runs wsX1_runs) := goodIn_app (goodIn_of _ (by decide +kernel)) ggX6_wouldWinWith_X1_runs
set_option maxRecDepth 20000 in
theorem ggX6_wouldWinWith_X1_places : GoodIn wsX6_wouldWinWith wsX1_places := goodIn_r _ [21, 22, 23, 24, 7, 25, 9, 26, 27, 28, 13, 29, 16, 30, 11, 12, 14, 15, 17, 108, 109, 110, 111, 112, 113, 114, 115, 116] (by decide +kernel) (by decide +kernel)
set_option maxRecDepth 20000 in
theorem gX6_wouldWinWith_X1_places : GoodIn wsX6_wouldWinWith (wsV RX6 287 RX1 yX1_places wsX1_places) := goodIn_app (goodIn_of _ (by decide +kernel)) ggX6_wouldWinWith_X1_places
set_option maxRecDepth 20000 in
theorem ggX6_wouldWinWith_X0_begin : GoodIn wsX6_wouldWinWith wsX0_begin := goodIn_r _ [35, 36, 37, 38, 39, 40, 117, 118, 119, 120, 121] (by decide +kernel) (by decide +kernel)
set_option maxRecDepth 20000 in
theorem gX6_wouldWinWith_X0_begin : GoodIn wsX6_wouldWinWith (wsV RX6 299 RX0 yX0_begin wsX0_begin) := goodIn_app (goodIn_of _ (by decide +kernel)) ggX6_wouldWinWith_X0_begin
set_option maxRecDepth 20000 in
theorem ggX6_wouldWinWith_X0_arrive : GoodIn wsX6_wouldWinWith wsX0_arrive := goodIn_r _ [44, 36, 39, 40, 37, 117, 118, 119, 120, 121] (by decide +kernel) (by decide +kernel)
set_option maxRecDepth 20000 in
theorem gX6_wouldWinWith_X0_arrive : GoodIn wsX6_wouldWinWith (wsV RX6 302 RX0 yX0_arrive wsX0_arrive) := goodIn_app (goodIn_of _ (by decide +kernel)) ggX6_wouldWinWith_X0_arrive
set_option maxRecDepth 20000 in
theorem ggX6_wouldWinWith_X4_size : GoodIn wsX6_wouldWinWith wsX4_size := goodIn_r _ [48, 16, 114, 115, 116] (by decide +kernel) (by decide +kernel)
set_option maxRecDepth 20000 in
theorem gX6_wouldWinWith_X4_size : GoodIn wsX6_wouldWinWith (wsV RX6 177 RX4 yX4_size wsX4_size) := goodIn_app (goodIn_of _ (by decide +kernel)) ggX6_wouldWinWith_X4_size
set_option maxRecDepth 20000 in
theorem ggX6_wouldWinWith_X1_wouldWin : GoodIn wsX6_wouldWinWith wsX1_wouldWin := goodIn_r _ [52, 53, 54, 55, 56, 57, 58, 7, 59, 60, 46, 47, 13, 48, 16, 61, 62, 63, 64, 10, 11, 12, 14, 15, 17, 26, 27, 28, 29, 30, 65, 66, 67, 68, 69, 5, 6, 8, 9, 70, 71, 72, 73, 74, 75, 76, 34, 77, 37, 78, 79, 80, 81, 36, 82, 83, 84, 85, 86, 87, 88, 89, 90, 91, 92, 93, 94, 95, 96, 97, 38, 98, 99, 100, 101, 108, 109, 110, 111, 112, 113, 114, 115, 116, 117, 118, 119, 120, 121] (by decide +kernel) (by decide +kernel)
set_option maxRecDepth 20000 in
theorem gX6_wouldWinWith_X1_wouldWin : GoodIn wsX6_wouldWinWith (wsV RX6 202 RX1 yX1_wouldWin wsX1_wouldWin) := goodIn_app (goodIn_of _ (by decide +kernel)) ggX6_wouldWinWith_X1_wouldWin
theorem dX6_wouldWinWith_0 : decode cX6_wouldWinWith 0 = .ok (.aload_n 0, 1) := by decide +kernel
theorem dX6_wouldWinWith_1 : decode cX6_wouldWinWith 1 = .ok (.getfield 12, 3) := by decide +kernel
theorem dX6_wouldWinWith_4 : decode cX6_wouldWinWith 4 = .ok (.iload_n 1, 1) := by decide +kernel
theorem dX6_wouldWinWith_5 : decode cX6_wouldWinWith 5 = .ok (.invokevirtual 209, 3) := by decide +kernel
theorem dX6_wouldWinWith_8 : decode cX6_wouldWinWith 8 = .ok (.ifCond .ne 5, 3) := by decide +kernel
theorem dX6_wouldWinWith_11 : decode cX6_wouldWinWith 11 = .ok (.iconst (-1), 1) := by decide +kernel
theorem dX6_wouldWinWith_12 : decode cX6_wouldWinWith 12 = .ok (.ireturn, 1) := by decide +kernel
theorem dX6_wouldWinWith_13 : decode cX6_wouldWinWith 13 = .ok (.aload_n 0, 1) := by decide +kernel
theorem dX6_wouldWinWith_14 : decode cX6_wouldWinWith 14 = .ok (.getfield 19, 3) := by decide +kernel
theorem dX6_wouldWinWith_17 : decode cX6_wouldWinWith 17 = .ok (.aload_n 0, 1) := by decide +kernel
theorem dX6_wouldWinWith_18 : decode cX6_wouldWinWith 18 = .ok (.getfield 12, 3) := by decide +kernel
theorem dX6_wouldWinWith_21 : decode cX6_wouldWinWith 21 = .ok (.invokevirtual 287, 3) := by decide +kernel
theorem dX6_wouldWinWith_24 : decode cX6_wouldWinWith 24 = .ok (.invokevirtual 299, 3) := by decide +kernel
theorem dX6_wouldWinWith_27 : decode cX6_wouldWinWith 27 = .ok (.aload_n 0, 1) := by decide +kernel
theorem dX6_wouldWinWith_28 : decode cX6_wouldWinWith 28 = .ok (.getfield 19, 3) := by decide +kernel
theorem dX6_wouldWinWith_31 : decode cX6_wouldWinWith 31 = .ok (.iload_n 1, 1) := by decide +kernel
theorem dX6_wouldWinWith_32 : decode cX6_wouldWinWith 32 = .ok (.iconst 0, 1) := by decide +kernel
theorem dX6_wouldWinWith_33 : decode cX6_wouldWinWith 33 = .ok (.invokevirtual 302, 3) := by decide +kernel
theorem dX6_wouldWinWith_36 : decode cX6_wouldWinWith 36 = .ok (.iconst 0, 1) := by decide +kernel
theorem dX6_wouldWinWith_37 : decode cX6_wouldWinWith 37 = .ok (.istore_n 2, 1) := by decide +kernel
theorem dX6_wouldWinWith_38 : decode cX6_wouldWinWith 38 = .ok (.iload_n 2, 1) := by decide +kernel
theorem dX6_wouldWinWith_39 : decode cX6_wouldWinWith 39 = .ok (.aload_n 0, 1) := by decide +kernel
theorem dX6_wouldWinWith_40 : decode cX6_wouldWinWith 40 = .ok (.getfield 12, 3) := by decide +kernel
theorem dX6_wouldWinWith_43 : decode cX6_wouldWinWith 43 = .ok (.getfield 54, 3) := by decide +kernel
theorem dX6_wouldWinWith_46 : decode cX6_wouldWinWith 46 = .ok (.invokevirtual 177, 3) := by decide +kernel
theorem dX6_wouldWinWith_49 : decode cX6_wouldWinWith 49 = .ok (.if_icmp .ge 34, 3) := by decide +kernel
theorem dX6_wouldWinWith_52 : decode cX6_wouldWinWith 52 = .ok (.iload_n 2, 1) := by decide +kernel
theorem dX6_wouldWinWith_53 : decode cX6_wouldWinWith 53 = .ok (.iload_n 1, 1) := by decide +kernel
theorem dX6_wouldWinWith_54 : decode cX6_wouldWinWith 54 = .ok (.if_icmp .eq 23, 3) := by decide +kernel
theorem dX6_wouldWinWith_57 : decode cX6_wouldWinWith 57 = .ok (.aload_n 0, 1) := by decide +kernel
theorem dX6_wouldWinWith_58 : decode cX6_wouldWinWith 58 = .ok (.getfield 12, 3) := by decide +kernel
theorem dX6_wouldWinWith_61 : decode cX6_wouldWinWith 61 = .ok (.iload_n 2, 1) := by decide +kernel
theorem dX6_wouldWinWith_62 : decode cX6_wouldWinWith 62 = .ok (.invokevirtual 209, 3) := by decide +kernel
theorem dX6_wouldWinWith_65 : decode cX6_wouldWinWith 65 = .ok (.ifCond .eq 12, 3) := by decide +kernel
theorem dX6_wouldWinWith_68 : decode cX6_wouldWinWith 68 = .ok (.aload_n 0, 1) := by decide +kernel
theorem dX6_wouldWinWith_69 : decode cX6_wouldWinWith 69 = .ok (.getfield 19, 3) := by decide +kernel
theorem dX6_wouldWinWith_72 : decode cX6_wouldWinWith 72 = .ok (.iload_n 2, 1) := by decide +kernel
theorem dX6_wouldWinWith_73 : decode cX6_wouldWinWith 73 = .ok (.iconst 0, 1) := by decide +kernel
theorem dX6_wouldWinWith_74 : decode cX6_wouldWinWith 74 = .ok (.invokevirtual 302, 3) := by decide +kernel
theorem dX6_wouldWinWith_77 : decode cX6_wouldWinWith 77 = .ok (.iinc 2 1, 3) := by decide +kernel
theorem dX6_wouldWinWith_80 : decode cX6_wouldWinWith 80 = .ok (.goto (-42), 3) := by decide +kernel
theorem dX6_wouldWinWith_83 : decode cX6_wouldWinWith 83 = .ok (.aload_n 0, 1) := by decide +kernel
theorem dX6_wouldWinWith_84 : decode cX6_wouldWinWith 84 = .ok (.getfield 12, 3) := by decide +kernel
theorem dX6_wouldWinWith_87 : decode cX6_wouldWinWith 87 = .ok (.aload_n 0, 1) := by decide +kernel
theorem dX6_wouldWinWith_88 : decode cX6_wouldWinWith 88 = .ok (.getfield 19, 3) := by decide +kernel
theorem dX6_wouldWinWith_91 : decode cX6_wouldWinWith 91 = .ok (.invokevirtual 202, 3) := by decide +kernel
theorem dX6_wouldWinWith_94 : decode cX6_wouldWinWith 94 = .ok (.ireturn, 1) := by decide +kernel
set_option maxRecDepth 20000 in
theorem ggX6_coveringStake_X4_cell : GoodIn wsX6_coveringStake wsX4_cell := goodIn_r _ [10, 11, 12, 13, 33, 34, 35] (by decide +kernel) (by decide +kernel)
set_option maxRecDepth 20000 in
theorem gX6_coveringStake_X4_cell : GoodIn wsX6_coveringStake (wsV RX6 83 RX4 yX4_cell wsX4_cell) := goodIn_app (goodIn_of _ (by decide +kernel)) ggX6_coveringStake_X4_cell
set_option maxRecDepth 20000 in
theorem ggX6_coveringStake_X1_runs : GoodIn wsX6_coveringStake wsX1_runs := goodIn_r _ [18, 19, 20, 7, 8, 9, 10, 11, 12, 13, 27, 28, 29, 30, 31, 32, 33, 34, 35] (by decide +kernel) (by decide +kernel)
set_option maxRecDepth 20000 in
theorem gX6_coveringStake_X1_runs : GoodIn wsX6_coveringStake (wsV RX6 209 RX1 yX1_runs wsX1_runs) := goodIn_app (goodIn_of _ (by decide +kernel)) ggX6_coveringStake_X1_runs
theorem dX6_coveringStake_0 : decode cX6_coveringStake 0 = .ok (.aload_n 0, 1) := by decide +kernel
theorem dX6_coveringStake_1 : decode cX6_coveringStake 1 = .ok (.getfield 12, 3) := by decide +kernel
theorem dX6_coveringStake_4 : decode cX6_coveringStake 4 = .ok (.getfield 54, 3) := by decide +kernel
theorem dX6_coveringStake_7 : decode cX6_coveringStake 7 = .ok (.iload_n 1, 1) := by decide +kernel
theorem dX6_coveringStake_8 : decode cX6_coveringStake 8 = .ok (.iconst 0, 1) := by decide +kernel
theorem dX6_coveringStake_9 : decode cX6_coveringStake 9 = .ok (.invokevirtual 83, 3) := by decide +kernel
theorem dX6_coveringStake_12 : decode cX6_coveringStake 12 = .ok (.istore_n 3, 1) := by decide +kernel
theorem dX6_coveringStake_13 : decode cX6_coveringStake 13 = .ok (.aload_n 0, 1) := by decide +kernel
theorem dX6_coveringStake_14 : decode cX6_coveringStake 14 = .ok (.getfield 12, 3) := by decide +kernel
theorem dX6_coveringStake_17 : decode cX6_coveringStake 17 = .ok (.iload_n 1, 1) := by decide +kernel
theorem dX6_coveringStake_18 : decode cX6_coveringStake 18 = .ok (.invokevirtual 209, 3) := by decide +kernel
theorem dX6_coveringStake_21 : decode cX6_coveringStake 21 = .ok (.ifCond .eq 7, 3) := by decide +kernel
theorem dX6_coveringStake_24 : decode cX6_coveringStake 24 = .ok (.iload_n 3, 1) := by decide +kernel
theorem dX6_coveringStake_25 : decode cX6_coveringStake 25 = .ok (.ifCond .gt 5, 3) := by decide +kernel
theorem dX6_coveringStake_28 : decode cX6_coveringStake 28 = .ok (.iconst (-1), 1) := by decide +kernel
theorem dX6_coveringStake_29 : decode cX6_coveringStake 29 = .ok (.ireturn, 1) := by decide +kernel
theorem dX6_coveringStake_30 : decode cX6_coveringStake 30 = .ok (.ldc2_w 306, 3) := by decide +kernel
theorem dX6_coveringStake_33 : decode cX6_coveringStake 33 = .ok (.aload_n 0, 1) := by decide +kernel
theorem dX6_coveringStake_34 : decode cX6_coveringStake 34 = .ok (.getfield 12, 3) := by decide +kernel
theorem dX6_coveringStake_37 : decode cX6_coveringStake 37 = .ok (.getfield 145, 3) := by decide +kernel
theorem dX6_coveringStake_40 : decode cX6_coveringStake 40 = .ok (.i2l, 1) := by decide +kernel
theorem dX6_coveringStake_41 : decode cX6_coveringStake 41 = .ok (.lsub, 1) := by decide +kernel
theorem dX6_coveringStake_42 : decode cX6_coveringStake 42 = .ok (.iload_n 2, 1) := by decide +kernel
theorem dX6_coveringStake_43 : decode cX6_coveringStake 43 = .ok (.i2l, 1) := by decide +kernel
theorem dX6_coveringStake_44 : decode cX6_coveringStake 44 = .ok (.lsub, 1) := by decide +kernel
theorem dX6_coveringStake_45 : decode cX6_coveringStake 45 = .ok (.lstore 4, 2) := by decide +kernel
theorem dX6_coveringStake_47 : decode cX6_coveringStake 47 = .ok (.lload 4, 2) := by decide +kernel
theorem dX6_coveringStake_49 : decode cX6_coveringStake 49 = .ok (.lconst 0, 1) := by decide +kernel
theorem dX6_coveringStake_50 : decode cX6_coveringStake 50 = .ok (.lcmp, 1) := by decide +kernel
theorem dX6_coveringStake_51 : decode cX6_coveringStake 51 = .ok (.ifCond .gt 5, 3) := by decide +kernel
theorem dX6_coveringStake_54 : decode cX6_coveringStake 54 = .ok (.iconst 0, 1) := by decide +kernel
theorem dX6_coveringStake_55 : decode cX6_coveringStake 55 = .ok (.ireturn, 1) := by decide +kernel
theorem dX6_coveringStake_56 : decode cX6_coveringStake 56 = .ok (.lload 4, 2) := by decide +kernel
theorem dX6_coveringStake_58 : decode cX6_coveringStake 58 = .ok (.aload_n 0, 1) := by decide +kernel
theorem dX6_coveringStake_59 : decode cX6_coveringStake 59 = .ok (.getfield 12, 3) := by decide +kernel
theorem dX6_coveringStake_62 : decode cX6_coveringStake 62 = .ok (.getfield 54, 3) := by decide +kernel
theorem dX6_coveringStake_65 : decode cX6_coveringStake 65 = .ok (.iload_n 1, 1) := by decide +kernel
theorem dX6_coveringStake_66 : decode cX6_coveringStake 66 = .ok (.iconst 1, 1) := by decide +kernel
theorem dX6_coveringStake_67 : decode cX6_coveringStake 67 = .ok (.invokevirtual 83, 3) := by decide +kernel
theorem dX6_coveringStake_70 : decode cX6_coveringStake 70 = .ok (.i2l, 1) := by decide +kernel
theorem dX6_coveringStake_71 : decode cX6_coveringStake 71 = .ok (.lmul, 1) := by decide +kernel
theorem dX6_coveringStake_72 : decode cX6_coveringStake 72 = .ok (.iload_n 3, 1) := by decide +kernel
theorem dX6_coveringStake_73 : decode cX6_coveringStake 73 = .ok (.i2l, 1) := by decide +kernel
theorem dX6_coveringStake_74 : decode cX6_coveringStake 74 = .ok (.ladd, 1) := by decide +kernel
theorem dX6_coveringStake_75 : decode cX6_coveringStake 75 = .ok (.lconst 1, 1) := by decide +kernel
theorem dX6_coveringStake_76 : decode cX6_coveringStake 76 = .ok (.lsub, 1) := by decide +kernel
theorem dX6_coveringStake_77 : decode cX6_coveringStake 77 = .ok (.iload_n 3, 1) := by decide +kernel
theorem dX6_coveringStake_78 : decode cX6_coveringStake 78 = .ok (.i2l, 1) := by decide +kernel
theorem dX6_coveringStake_79 : decode cX6_coveringStake 79 = .ok (.ldiv, 1) := by decide +kernel
theorem dX6_coveringStake_80 : decode cX6_coveringStake 80 = .ok (.lstore 6, 2) := by decide +kernel
theorem dX6_coveringStake_82 : decode cX6_coveringStake 82 = .ok (.lload 6, 2) := by decide +kernel
theorem dX6_coveringStake_84 : decode cX6_coveringStake 84 = .ok (.ldc2_w 308, 3) := by decide +kernel
theorem dX6_coveringStake_87 : decode cX6_coveringStake 87 = .ok (.lcmp, 1) := by decide +kernel
theorem dX6_coveringStake_88 : decode cX6_coveringStake 88 = .ok (.ifCond .gt 9, 3) := by decide +kernel
theorem dX6_coveringStake_91 : decode cX6_coveringStake 91 = .ok (.lload 6, 2) := by decide +kernel
theorem dX6_coveringStake_93 : decode cX6_coveringStake 93 = .ok (.l2i, 1) := by decide +kernel
theorem dX6_coveringStake_94 : decode cX6_coveringStake 94 = .ok (.goto 4, 3) := by decide +kernel
theorem dX6_coveringStake_97 : decode cX6_coveringStake 97 = .ok (.iconst (-1), 1) := by decide +kernel
theorem dX6_coveringStake_98 : decode cX6_coveringStake 98 = .ok (.ireturn, 1) := by decide +kernel
theorem dX6_mixed_0 : decode cX6_mixed 0 = .ok (.ldc2_w 310, 3) := by decide +kernel
theorem dX6_mixed_3 : decode cX6_mixed 3 = .ok (.lload_n 0, 1) := by decide +kernel
theorem dX6_mixed_4 : decode cX6_mixed 4 = .ok (.lmul, 1) := by decide +kernel
theorem dX6_mixed_5 : decode cX6_mixed 5 = .ok (.lload_n 2, 1) := by decide +kernel
theorem dX6_mixed_6 : decode cX6_mixed 6 = .ok (.ladd, 1) := by decide +kernel
theorem dX6_mixed_7 : decode cX6_mixed 7 = .ok (.lreturn, 1) := by decide +kernel
set_option maxRecDepth 20000 in
theorem ggX6_mixedRow_X4_columns : GoodIn wsX6_mixedRow wsX4_columns := goodIn_r _ [5, 6, 18, 19, 20] (by decide +kernel) (by decide +kernel)
set_option maxRecDepth 20000 in
theorem gX6_mixedRow_X4_columns : GoodIn wsX6_mixedRow (wsV RX6 312 RX4 yX4_columns wsX4_columns) := goodIn_app (goodIn_of _ (by decide +kernel)) ggX6_mixedRow_X4_columns
set_option maxRecDepth 20000 in
theorem ggX6_mixedRow_X4_cell : GoodIn wsX6_mixedRow wsX4_cell := goodIn_r _ [10, 6, 11, 12, 18, 19, 20] (by decide +kernel) (by decide +kernel)
set_option maxRecDepth 20000 in
theorem gX6_mixedRow_X4_cell : GoodIn wsX6_mixedRow (wsV RX6 83 RX4 yX4_cell wsX4_cell) := goodIn_app (goodIn_of _ (by decide +kernel)) ggX6_mixedRow_X4_cell
set_option maxRecDepth 20000 in
theorem ggX6_mixedRow_X6_mixed : GoodIn wsX6_mixedRow wsX6_mixed := goodIn_r _ [16, 17] (by decide +kernel) (by decide +kernel)
set_option maxRecDepth 20000 in
theorem gX6_mixedRow_X6_mixed : GoodIn wsX6_mixedRow (va_wsS RX6 222 yX6_mixed wsX6_mixed) := goodIn_app (goodIn_of _ (by decide +kernel)) ggX6_mixedRow_X6_mixed
theorem dX6_mixedRow_0 : decode cX6_mixedRow 0 = .ok (.lload_n 0, 1) := by decide +kernel
theorem dX6_mixedRow_1 : decode cX6_mixedRow 1 = .ok (.lstore 4, 2) := by decide +kernel
theorem dX6_mixedRow_3 : decode cX6_mixedRow 3 = .ok (.iconst 0, 1) := by decide +kernel
theorem dX6_mixedRow_4 : decode cX6_mixedRow 4 = .ok (.istore 6, 2) := by decide +kernel
theorem dX6_mixedRow_6 : decode cX6_mixedRow 6 = .ok (.iload 6, 2) := by decide +kernel
theorem dX6_mixedRow_8 : decode cX6_mixedRow 8 = .ok (.aload_n 2, 1) := by decide +kernel
theorem dX6_mixedRow_9 : decode cX6_mixedRow 9 = .ok (.invokevirtual 312, 3) := by decide +kernel
theorem dX6_mixedRow_12 : decode cX6_mixedRow 12 = .ok (.if_icmp .ge 24, 3) := by decide +kernel
theorem dX6_mixedRow_15 : decode cX6_mixedRow 15 = .ok (.lload 4, 2) := by decide +kernel
theorem dX6_mixedRow_17 : decode cX6_mixedRow 17 = .ok (.aload_n 2, 1) := by decide +kernel
theorem dX6_mixedRow_18 : decode cX6_mixedRow 18 = .ok (.iload_n 3, 1) := by decide +kernel
theorem dX6_mixedRow_19 : decode cX6_mixedRow 19 = .ok (.iload 6, 2) := by decide +kernel
theorem dX6_mixedRow_21 : decode cX6_mixedRow 21 = .ok (.invokevirtual 83, 3) := by decide +kernel
theorem dX6_mixedRow_24 : decode cX6_mixedRow 24 = .ok (.i2l, 1) := by decide +kernel
theorem dX6_mixedRow_25 : decode cX6_mixedRow 25 = .ok (.invokestatic 222, 3) := by decide +kernel
theorem dX6_mixedRow_28 : decode cX6_mixedRow 28 = .ok (.lstore 4, 2) := by decide +kernel
theorem dX6_mixedRow_30 : decode cX6_mixedRow 30 = .ok (.iinc 6 1, 3) := by decide +kernel
theorem dX6_mixedRow_33 : decode cX6_mixedRow 33 = .ok (.goto (-27), 3) := by decide +kernel
theorem dX6_mixedRow_36 : decode cX6_mixedRow 36 = .ok (.lload 4, 2) := by decide +kernel
theorem dX6_mixedRow_38 : decode cX6_mixedRow 38 = .ok (.lreturn, 1) := by decide +kernel
set_option maxRecDepth 20000 in
theorem ggX6_mixedTable_X4_size : GoodIn wsX6_mixedTable wsX4_size := goodIn_r _ [5, 6, 25, 26, 27] (by decide +kernel) (by decide +kernel)
set_option maxRecDepth 20000 in
theorem gX6_mixedTable_X4_size : GoodIn wsX6_mixedTable (wsV RX6 177 RX4 yX4_size wsX4_size) := goodIn_app (goodIn_of _ (by decide +kernel)) ggX6_mixedTable_X4_size
set_option maxRecDepth 20000 in
theorem ggX6_mixedTable_X6_mixedRow : GoodIn wsX6_mixedTable wsX6_mixedRow := goodIn_r _ [10, 11, 12, 13, 4, 14, 15, 16, 17, 18, 19, 6, 20, 21, 22, 9, 23, 24, 25, 26, 27] (by decide +kernel) (by decide +kernel)
set_option maxRecDepth 20000 in
theorem gX6_mixedTable_X6_mixedRow : GoodIn wsX6_mixedTable (va_wsS RX6 315 yX6_mixedRow wsX6_mixedRow) := goodIn_app (goodIn_of _ (by decide +kernel)) ggX6_mixedTable_X6_mixedRow
theorem dX6_mixedTable_0 : decode cX6_mixedTable 0 = .ok (.lload_n 0, 1) := by decide +kernel
theorem dX6_mixedTable_1 : decode cX6_mixedTable 1 = .ok (.lstore_n 3, 1) := by decide +kernel
theorem dX6_mixedTable_2 : decode cX6_mixedTable 2 = .ok (.iconst 0, 1) := by decide +kernel
theorem dX6_mixedTable_3 : decode cX6_mixedTable 3 = .ok (.istore 5, 2) := by decide +kernel
theorem dX6_mixedTable_5 : decode cX6_mixedTable 5 = .ok (.iload 5, 2) := by decide +kernel
theorem dX6_mixedTable_7 : decode cX6_mixedTable 7 = .ok (.aload_n 2, 1) := by decide +kernel
theorem dX6_mixedTable_8 : decode cX6_mixedTable 8 = .ok (.invokevirtual 177, 3) := by decide +kernel
theorem dX6_mixedTable_11 : decode cX6_mixedTable 11 = .ok (.if_icmp .ge 17, 3) := by decide +kernel
theorem dX6_mixedTable_14 : decode cX6_mixedTable 14 = .ok (.lload_n 3, 1) := by decide +kernel
theorem dX6_mixedTable_15 : decode cX6_mixedTable 15 = .ok (.aload_n 2, 1) := by decide +kernel
theorem dX6_mixedTable_16 : decode cX6_mixedTable 16 = .ok (.iload 5, 2) := by decide +kernel
theorem dX6_mixedTable_18 : decode cX6_mixedTable 18 = .ok (.invokestatic 315, 3) := by decide +kernel
theorem dX6_mixedTable_21 : decode cX6_mixedTable 21 = .ok (.lstore_n 3, 1) := by decide +kernel
theorem dX6_mixedTable_22 : decode cX6_mixedTable 22 = .ok (.iinc 5 1, 3) := by decide +kernel
theorem dX6_mixedTable_25 : decode cX6_mixedTable 25 = .ok (.goto (-20), 3) := by decide +kernel
theorem dX6_mixedTable_28 : decode cX6_mixedTable 28 = .ok (.lload_n 3, 1) := by decide +kernel
theorem dX6_mixedTable_29 : decode cX6_mixedTable 29 = .ok (.lreturn, 1) := by decide +kernel
set_option maxRecDepth 20000 in
theorem ggX6_mixedHorses_X4_size : GoodIn wsX6_mixedHorses wsX4_size := goodIn_r _ [7, 8, 138, 139, 140] (by decide +kernel) (by decide +kernel)
set_option maxRecDepth 20000 in
theorem gX6_mixedHorses_X4_size : GoodIn wsX6_mixedHorses (wsV RX6 177 RX4 yX4_size wsX4_size) := goodIn_app (goodIn_of _ (by decide +kernel)) ggX6_mixedHorses_X4_size
set_option maxRecDepth 20000 in
theorem ggX6_mixedHorses_X6_wouldWinWith : GoodIn wsX6_mixedHorses wsX6_wouldWinWith := goodIn_r _ [13, 1, 14, 2, 15, 16, 17, 18, 19, 20, 21, 22, 23, 6, 24, 25, 8, 26, 27, 28, 29, 30, 31, 32, 33, 34, 35, 36, 37, 38, 39, 40, 41, 42, 43, 44, 45, 46, 47, 48, 49, 50, 51, 52, 53, 3, 4, 5, 7, 54, 55, 56, 57, 58, 59, 60, 61, 62, 63, 64, 65, 66, 67, 68, 69, 70, 71, 72, 73, 74, 75, 76, 77, 78, 79, 80, 81, 82, 83, 84, 85, 86, 87, 88, 89, 90, 91, 92, 93, 94, 95, 96, 97, 98, 99, 100, 101, 102, 103, 104, 105, 106, 126, 127, 128, 129, 130, 131, 132, 133, 134, 135, 136, 137, 138, 139, 140, 141, 142, 143, 144, 145] (by decide +kernel) (by decide +kernel)
set_option maxRecDepth 20000 in
theorem gX6_mixedHorses_X6_wouldWinWith : GoodIn wsX6_mixedHorses (wsV RX6 206 RX6 yX6_wouldWinWith wsX6_wouldWinWith) := goodIn_app (goodIn_of _ (by decide +kernel)) ggX6_mixedHorses_X6_wouldWinWith
set_option maxRecDepth 20000 in
theorem ggX6_mixedHorses_X6_mixedRow : GoodIn wsX6_mixedHorses wsX6_mixedRow := goodIn_r _ [109, 110, 111, 112, 6, 113, 25, 114, 22, 23, 24, 8, 26, 115, 116, 12, 117, 118, 138, 139, 140] (by decide +kernel) (by decide +kernel)
set_option maxRecDepth 20000 in
theorem gX6_mixedHorses_X6_mixedRow : GoodIn wsX6_mixedHorses (va_wsS RX6 315 yX6_mixedRow wsX6_mixedRow) := goodIn_app (goodIn_of _ (by decide +kernel)) ggX6_mixedHorses_X6_mixedRow
set_option maxRecDepth 20000 in
theorem ggX6_mixedHorses_X6_mixed : GoodIn wsX6_mixedHorses wsX6_mixed := goodIn_r _ [117, 118] (by decide +kernel) (by decide +kernel)
set_option maxRecDepth 20000 in
theorem gX6_mixedHorses_X6_mixed : GoodIn wsX6_mixedHorses (va_wsS RX6 222 yX6_mixed wsX6_mixed) := goodIn_app (goodIn_of _ (by decide +kernel)) ggX6_mixedHorses_X6_mixed
set_option maxRecDepth 20000 in
theorem ggX6_mixedHorses_X6_coveringStake : GoodIn wsX6_mixedHorses wsX6_coveringStake := goodIn_r _ [122, 1, 2, 123, 124, 125, 114, 22, 23, 6, 24, 25, 8, 26, 15, 16, 17, 18, 19, 20, 21, 126, 127, 128, 129, 130, 131, 132, 133, 134, 135, 136, 137, 138, 139, 140] (by decide +kernel) (by decide +kernel)
set_option maxRecDepth 20000 in
theorem gX6_mixedHorses_X6_coveringStake : GoodIn wsX6_mixedHorses (wsV RX6 213 RX6 yX6_coveringStake wsX6_coveringStake) := goodIn_app (goodIn_of _ (by decide +kernel)) ggX6_mixedHorses_X6_coveringStake
theorem dX6_mixedHorses_0 : decode cX6_mixedHorses 0 = .ok (.lload_n 1, 1) := by decide +kernel
theorem dX6_mixedHorses_1 : decode cX6_mixedHorses 1 = .ok (.lstore_n 3, 1) := by decide +kernel
theorem dX6_mixedHorses_2 : decode cX6_mixedHorses 2 = .ok (.iconst 0, 1) := by decide +kernel
theorem dX6_mixedHorses_3 : decode cX6_mixedHorses 3 = .ok (.istore 5, 2) := by decide +kernel
theorem dX6_mixedHorses_5 : decode cX6_mixedHorses 5 = .ok (.iload 5, 2) := by decide +kernel
theorem dX6_mixedHorses_7 : decode cX6_mixedHorses 7 = .ok (.aload_n 0, 1) := by decide +kernel
theorem dX6_mixedHorses_8 : decode cX6_mixedHorses 8 = .ok (.getfield 12, 3) := by decide +kernel
theorem dX6_mixedHorses_11 : decode cX6_mixedHorses 11 = .ok (.getfield 54, 3) := by decide +kernel
theorem dX6_mixedHorses_14 : decode cX6_mixedHorses 14 = .ok (.invokevirtual 177, 3) := by decide +kernel
theorem dX6_mixedHorses_17 : decode cX6_mixedHorses 17 = .ok (.if_icmp .ge 53, 3) := by decide +kernel
theorem dX6_mixedHorses_20 : decode cX6_mixedHorses 20 = .ok (.aload_n 0, 1) := by decide +kernel
theorem dX6_mixedHorses_21 : decode cX6_mixedHorses 21 = .ok (.iload 5, 2) := by decide +kernel
theorem dX6_mixedHorses_23 : decode cX6_mixedHorses 23 = .ok (.invokevirtual 206, 3) := by decide +kernel
theorem dX6_mixedHorses_26 : decode cX6_mixedHorses 26 = .ok (.istore 6, 2) := by decide +kernel
theorem dX6_mixedHorses_28 : decode cX6_mixedHorses 28 = .ok (.lload_n 3, 1) := by decide +kernel
theorem dX6_mixedHorses_29 : decode cX6_mixedHorses 29 = .ok (.aload_n 0, 1) := by decide +kernel
theorem dX6_mixedHorses_30 : decode cX6_mixedHorses 30 = .ok (.getfield 12, 3) := by decide +kernel
theorem dX6_mixedHorses_33 : decode cX6_mixedHorses 33 = .ok (.getfield 54, 3) := by decide +kernel
theorem dX6_mixedHorses_36 : decode cX6_mixedHorses 36 = .ok (.iload 5, 2) := by decide +kernel
theorem dX6_mixedHorses_38 : decode cX6_mixedHorses 38 = .ok (.invokestatic 315, 3) := by decide +kernel
theorem dX6_mixedHorses_41 : decode cX6_mixedHorses 41 = .ok (.lstore_n 3, 1) := by decide +kernel
theorem dX6_mixedHorses_42 : decode cX6_mixedHorses 42 = .ok (.lload_n 3, 1) := by decide +kernel
theorem dX6_mixedHorses_43 : decode cX6_mixedHorses 43 = .ok (.iload 6, 2) := by decide +kernel
theorem dX6_mixedHorses_45 : decode cX6_mixedHorses 45 = .ok (.i2l, 1) := by decide +kernel
theorem dX6_mixedHorses_46 : decode cX6_mixedHorses 46 = .ok (.invokestatic 222, 3) := by decide +kernel
theorem dX6_mixedHorses_49 : decode cX6_mixedHorses 49 = .ok (.lstore_n 3, 1) := by decide +kernel
theorem dX6_mixedHorses_50 : decode cX6_mixedHorses 50 = .ok (.lload_n 3, 1) := by decide +kernel
theorem dX6_mixedHorses_51 : decode cX6_mixedHorses 51 = .ok (.aload_n 0, 1) := by decide +kernel
theorem dX6_mixedHorses_52 : decode cX6_mixedHorses 52 = .ok (.iload 5, 2) := by decide +kernel
theorem dX6_mixedHorses_54 : decode cX6_mixedHorses 54 = .ok (.iload 6, 2) := by decide +kernel
theorem dX6_mixedHorses_56 : decode cX6_mixedHorses 56 = .ok (.invokevirtual 213, 3) := by decide +kernel
theorem dX6_mixedHorses_59 : decode cX6_mixedHorses 59 = .ok (.i2l, 1) := by decide +kernel
theorem dX6_mixedHorses_60 : decode cX6_mixedHorses 60 = .ok (.invokestatic 222, 3) := by decide +kernel
theorem dX6_mixedHorses_63 : decode cX6_mixedHorses 63 = .ok (.lstore_n 3, 1) := by decide +kernel
theorem dX6_mixedHorses_64 : decode cX6_mixedHorses 64 = .ok (.iinc 5 1, 3) := by decide +kernel
theorem dX6_mixedHorses_67 : decode cX6_mixedHorses 67 = .ok (.goto (-62), 3) := by decide +kernel
theorem dX6_mixedHorses_70 : decode cX6_mixedHorses 70 = .ok (.lload_n 3, 1) := by decide +kernel
theorem dX6_mixedHorses_71 : decode cX6_mixedHorses 71 = .ok (.lreturn, 1) := by decide +kernel
theorem dX6_bitsOfShare_0 : decode cX6_bitsOfShare 0 = .ok (.dload_n 0, 1) := by decide +kernel
theorem dX6_bitsOfShare_1 : decode cX6_bitsOfShare 1 = .ok (.dconst 0, 1) := by decide +kernel
theorem dX6_bitsOfShare_2 : decode cX6_bitsOfShare 2 = .ok (.dcmp .g, 1) := by decide +kernel
theorem dX6_bitsOfShare_3 : decode cX6_bitsOfShare 3 = .ok (.ifCond .gt 5, 3) := by decide +kernel
theorem dX6_bitsOfShare_6 : decode cX6_bitsOfShare 6 = .ok (.lconst 0, 1) := by decide +kernel
theorem dX6_bitsOfShare_7 : decode cX6_bitsOfShare 7 = .ok (.lreturn, 1) := by decide +kernel
theorem dX6_bitsOfShare_8 : decode cX6_bitsOfShare 8 = .ok (.dload_n 0, 1) := by decide +kernel
theorem dX6_bitsOfShare_9 : decode cX6_bitsOfShare 9 = .ok (.dstore_n 2, 1) := by decide +kernel
theorem dX6_bitsOfShare_10 : decode cX6_bitsOfShare 10 = .ok (.ldc2_w 319, 3) := by decide +kernel
theorem dX6_bitsOfShare_13 : decode cX6_bitsOfShare 13 = .ok (.lstore 4, 2) := by decide +kernel
theorem dX6_bitsOfShare_15 : decode cX6_bitsOfShare 15 = .ok (.iconst 0, 1) := by decide +kernel
theorem dX6_bitsOfShare_16 : decode cX6_bitsOfShare 16 = .ok (.istore 6, 2) := by decide +kernel
theorem dX6_bitsOfShare_18 : decode cX6_bitsOfShare 18 = .ok (.iload 6, 2) := by decide +kernel
theorem dX6_bitsOfShare_20 : decode cX6_bitsOfShare 20 = .ok (.bipush 64, 2) := by decide +kernel
theorem dX6_bitsOfShare_22 : decode cX6_bitsOfShare 22 = .ok (.if_icmp .ge 27, 3) := by decide +kernel
theorem dX6_bitsOfShare_25 : decode cX6_bitsOfShare 25 = .ok (.dload_n 2, 1) := by decide +kernel
theorem dX6_bitsOfShare_26 : decode cX6_bitsOfShare 26 = .ok (.dconst 1, 1) := by decide +kernel
theorem dX6_bitsOfShare_27 : decode cX6_bitsOfShare 27 = .ok (.dcmp .g, 1) := by decide +kernel
theorem dX6_bitsOfShare_28 : decode cX6_bitsOfShare 28 = .ok (.ifCond .ge 21, 3) := by decide +kernel
theorem dX6_bitsOfShare_31 : decode cX6_bitsOfShare 31 = .ok (.dload_n 2, 1) := by decide +kernel
theorem dX6_bitsOfShare_32 : decode cX6_bitsOfShare 32 = .ok (.ldc2_w 321, 3) := by decide +kernel
theorem dX6_bitsOfShare_35 : decode cX6_bitsOfShare 35 = .ok (.dmul, 1) := by decide +kernel
theorem dX6_bitsOfShare_36 : decode cX6_bitsOfShare 36 = .ok (.dstore_n 2, 1) := by decide +kernel
theorem dX6_bitsOfShare_37 : decode cX6_bitsOfShare 37 = .ok (.lload 4, 2) := by decide +kernel
theorem dX6_bitsOfShare_39 : decode cX6_bitsOfShare 39 = .ok (.lconst 1, 1) := by decide +kernel
theorem dX6_bitsOfShare_40 : decode cX6_bitsOfShare 40 = .ok (.lsub, 1) := by decide +kernel
theorem dX6_bitsOfShare_41 : decode cX6_bitsOfShare 41 = .ok (.lstore 4, 2) := by decide +kernel
theorem dX6_bitsOfShare_43 : decode cX6_bitsOfShare 43 = .ok (.iinc 6 1, 3) := by decide +kernel
theorem dX6_bitsOfShare_46 : decode cX6_bitsOfShare 46 = .ok (.goto (-28), 3) := by decide +kernel
theorem dX6_bitsOfShare_49 : decode cX6_bitsOfShare 49 = .ok (.lload 4, 2) := by decide +kernel
theorem dX6_bitsOfShare_51 : decode cX6_bitsOfShare 51 = .ok (.bipush 52, 2) := by decide +kernel
theorem dX6_bitsOfShare_53 : decode cX6_bitsOfShare 53 = .ok (.lshl, 1) := by decide +kernel
theorem dX6_bitsOfShare_54 : decode cX6_bitsOfShare 54 = .ok (.dload_n 2, 1) := by decide +kernel
theorem dX6_bitsOfShare_55 : decode cX6_bitsOfShare 55 = .ok (.dconst 1, 1) := by decide +kernel
theorem dX6_bitsOfShare_56 : decode cX6_bitsOfShare 56 = .ok (.dsub, 1) := by decide +kernel
theorem dX6_bitsOfShare_57 : decode cX6_bitsOfShare 57 = .ok (.ldc2_w 323, 3) := by decide +kernel
theorem dX6_bitsOfShare_60 : decode cX6_bitsOfShare 60 = .ok (.dmul, 1) := by decide +kernel
theorem dX6_bitsOfShare_61 : decode cX6_bitsOfShare 61 = .ok (.d2l, 1) := by decide +kernel
theorem dX6_bitsOfShare_62 : decode cX6_bitsOfShare 62 = .ok (.ladd, 1) := by decide +kernel
theorem dX6_bitsOfShare_63 : decode cX6_bitsOfShare 63 = .ok (.lreturn, 1) := by decide +kernel
