theorem dX4_init_0 : decode cX4_init 0 = .ok (.aload_n 0, 1) := by decide +kernel
theorem dX4_init_1 : decode cX4_init 1 = .ok (.invokespecial 1, 3) := by decide +kernel
theorem dX4_init_4 : decode cX4_init 4 = .ok (.aload_n 0, 1) := by decide +kernel
theorem dX4_init_5 : decode cX4_init 5 = .ok (.bipush 6, 2) := by decide +kernel
theorem dX4_init_7 : decode cX4_init 7 = .ok (.anewarray 9, 3) := by decide +kernel
theorem dX4_init_10 : decode cX4_init 10 = .ok (.putfield 11, 3) := by decide +kernel
theorem dX4_init_13 : decode cX4_init 13 = .ok (.aload_n 0, 1) := by decide +kernel
theorem dX4_init_14 : decode cX4_init 14 = .ok (.new 15, 3) := by decide +kernel
theorem dX4_init_17 : decode cX4_init 17 = .ok (.dup, 1) := by decide +kernel
theorem dX4_init_18 : decode cX4_init 18 = .ok (.invokespecial 17, 3) := by decide +kernel
theorem dX4_init_21 : decode cX4_init 21 = .ok (.putfield 18, 3) := by decide +kernel
theorem dX4_init_24 : decode cX4_init 24 = .ok (.aload_n 0, 1) := by decide +kernel
theorem dX4_init_25 : decode cX4_init 25 = .ok (.bipush 8, 2) := by decide +kernel
theorem dX4_init_27 : decode cX4_init 27 = .ok (.newarray .int, 2) := by decide +kernel
theorem dX4_init_29 : decode cX4_init 29 = .ok (.putfield 22, 3) := by decide +kernel
theorem dX4_init_32 : decode cX4_init 32 = .ok (.iconst 0, 1) := by decide +kernel
theorem dX4_init_33 : decode cX4_init 33 = .ok (.istore_n 1, 1) := by decide +kernel
theorem dX4_init_34 : decode cX4_init 34 = .ok (.iload_n 1, 1) := by decide +kernel
theorem dX4_init_35 : decode cX4_init 35 = .ok (.bipush 6, 2) := by decide +kernel
theorem dX4_init_37 : decode cX4_init 37 = .ok (.if_icmp .ge 23, 3) := by decide +kernel
theorem dX4_init_40 : decode cX4_init 40 = .ok (.aload_n 0, 1) := by decide +kernel
theorem dX4_init_41 : decode cX4_init 41 = .ok (.getfield 11, 3) := by decide +kernel
theorem dX4_init_44 : decode cX4_init 44 = .ok (.iload_n 1, 1) := by decide +kernel
theorem dX4_init_45 : decode cX4_init 45 = .ok (.new 9, 3) := by decide +kernel
theorem dX4_init_48 : decode cX4_init 48 = .ok (.dup, 1) := by decide +kernel
theorem dX4_init_49 : decode cX4_init 49 = .ok (.iload_n 1, 1) := by decide +kernel
theorem dX4_init_50 : decode cX4_init 50 = .ok (.invokespecial 26, 3) := by decide +kernel
theorem dX4_init_53 : decode cX4_init 53 = .ok (.aastore, 1) := by decide +kernel
theorem dX4_init_54 : decode cX4_init 54 = .ok (.iinc 1 1, 3) := by decide +kernel
theorem dX4_init_57 : decode cX4_init 57 = .ok (.goto (-23), 3) := by decide +kernel
theorem dX4_init_60 : decode cX4_init 60 = .ok (.aload_n 0, 1) := by decide +kernel
theorem dX4_init_61 : decode cX4_init 61 = .ok (.iconst 4, 1) := by decide +kernel
theorem dX4_init_62 : decode cX4_init 62 = .ok (.invokevirtual 29, 3) := by decide +kernel
theorem dX4_init_65 : decode cX4_init 65 = .ok (.return_, 1) := by decide +kernel
set_option maxRecDepth 20000 in
theorem ggX4_begin_X4_startAnew : GoodIn wsX4_begin wsX4_startAnew := goodIn_r _ [5, 6, 7, 8, 9, 10, 11, 12, 13, 14, 15, 16, 17, 18, 19, 20, 21, 22, 23, 24, 25, 26, 27, 28, 29, 30, 31, 32, 33, 34, 35, 36, 37, 38, 39, 40, 41, 42, 43, 44, 45, 46, 47, 48, 49, 50, 51, 52, 53, 54, 55, 56, 57, 58, 59, 60, 61, 62, 63, 64, 65, 66, 67, 68, 69, 70, 71, 72, 73, 74, 75, 76, 77, 78, 79, 80, 81, 82, 83] (by decide +kernel) (by decide +kernel)
set_option maxRecDepth 20000 in
theorem gX4_begin_X4_startAnew : GoodIn wsX4_begin (wsV RX4 29 RX4 yX4_startAnew wsX4_startAnew) := goodIn_app (goodIn_of _ (by decide +kernel)) ggX4_begin_X4_startAnew
theorem dX4_begin_0 : decode cX4_begin 0 = .ok (.iload_n 1, 1) := by decide +kernel
theorem dX4_begin_1 : decode cX4_begin 1 = .ok (.iconst 2, 1) := by decide +kernel
theorem dX4_begin_2 : decode cX4_begin 2 = .ok (.if_icmp .lt 9, 3) := by decide +kernel
theorem dX4_begin_5 : decode cX4_begin 5 = .ok (.iload_n 1, 1) := by decide +kernel
theorem dX4_begin_6 : decode cX4_begin 6 = .ok (.bipush 6, 2) := by decide +kernel
theorem dX4_begin_8 : decode cX4_begin 8 = .ok (.if_icmp .le 5, 3) := by decide +kernel
theorem dX4_begin_11 : decode cX4_begin 11 = .ok (.iconst 0, 1) := by decide +kernel
theorem dX4_begin_12 : decode cX4_begin 12 = .ok (.ireturn, 1) := by decide +kernel
theorem dX4_begin_13 : decode cX4_begin 13 = .ok (.aload_n 0, 1) := by decide +kernel
theorem dX4_begin_14 : decode cX4_begin 14 = .ok (.iload_n 1, 1) := by decide +kernel
theorem dX4_begin_15 : decode cX4_begin 15 = .ok (.invokevirtual 29, 3) := by decide +kernel
theorem dX4_begin_18 : decode cX4_begin 18 = .ok (.iconst 1, 1) := by decide +kernel
theorem dX4_begin_19 : decode cX4_begin 19 = .ok (.ireturn, 1) := by decide +kernel
set_option maxRecDepth 20000 in
theorem ggX4_read_X4_mayStart : GoodIn wsX4_read wsX4_mayStart := goodIn_r _ [8, 1, 2, 9, 10, 11, 12, 7, 13, 14, 15, 16, 17, 18, 19, 20, 86, 87, 88, 89, 90, 91, 92, 93, 94, 95, 96, 97, 98, 99, 100, 101, 102, 103, 104, 105, 106, 107, 108, 109] (by decide +kernel) (by decide +kernel)
set_option maxRecDepth 20000 in
theorem gX4_read_X4_mayStart : GoodIn wsX4_read (wsV RX4 32 RX4 yX4_mayStart wsX4_mayStart) := goodIn_app (goodIn_of _ (by decide +kernel)) ggX4_read_X4_mayStart
set_option maxRecDepth 20000 in
theorem ggX4_read_X0_take : GoodIn wsX4_read wsX0_take := goodIn_r _ [25, 26, 27, 28, 29, 30, 31, 32, 100, 101, 102, 103, 104, 105, 106, 107, 108, 109] (by decide +kernel) (by decide +kernel)
set_option maxRecDepth 20000 in
theorem gX4_read_X0_take : GoodIn wsX4_read (wsV RX4 40 RX0 yX0_take wsX0_take) := goodIn_app (goodIn_of _ (by decide +kernel)) ggX4_read_X0_take
set_option maxRecDepth 20000 in
theorem ggX4_read_X4_ask : GoodIn wsX4_read wsX4_ask := goodIn_r _ [36, 2, 37, 9, 38, 39, 40, 41, 42, 43, 7, 44, 45, 46, 47, 48, 49, 50, 51, 52, 53, 54, 55, 56, 57, 58, 59, 60, 61, 62, 63, 90, 91, 92, 93, 94, 95, 96, 97, 98, 99, 100, 101, 102, 103, 104, 105, 106, 107, 108, 109, 110, 111, 112, 113, 114, 115, 116, 86, 87, 88, 89, 117, 118] (by decide +kernel) (by decide +kernel)
set_option maxRecDepth 20000 in
theorem gX4_read_X4_ask : GoodIn wsX4_read (wsV RX4 49 RX4 yX4_ask wsX4_ask) := goodIn_app (goodIn_of _ (by decide +kernel)) ggX4_read_X4_ask
set_option maxRecDepth 20000 in
theorem ggX4_read_X4_finish : GoodIn wsX4_read wsX4_finish := goodIn_r _ [67, 45, 68, 69, 70, 71, 72, 73, 74, 75, 76, 77, 78, 79, 80, 81, 86, 87, 88, 89, 90, 91, 92, 93, 94, 95, 96, 97, 98, 99, 100, 101, 102, 103, 104, 105, 106, 107, 108, 109] (by decide +kernel) (by decide +kernel)
set_option maxRecDepth 20000 in
theorem gX4_read_X4_finish : GoodIn wsX4_read (wsV RX4 53 RX4 yX4_finish wsX4_finish) := goodIn_app (goodIn_of _ (by decide +kernel)) ggX4_read_X4_finish
set_option maxRecDepth 20000 in
theorem ggX4_read_X4_doneAtOnce : GoodIn wsX4_read wsX4_doneAtOnce := goodIn_r _ [85, 2, 9, 45, 90, 91, 92, 93, 94, 95, 96, 97, 98, 99, 100, 101, 102, 103, 104, 105, 106, 107, 108, 109, 86, 87, 88, 89] (by decide +kernel) (by decide +kernel)
set_option maxRecDepth 20000 in
theorem gX4_read_X4_doneAtOnce : GoodIn wsX4_read (wsV RX4 57 RX4 yX4_doneAtOnce wsX4_doneAtOnce) := goodIn_app (goodIn_of _ (by decide +kernel)) ggX4_read_X4_doneAtOnce
theorem dX4_read_0 : decode cX4_read 0 = .ok (.aload_n 0, 1) := by decide +kernel
theorem dX4_read_1 : decode cX4_read 1 = .ok (.iload_n 1, 1) := by decide +kernel
theorem dX4_read_2 : decode cX4_read 2 = .ok (.iload_n 2, 1) := by decide +kernel
theorem dX4_read_3 : decode cX4_read 3 = .ok (.iload_n 3, 1) := by decide +kernel
theorem dX4_read_4 : decode cX4_read 4 = .ok (.invokevirtual 32, 3) := by decide +kernel
theorem dX4_read_7 : decode cX4_read 7 = .ok (.ifCond .ne 5, 3) := by decide +kernel
theorem dX4_read_10 : decode cX4_read 10 = .ok (.iconst (-1), 1) := by decide +kernel
theorem dX4_read_11 : decode cX4_read 11 = .ok (.ireturn, 1) := by decide +kernel
theorem dX4_read_12 : decode cX4_read 12 = .ok (.aload_n 0, 1) := by decide +kernel
theorem dX4_read_13 : decode cX4_read 13 = .ok (.getfield 11, 3) := by decide +kernel
theorem dX4_read_16 : decode cX4_read 16 = .ok (.iload_n 1, 1) := by decide +kernel
theorem dX4_read_17 : decode cX4_read 17 = .ok (.aaload, 1) := by decide +kernel
theorem dX4_read_18 : decode cX4_read 18 = .ok (.astore 4, 2) := by decide +kernel
theorem dX4_read_20 : decode cX4_read 20 = .ok (.aload 4, 2) := by decide +kernel
theorem dX4_read_22 : decode cX4_read 22 = .ok (.getfield 36, 3) := by decide +kernel
theorem dX4_read_25 : decode cX4_read 25 = .ok (.iload_n 2, 1) := by decide +kernel
theorem dX4_read_26 : decode cX4_read 26 = .ok (.iload_n 3, 1) := by decide +kernel
theorem dX4_read_27 : decode cX4_read 27 = .ok (.iconst 0, 1) := by decide +kernel
theorem dX4_read_28 : decode cX4_read 28 = .ok (.lconst 0, 1) := by decide +kernel
theorem dX4_read_29 : decode cX4_read 29 = .ok (.invokevirtual 40, 3) := by decide +kernel
theorem dX4_read_32 : decode cX4_read 32 = .ok (.aload 4, 2) := by decide +kernel
theorem dX4_read_34 : decode cX4_read 34 = .ok (.getfield 46, 3) := by decide +kernel
theorem dX4_read_37 : decode cX4_read 37 = .ok (.iload_n 2, 1) := by decide +kernel
theorem dX4_read_38 : decode cX4_read 38 = .ok (.iaload, 1) := by decide +kernel
theorem dX4_read_39 : decode cX4_read 39 = .ok (.ifCond .ne 14, 3) := by decide +kernel
theorem dX4_read_42 : decode cX4_read 42 = .ok (.aload_n 0, 1) := by decide +kernel
theorem dX4_read_43 : decode cX4_read 43 = .ok (.aload 4, 2) := by decide +kernel
theorem dX4_read_45 : decode cX4_read 45 = .ok (.iconst 1, 1) := by decide +kernel
theorem dX4_read_46 : decode cX4_read 46 = .ok (.iconst 1, 1) := by decide +kernel
theorem dX4_read_47 : decode cX4_read 47 = .ok (.invokevirtual 49, 3) := by decide +kernel
theorem dX4_read_50 : decode cX4_read 50 = .ok (.goto 9, 3) := by decide +kernel
theorem dX4_read_53 : decode cX4_read 53 = .ok (.aload_n 0, 1) := by decide +kernel
theorem dX4_read_54 : decode cX4_read 54 = .ok (.aload 4, 2) := by decide +kernel
theorem dX4_read_56 : decode cX4_read 56 = .ok (.invokevirtual 53, 3) := by decide +kernel
theorem dX4_read_59 : decode cX4_read 59 = .ok (.aload_n 0, 1) := by decide +kernel
theorem dX4_read_60 : decode cX4_read 60 = .ok (.aload 4, 2) := by decide +kernel
theorem dX4_read_62 : decode cX4_read 62 = .ok (.invokevirtual 57, 3) := by decide +kernel
theorem dX4_read_65 : decode cX4_read 65 = .ok (.ireturn, 1) := by decide +kernel
set_option maxRecDepth 20000 in
theorem ggX4_write_X4_mayStart : GoodIn wsX4_write wsX4_mayStart := goodIn_r _ [9, 1, 2, 10, 11, 12, 13, 8, 14, 15, 16, 17, 18, 19, 20, 21, 139, 140, 141, 142, 143, 144, 145, 146, 147, 148, 149, 150, 151, 152, 153, 154, 155, 156, 157, 158, 159, 160, 161, 162] (by decide +kernel) (by decide +kernel)
set_option maxRecDepth 20000 in
theorem gX4_write_X4_mayStart : GoodIn wsX4_write (wsV RX4 32 RX4 yX4_mayStart wsX4_mayStart) := goodIn_app (goodIn_of _ (by decide +kernel)) ggX4_write_X4_mayStart
set_option maxRecDepth 20000 in
theorem ggX4_write_X0_take : GoodIn wsX4_write wsX0_take := goodIn_r _ [26, 27, 28, 29, 30, 31, 32, 33, 153, 154, 155, 156, 157, 158, 159, 160, 161, 162] (by decide +kernel) (by decide +kernel)
set_option maxRecDepth 20000 in
theorem gX4_write_X0_take : GoodIn wsX4_write (wsV RX4 40 RX0 yX0_take wsX0_take) := goodIn_app (goodIn_of _ (by decide +kernel)) ggX4_write_X0_take
set_option maxRecDepth 20000 in
theorem ggX4_write_X4_finish : GoodIn wsX4_write wsX4_finish := goodIn_r _ [37, 38, 39, 40, 41, 42, 43, 44, 45, 46, 47, 48, 49, 50, 51, 52, 139, 140, 141, 142, 143, 144, 145, 146, 147, 148, 149, 150, 151, 152, 153, 154, 155, 156, 157, 158, 159, 160, 161, 162] (by decide +kernel) (by decide +kernel)
set_option maxRecDepth 20000 in
theorem gX4_write_X4_finish : GoodIn wsX4_write (wsV RX4 53 RX4 yX4_finish wsX4_finish) := goodIn_app (goodIn_of _ (by decide +kernel)) ggX4_write_X4_finish
set_option maxRecDepth 20000 in
theorem ggX4_write_X4_callBack : GoodIn wsX4_write wsX4_callBack := goodIn_r _ [56, 2, 57, 58, 10, 15, 59, 38, 60, 61, 62, 63, 8, 64, 65, 66, 67, 68, 69, 70, 71, 72, 73, 74, 75, 76, 77, 78, 79, 80, 81, 82, 143, 144, 145, 146, 147, 148, 149, 150, 151, 152, 153, 154, 155, 156, 157, 158, 159, 160, 161, 162, 139, 140, 141, 142, 163, 164, 165, 166, 167, 168, 169, 170, 171] (by decide +kernel) (by decide +kernel)
set_option maxRecDepth 20000 in
theorem gX4_write_X4_callBack : GoodIn wsX4_write (wsV RX4 65 RX4 yX4_callBack wsX4_callBack) := goodIn_app (goodIn_of _ (by decide +kernel)) ggX4_write_X4_callBack
set_option maxRecDepth 20000 in
theorem ggX4_write_X4_finishIfAllAnswered : GoodIn wsX4_write wsX4_finishIfAllAnswered := goodIn_r _ [86, 2, 10, 60, 57, 3, 34, 35, 36, 8, 37, 38, 39, 40, 41, 42, 43, 44, 45, 46, 47, 48, 49, 50, 51, 52, 87, 88, 89, 90, 91, 92, 93, 94, 95, 96, 97, 4, 98, 99, 100, 25, 101, 102, 28, 103, 104, 105, 106, 107, 108, 109, 110, 111, 112, 113, 59, 114, 115, 61, 62, 63, 64, 65, 66, 67, 68, 69, 70, 71, 72, 73, 74, 75, 76, 77, 78, 79, 80, 81, 82, 116, 117, 118, 119, 58, 120, 121, 122, 123, 124, 125, 126, 127, 128, 129, 130, 143, 144, 145, 146, 147, 148, 149, 150, 151, 152, 153, 154, 155, 156, 157, 158, 159, 160, 161, 162, 139, 140, 141, 142, 165, 166, 167, 168, 169, 170, 171, 163, 164] (by decide +kernel) (by decide +kernel)
set_option maxRecDepth 20000 in
theorem gX4_write_X4_finishIfAllAnswered : GoodIn wsX4_write (wsV RX4 68 RX4 yX4_finishIfAllAnswered wsX4_finishIfAllAnswered) := goodIn_app (goodIn_of _ (by decide +kernel)) ggX4_write_X4_finishIfAllAnswered
set_option maxRecDepth 20000 in
theorem ggX4_write_X4_ask : GoodIn wsX4_write wsX4_ask := goodIn_r _ [134, 2, 57, 10, 59, 114, 115, 61, 62, 63, 8, 64, 38, 65, 66, 67, 68, 69, 70, 71, 72, 73, 74, 75, 76, 77, 78, 79, 80, 81, 82, 143, 144, 145, 146, 147, 148, 149, 150, 151, 152, 153, 154, 155, 156, 157, 158, 159, 160, 161, 162, 165, 166, 167, 168, 169, 170, 171, 139, 140, 141, 142, 163, 164] (by decide +kernel) (by decide +kernel)
set_option maxRecDepth 20000 in
theorem gX4_write_X4_ask : GoodIn wsX4_write (wsV RX4 49 RX4 yX4_ask wsX4_ask) := goodIn_app (goodIn_of _ (by decide +kernel)) ggX4_write_X4_ask
set_option maxRecDepth 20000 in
theorem ggX4_write_X4_doneAtOnce : GoodIn wsX4_write wsX4_doneAtOnce := goodIn_r _ [138, 2, 10, 38, 143, 144, 145, 146, 147, 148, 149, 150, 151, 152, 153, 154, 155, 156, 157, 158, 159, 160, 161, 162, 139, 140, 141, 142] (by decide +kernel) (by decide +kernel)
set_option maxRecDepth 20000 in
theorem gX4_write_X4_doneAtOnce : GoodIn wsX4_write (wsV RX4 57 RX4 yX4_doneAtOnce wsX4_doneAtOnce) := goodIn_app (goodIn_of _ (by decide +kernel)) ggX4_write_X4_doneAtOnce
theorem dX4_write_0 : decode cX4_write 0 = .ok (.aload_n 0, 1) := by decide +kernel
theorem dX4_write_1 : decode cX4_write 1 = .ok (.iload_n 1, 1) := by decide +kernel
theorem dX4_write_2 : decode cX4_write 2 = .ok (.iload_n 2, 1) := by decide +kernel
theorem dX4_write_3 : decode cX4_write 3 = .ok (.iload_n 3, 1) := by decide +kernel
theorem dX4_write_4 : decode cX4_write 4 = .ok (.invokevirtual 32, 3) := by decide +kernel
theorem dX4_write_7 : decode cX4_write 7 = .ok (.ifCond .ne 5, 3) := by decide +kernel
theorem dX4_write_10 : decode cX4_write 10 = .ok (.iconst (-1), 1) := by decide +kernel
theorem dX4_write_11 : decode cX4_write 11 = .ok (.ireturn, 1) := by decide +kernel
theorem dX4_write_12 : decode cX4_write 12 = .ok (.aload_n 0, 1) := by decide +kernel
theorem dX4_write_13 : decode cX4_write 13 = .ok (.getfield 11, 3) := by decide +kernel
theorem dX4_write_16 : decode cX4_write 16 = .ok (.iload_n 1, 1) := by decide +kernel
theorem dX4_write_17 : decode cX4_write 17 = .ok (.aaload, 1) := by decide +kernel
theorem dX4_write_18 : decode cX4_write 18 = .ok (.astore 6, 2) := by decide +kernel
theorem dX4_write_20 : decode cX4_write 20 = .ok (.aload 6, 2) := by decide +kernel
theorem dX4_write_22 : decode cX4_write 22 = .ok (.getfield 36, 3) := by decide +kernel
theorem dX4_write_25 : decode cX4_write 25 = .ok (.iload_n 2, 1) := by decide +kernel
theorem dX4_write_26 : decode cX4_write 26 = .ok (.iload_n 3, 1) := by decide +kernel
theorem dX4_write_27 : decode cX4_write 27 = .ok (.iconst 1, 1) := by decide +kernel
theorem dX4_write_28 : decode cX4_write 28 = .ok (.lload 4, 2) := by decide +kernel
theorem dX4_write_30 : decode cX4_write 30 = .ok (.invokevirtual 40, 3) := by decide +kernel
theorem dX4_write_33 : decode cX4_write 33 = .ok (.aload 6, 2) := by decide +kernel
theorem dX4_write_35 : decode cX4_write 35 = .ok (.getfield 46, 3) := by decide +kernel
theorem dX4_write_38 : decode cX4_write 38 = .ok (.iload_n 2, 1) := by decide +kernel
theorem dX4_write_39 : decode cX4_write 39 = .ok (.iaload, 1) := by decide +kernel
theorem dX4_write_40 : decode cX4_write 40 = .ok (.iconst 2, 1) := by decide +kernel
theorem dX4_write_41 : decode cX4_write 41 = .ok (.if_icmp .ne 12, 3) := by decide +kernel
theorem dX4_write_44 : decode cX4_write 44 = .ok (.aload_n 0, 1) := by decide +kernel
theorem dX4_write_45 : decode cX4_write 45 = .ok (.aload 6, 2) := by decide +kernel
theorem dX4_write_47 : decode cX4_write 47 = .ok (.invokevirtual 53, 3) := by decide +kernel
theorem dX4_write_50 : decode cX4_write 50 = .ok (.goto 36, 3) := by decide +kernel
theorem dX4_write_53 : decode cX4_write 53 = .ok (.aload 6, 2) := by decide +kernel
theorem dX4_write_55 : decode cX4_write 55 = .ok (.getfield 61, 3) := by decide +kernel
theorem dX4_write_58 : decode cX4_write 58 = .ok (.iload_n 2, 1) := by decide +kernel
theorem dX4_write_59 : decode cX4_write 59 = .ok (.baload, 1) := by decide +kernel
theorem dX4_write_60 : decode cX4_write 60 = .ok (.ifCond .eq 18, 3) := by decide +kernel
theorem dX4_write_63 : decode cX4_write 63 = .ok (.aload_n 0, 1) := by decide +kernel
theorem dX4_write_64 : decode cX4_write 64 = .ok (.aload 6, 2) := by decide +kernel
theorem dX4_write_66 : decode cX4_write 66 = .ok (.invokevirtual 65, 3) := by decide +kernel
theorem dX4_write_69 : decode cX4_write 69 = .ok (.aload_n 0, 1) := by decide +kernel
theorem dX4_write_70 : decode cX4_write 70 = .ok (.aload 6, 2) := by decide +kernel
theorem dX4_write_72 : decode cX4_write 72 = .ok (.invokevirtual 68, 3) := by decide +kernel
theorem dX4_write_75 : decode cX4_write 75 = .ok (.goto 11, 3) := by decide +kernel
theorem dX4_write_78 : decode cX4_write 78 = .ok (.aload_n 0, 1) := by decide +kernel
theorem dX4_write_79 : decode cX4_write 79 = .ok (.aload 6, 2) := by decide +kernel
theorem dX4_write_81 : decode cX4_write 81 = .ok (.iconst 2, 1) := by decide +kernel
theorem dX4_write_82 : decode cX4_write 82 = .ok (.iconst 2, 1) := by decide +kernel
theorem dX4_write_83 : decode cX4_write 83 = .ok (.invokevirtual 49, 3) := by decide +kernel
theorem dX4_write_86 : decode cX4_write 86 = .ok (.aload_n 0, 1) := by decide +kernel
theorem dX4_write_87 : decode cX4_write 87 = .ok (.aload 6, 2) := by decide +kernel
theorem dX4_write_89 : decode cX4_write 89 = .ok (.invokevirtual 57, 3) := by decide +kernel
theorem dX4_write_92 : decode cX4_write 92 = .ok (.ireturn, 1) := by decide +kernel
set_option maxRecDepth 20000 in
theorem ggX4_deliver_X2_has : GoodIn wsX4_deliver wsX2_has := goodIn_r _ [14, 15, 163, 164] (by decide +kernel) (by decide +kernel)
set_option maxRecDepth 20000 in
theorem gX4_deliver_X2_has : GoodIn wsX4_deliver (wsV RX4 71 RX2 yX2_has wsX2_has) := goodIn_app (goodIn_of _ (by decide +kernel)) ggX4_deliver_X2_has
set_option maxRecDepth 20000 in
theorem ggX4_deliver_X2_takeOut : GoodIn wsX4_deliver wsX2_takeOut := goodIn_r _ [19, 20, 15, 163, 164] (by decide +kernel) (by decide +kernel)
set_option maxRecDepth 20000 in
theorem gX4_deliver_X2_takeOut : GoodIn wsX4_deliver (wsV RX4 75 RX2 yX2_takeOut wsX2_takeOut) := goodIn_app (goodIn_of _ (by decide +kernel)) ggX4_deliver_X2_takeOut
set_option maxRecDepth 20000 in
theorem ggX4_deliver_X4_askingComes : GoodIn wsX4_deliver wsX4_askingComes := goodIn_r _ [25, 8, 26, 27, 28, 29, 30, 31, 32, 33, 34, 35, 36, 37, 38, 39, 40, 41, 42, 43, 44, 24, 45, 46, 47, 6, 48, 49, 50, 51, 52, 1, 53, 54, 55, 13, 56, 15, 57, 58, 59, 60, 20, 61, 62, 63, 64, 65, 66, 67, 68, 69, 70, 71, 72, 73, 74, 75, 76, 77, 78, 79, 80, 81, 82, 83, 143, 144, 145, 146, 147, 148, 149, 150, 151, 152, 153, 154, 155, 156, 157, 158, 159, 160, 161, 162, 136, 137, 138, 139, 140, 141, 142, 132, 133, 134, 135, 163, 164] (by decide +kernel) (by decide +kernel)
set_option maxRecDepth 20000 in
theorem gX4_deliver_X4_askingComes : GoodIn wsX4_deliver (wsV RX4 94 RX4 yX4_askingComes wsX4_askingComes) := goodIn_app (goodIn_of _ (by decide +kernel)) ggX4_deliver_X4_askingComes
set_option maxRecDepth 20000 in
theorem ggX4_deliver_X4_givenToRead : GoodIn wsX4_deliver wsX4_givenToRead := goodIn_r _ [87, 5, 74, 73, 75, 76, 77, 78, 47, 7, 72, 8, 88, 89, 90, 91, 24, 92, 48, 93, 94, 95, 37, 96, 97, 98, 99, 100, 101, 102, 103, 104, 105, 136, 137, 138, 139, 140, 141, 142, 143, 144, 145, 146, 147, 148, 149, 150, 151, 152, 153, 154, 155, 156, 157, 158, 159, 160, 161, 162, 132, 133, 134, 135] (by decide +kernel) (by decide +kernel)
set_option maxRecDepth 20000 in
theorem gX4_deliver_X4_givenToRead : GoodIn wsX4_deliver (wsV RX4 98 RX4 yX4_givenToRead wsX4_givenToRead) := goodIn_app (goodIn_of _ (by decide +kernel)) ggX4_deliver_X4_givenToRead
set_option maxRecDepth 20000 in
theorem ggX4_deliver_X4_givenToWrite : GoodIn wsX4_deliver wsX4_givenToWrite := goodIn_r _ [109, 5, 74, 73, 75, 76, 77, 78, 71, 83, 46, 26, 47, 110, 111, 112, 24, 113, 8, 114, 115, 116, 48, 9, 49, 50, 51, 52, 1, 53, 54, 55, 13, 56, 15, 57, 58, 59, 60, 20, 61, 62, 63, 64, 65, 66, 136, 137, 138, 139, 140, 141, 142, 143, 144, 145, 146, 147, 148, 149, 150, 151, 152, 153, 154, 155, 156, 157, 158, 159, 160, 161, 162, 132, 133, 134, 135, 163, 164] (by decide +kernel) (by decide +kernel)
set_option maxRecDepth 20000 in
theorem gX4_deliver_X4_givenToWrite : GoodIn wsX4_deliver (wsV RX4 102 RX4 yX4_givenToWrite wsX4_givenToWrite) := goodIn_app (goodIn_of _ (by decide +kernel)) ggX4_deliver_X4_givenToWrite
set_option maxRecDepth 20000 in
theorem ggX4_deliver_X4_finishIfAllAnswered : GoodIn wsX4_deliver wsX4_finishIfAllAnswered := goodIn_r _ [120, 8, 115, 9, 114, 72, 89, 90, 91, 24, 92, 48, 93, 94, 95, 37, 96, 97, 98, 99, 100, 101, 102, 103, 104, 105, 121, 122, 123, 124, 125, 126, 127, 21, 22, 23, 25, 26, 27, 28, 29, 30, 31, 32, 33, 34, 35, 36, 38, 39, 40, 41, 42, 43, 44, 45, 46, 47, 6, 49, 50, 51, 52, 1, 53, 54, 55, 13, 56, 15, 57, 58, 59, 60, 20, 61, 62, 63, 64, 65, 66, 67, 68, 69, 70, 71, 73, 74, 75, 76, 77, 78, 79, 80, 81, 82, 83, 143, 144, 145, 146, 147, 148, 149, 150, 151, 152, 153, 154, 155, 156, 157, 158, 159, 160, 161, 162, 132, 133, 134, 135, 136, 137, 138, 139, 140, 141, 142, 163, 164] (by decide +kernel) (by decide +kernel)
set_option maxRecDepth 20000 in
theorem gX4_deliver_X4_finishIfAllAnswered : GoodIn wsX4_deliver (wsV RX4 68 RX4 yX4_finishIfAllAnswered wsX4_finishIfAllAnswered) := goodIn_app (goodIn_of _ (by decide +kernel)) ggX4_deliver_X4_finishIfAllAnswered
set_option maxRecDepth 20000 in
theorem ggX4_deliver_X4_calledBack : GoodIn wsX4_deliver wsX4_calledBack := goodIn_r _ [131, 72, 47, 8, 88, 46, 27, 28, 29, 30, 31, 32, 33, 49, 50, 51, 24, 52, 48, 1, 53, 54, 55, 13, 56, 15, 57, 58, 59, 60, 20, 61, 62, 63, 64, 65, 66, 143, 144, 145, 146, 147, 148, 149, 150, 151, 152, 153, 154, 155, 156, 157, 158, 159, 160, 161, 162, 132, 133, 134, 135, 163, 164, 136, 137, 138, 139, 140, 141, 142] (by decide +kernel) (by decide +kernel)
set_option maxRecDepth 20000 in
theorem gX4_deliver_X4_calledBack : GoodIn wsX4_deliver (wsV RX4 108 RX4 yX4_calledBack wsX4_calledBack) := goodIn_app (goodIn_of _ (by decide +kernel)) ggX4_deliver_X4_calledBack
theorem dX4_deliver_0 : decode cX4_deliver 0 = .ok (.aload_n 0, 1) := by decide +kernel
theorem dX4_deliver_1 : decode cX4_deliver 1 = .ok (.getfield 18, 3) := by decide +kernel
theorem dX4_deliver_4 : decode cX4_deliver 4 = .ok (.iload_n 1, 1) := by decide +kernel
theorem dX4_deliver_5 : decode cX4_deliver 5 = .ok (.invokevirtual 71, 3) := by decide +kernel
theorem dX4_deliver_8 : decode cX4_deliver 8 = .ok (.ifCond .ne 5, 3) := by decide +kernel
theorem dX4_deliver_11 : decode cX4_deliver 11 = .ok (.iconst (-1), 1) := by decide +kernel
theorem dX4_deliver_12 : decode cX4_deliver 12 = .ok (.ireturn, 1) := by decide +kernel
theorem dX4_deliver_13 : decode cX4_deliver 13 = .ok (.aload_n 0, 1) := by decide +kernel
theorem dX4_deliver_14 : decode cX4_deliver 14 = .ok (.getfield 18, 3) := by decide +kernel
theorem dX4_deliver_17 : decode cX4_deliver 17 = .ok (.iload_n 1, 1) := by decide +kernel
theorem dX4_deliver_18 : decode cX4_deliver 18 = .ok (.invokevirtual 75, 3) := by decide +kernel
theorem dX4_deliver_21 : decode cX4_deliver 21 = .ok (.astore_n 2, 1) := by decide +kernel
theorem dX4_deliver_22 : decode cX4_deliver 22 = .ok (.aload_n 0, 1) := by decide +kernel
theorem dX4_deliver_23 : decode cX4_deliver 23 = .ok (.getfield 11, 3) := by decide +kernel
theorem dX4_deliver_26 : decode cX4_deliver 26 = .ok (.aload_n 2, 1) := by decide +kernel
theorem dX4_deliver_27 : decode cX4_deliver 27 = .ok (.getfield 79, 3) := by decide +kernel
theorem dX4_deliver_30 : decode cX4_deliver 30 = .ok (.aaload, 1) := by decide +kernel
theorem dX4_deliver_31 : decode cX4_deliver 31 = .ok (.astore_n 3, 1) := by decide +kernel
theorem dX4_deliver_32 : decode cX4_deliver 32 = .ok (.aload_n 2, 1) := by decide +kernel
theorem dX4_deliver_33 : decode cX4_deliver 33 = .ok (.getfield 85, 3) := by decide +kernel
theorem dX4_deliver_36 : decode cX4_deliver 36 = .ok (.tableswitch 95 1 5 #[36, 36, 56, 65, 79], 36) := by decide +kernel
theorem dX4_deliver_72 : decode cX4_deliver 72 = .ok (.aload_n 0, 1) := by decide +kernel
theorem dX4_deliver_73 : decode cX4_deliver 73 = .ok (.aload_n 3, 1) := by decide +kernel
theorem dX4_deliver_74 : decode cX4_deliver 74 = .ok (.aload_n 2, 1) := by decide +kernel
theorem dX4_deliver_75 : decode cX4_deliver 75 = .ok (.getfield 85, 3) := by decide +kernel
theorem dX4_deliver_78 : decode cX4_deliver 78 = .ok (.aload_n 2, 1) := by decide +kernel
theorem dX4_deliver_79 : decode cX4_deliver 79 = .ok (.getfield 88, 3) := by decide +kernel
theorem dX4_deliver_82 : decode cX4_deliver 82 = .ok (.aload_n 2, 1) := by decide +kernel
theorem dX4_deliver_83 : decode cX4_deliver 83 = .ok (.getfield 91, 3) := by decide +kernel
theorem dX4_deliver_86 : decode cX4_deliver 86 = .ok (.invokevirtual 94, 3) := by decide +kernel
theorem dX4_deliver_89 : decode cX4_deliver 89 = .ok (.goto 60, 3) := by decide +kernel
theorem dX4_deliver_92 : decode cX4_deliver 92 = .ok (.aload_n 0, 1) := by decide +kernel
theorem dX4_deliver_93 : decode cX4_deliver 93 = .ok (.aload_n 3, 1) := by decide +kernel
theorem dX4_deliver_94 : decode cX4_deliver 94 = .ok (.aload_n 2, 1) := by decide +kernel
theorem dX4_deliver_95 : decode cX4_deliver 95 = .ok (.invokevirtual 98, 3) := by decide +kernel
theorem dX4_deliver_98 : decode cX4_deliver 98 = .ok (.goto 51, 3) := by decide +kernel
theorem dX4_deliver_101 : decode cX4_deliver 101 = .ok (.aload_n 0, 1) := by decide +kernel
theorem dX4_deliver_102 : decode cX4_deliver 102 = .ok (.aload_n 3, 1) := by decide +kernel
theorem dX4_deliver_103 : decode cX4_deliver 103 = .ok (.aload_n 2, 1) := by decide +kernel
theorem dX4_deliver_104 : decode cX4_deliver 104 = .ok (.invokevirtual 102, 3) := by decide +kernel
theorem dX4_deliver_107 : decode cX4_deliver 107 = .ok (.aload_n 0, 1) := by decide +kernel
theorem dX4_deliver_108 : decode cX4_deliver 108 = .ok (.aload_n 3, 1) := by decide +kernel
theorem dX4_deliver_109 : decode cX4_deliver 109 = .ok (.invokevirtual 68, 3) := by decide +kernel
theorem dX4_deliver_112 : decode cX4_deliver 112 = .ok (.goto 37, 3) := by decide +kernel
theorem dX4_deliver_115 : decode cX4_deliver 115 = .ok (.aload_n 0, 1) := by decide +kernel
theorem dX4_deliver_116 : decode cX4_deliver 116 = .ok (.aload_n 3, 1) := by decide +kernel
theorem dX4_deliver_117 : decode cX4_deliver 117 = .ok (.aload_n 2, 1) := by decide +kernel
theorem dX4_deliver_118 : decode cX4_deliver 118 = .ok (.getfield 88, 3) := by decide +kernel
theorem dX4_deliver_121 : decode cX4_deliver 121 = .ok (.aload_n 2, 1) := by decide +kernel
theorem dX4_deliver_122 : decode cX4_deliver 122 = .ok (.getfield 105, 3) := by decide +kernel
theorem dX4_deliver_125 : decode cX4_deliver 125 = .ok (.invokevirtual 108, 3) := by decide +kernel
theorem dX4_deliver_128 : decode cX4_deliver 128 = .ok (.goto 21, 3) := by decide +kernel
theorem dX4_deliver_131 : decode cX4_deliver 131 = .ok (.aload_n 3, 1) := by decide +kernel
theorem dX4_deliver_132 : decode cX4_deliver 132 = .ok (.getfield 36, 3) := by decide +kernel
theorem dX4_deliver_135 : decode cX4_deliver 135 = .ok (.dup, 1) := by decide +kernel
theorem dX4_deliver_136 : decode cX4_deliver 136 = .ok (.getfield 111, 3) := by decide +kernel
theorem dX4_deliver_139 : decode cX4_deliver 139 = .ok (.iconst 1, 1) := by decide +kernel
theorem dX4_deliver_140 : decode cX4_deliver 140 = .ok (.isub, 1) := by decide +kernel
theorem dX4_deliver_141 : decode cX4_deliver 141 = .ok (.putfield 111, 3) := by decide +kernel
theorem dX4_deliver_144 : decode cX4_deliver 144 = .ok (.aload_n 0, 1) := by decide +kernel
theorem dX4_deliver_145 : decode cX4_deliver 145 = .ok (.aload_n 3, 1) := by decide +kernel
theorem dX4_deliver_146 : decode cX4_deliver 146 = .ok (.invokevirtual 68, 3) := by decide +kernel
theorem dX4_deliver_149 : decode cX4_deliver 149 = .ok (.aload_n 2, 1) := by decide +kernel
theorem dX4_deliver_150 : decode cX4_deliver 150 = .ok (.getfield 85, 3) := by decide +kernel
theorem dX4_deliver_153 : decode cX4_deliver 153 = .ok (.ireturn, 1) := by decide +kernel
set_option maxRecDepth 20000 in
theorem ggX4_waits_X4_isNode : GoodIn wsX4_waits wsX4_isNode := goodIn_r _ [8, 9, 10, 11, 12, 13] (by decide +kernel) (by decide +kernel)
set_option maxRecDepth 20000 in
theorem gX4_waits_X4_isNode : GoodIn wsX4_waits (wsV RX4 114 RX4 yX4_isNode wsX4_isNode) := goodIn_app (goodIn_of _ (by decide +kernel)) ggX4_waits_X4_isNode
theorem dX4_waits_0 : decode cX4_waits 0 = .ok (.aload_n 0, 1) := by decide +kernel
theorem dX4_waits_1 : decode cX4_waits 1 = .ok (.iload_n 1, 1) := by decide +kernel
theorem dX4_waits_2 : decode cX4_waits 2 = .ok (.invokevirtual 114, 3) := by decide +kernel
theorem dX4_waits_5 : decode cX4_waits 5 = .ok (.ifCond .eq 18, 3) := by decide +kernel
theorem dX4_waits_8 : decode cX4_waits 8 = .ok (.aload_n 0, 1) := by decide +kernel
theorem dX4_waits_9 : decode cX4_waits 9 = .ok (.getfield 11, 3) := by decide +kernel
theorem dX4_waits_12 : decode cX4_waits 12 = .ok (.iload_n 1, 1) := by decide +kernel
theorem dX4_waits_13 : decode cX4_waits 13 = .ok (.aaload, 1) := by decide +kernel
theorem dX4_waits_14 : decode cX4_waits 14 = .ok (.getfield 36, 3) := by decide +kernel
theorem dX4_waits_17 : decode cX4_waits 17 = .ok (.getfield 117, 3) := by decide +kernel
theorem dX4_waits_20 : decode cX4_waits 20 = .ok (.goto 4, 3) := by decide +kernel
theorem dX4_waits_23 : decode cX4_waits 23 = .ok (.iconst (-1), 1) := by decide +kernel
theorem dX4_waits_24 : decode cX4_waits 24 = .ok (.ireturn, 1) := by decide +kernel
set_option maxRecDepth 20000 in
theorem ggX4_at_X4_isNode : GoodIn wsX4_at wsX4_isNode := goodIn_r _ [13, 14, 15, 16, 17, 18] (by decide +kernel) (by decide +kernel)
set_option maxRecDepth 20000 in
theorem gX4_at_X4_isNode : GoodIn wsX4_at (wsV RX4 114 RX4 yX4_isNode wsX4_isNode) := goodIn_app (goodIn_of _ (by decide +kernel)) ggX4_at_X4_isNode
theorem dX4_at_0 : decode cX4_at 0 = .ok (.aload_n 0, 1) := by decide +kernel
theorem dX4_at_1 : decode cX4_at 1 = .ok (.iload_n 1, 1) := by decide +kernel
theorem dX4_at_2 : decode cX4_at 2 = .ok (.invokevirtual 114, 3) := by decide +kernel
theorem dX4_at_5 : decode cX4_at 5 = .ok (.ifCond .ne 5, 3) := by decide +kernel
theorem dX4_at_8 : decode cX4_at 8 = .ok (.iconst (-1), 1) := by decide +kernel
theorem dX4_at_9 : decode cX4_at 9 = .ok (.ireturn, 1) := by decide +kernel
theorem dX4_at_10 : decode cX4_at 10 = .ok (.aload_n 0, 1) := by decide +kernel
theorem dX4_at_11 : decode cX4_at 11 = .ok (.getfield 11, 3) := by decide +kernel
theorem dX4_at_14 : decode cX4_at 14 = .ok (.iload_n 1, 1) := by decide +kernel
theorem dX4_at_15 : decode cX4_at 15 = .ok (.aaload, 1) := by decide +kernel
theorem dX4_at_16 : decode cX4_at 16 = .ok (.getfield 36, 3) := by decide +kernel
theorem dX4_at_19 : decode cX4_at 19 = .ok (.astore_n 3, 1) := by decide +kernel
theorem dX4_at_20 : decode cX4_at 20 = .ok (.iload_n 2, 1) := by decide +kernel
theorem dX4_at_21 : decode cX4_at 21 = .ok (.iconst 4, 1) := by decide +kernel
theorem dX4_at_22 : decode cX4_at 22 = .ok (.if_icmp .ne 8, 3) := by decide +kernel
theorem dX4_at_25 : decode cX4_at 25 = .ok (.aload_n 3, 1) := by decide +kernel
theorem dX4_at_26 : decode cX4_at 26 = .ok (.getfield 120, 3) := by decide +kernel
theorem dX4_at_29 : decode cX4_at 29 = .ok (.ireturn, 1) := by decide +kernel
theorem dX4_at_30 : decode cX4_at 30 = .ok (.aload_n 3, 1) := by decide +kernel
theorem dX4_at_31 : decode cX4_at 31 = .ok (.getfield 123, 3) := by decide +kernel
theorem dX4_at_34 : decode cX4_at 34 = .ok (.ifCond .ne 5, 3) := by decide +kernel
theorem dX4_at_37 : decode cX4_at 37 = .ok (.iconst (-1), 1) := by decide +kernel
theorem dX4_at_38 : decode cX4_at 38 = .ok (.ireturn, 1) := by decide +kernel
theorem dX4_at_39 : decode cX4_at 39 = .ok (.iload_n 2, 1) := by decide +kernel
theorem dX4_at_40 : decode cX4_at 40 = .ok (.tableswitch 60 0 3 #[32, 37, 42, 55], 32) := by decide +kernel
theorem dX4_at_72 : decode cX4_at 72 = .ok (.aload_n 3, 1) := by decide +kernel
theorem dX4_at_73 : decode cX4_at 73 = .ok (.getfield 127, 3) := by decide +kernel
theorem dX4_at_76 : decode cX4_at 76 = .ok (.ireturn, 1) := by decide +kernel
theorem dX4_at_77 : decode cX4_at 77 = .ok (.aload_n 3, 1) := by decide +kernel
theorem dX4_at_78 : decode cX4_at 78 = .ok (.getfield 128, 3) := by decide +kernel
theorem dX4_at_81 : decode cX4_at 81 = .ok (.ireturn, 1) := by decide +kernel
theorem dX4_at_82 : decode cX4_at 82 = .ok (.aload_n 3, 1) := by decide +kernel
theorem dX4_at_83 : decode cX4_at 83 = .ok (.getfield 131, 3) := by decide +kernel
theorem dX4_at_86 : decode cX4_at 86 = .ok (.ifCond .eq 7, 3) := by decide +kernel
theorem dX4_at_89 : decode cX4_at 89 = .ok (.iconst 1, 1) := by decide +kernel
theorem dX4_at_90 : decode cX4_at 90 = .ok (.goto 4, 3) := by decide +kernel
theorem dX4_at_93 : decode cX4_at 93 = .ok (.iconst 0, 1) := by decide +kernel
theorem dX4_at_94 : decode cX4_at 94 = .ok (.ireturn, 1) := by decide +kernel
theorem dX4_at_95 : decode cX4_at 95 = .ok (.aload_n 3, 1) := by decide +kernel
theorem dX4_at_96 : decode cX4_at 96 = .ok (.getfield 111, 3) := by decide +kernel
theorem dX4_at_99 : decode cX4_at 99 = .ok (.ireturn, 1) := by decide +kernel
theorem dX4_at_100 : decode cX4_at 100 = .ok (.iconst (-1), 1) := by decide +kernel
theorem dX4_at_101 : decode cX4_at 101 = .ok (.ireturn, 1) := by decide +kernel
set_option maxRecDepth 20000 in
theorem ggX4_result_X4_isNode : GoodIn wsX4_result wsX4_isNode := goodIn_r _ [8, 9, 10, 11, 12, 13] (by decide +kernel) (by decide +kernel)
set_option maxRecDepth 20000 in
theorem gX4_result_X4_isNode : GoodIn wsX4_result (wsV RX4 114 RX4 yX4_isNode wsX4_isNode) := goodIn_app (goodIn_of _ (by decide +kernel)) ggX4_result_X4_isNode
theorem dX4_result_0 : decode cX4_result 0 = .ok (.aload_n 0, 1) := by decide +kernel
theorem dX4_result_1 : decode cX4_result 1 = .ok (.iload_n 1, 1) := by decide +kernel
theorem dX4_result_2 : decode cX4_result 2 = .ok (.invokevirtual 114, 3) := by decide +kernel
theorem dX4_result_5 : decode cX4_result 5 = .ok (.ifCond .eq 18, 3) := by decide +kernel
theorem dX4_result_8 : decode cX4_result 8 = .ok (.aload_n 0, 1) := by decide +kernel
theorem dX4_result_9 : decode cX4_result 9 = .ok (.getfield 11, 3) := by decide +kernel
theorem dX4_result_12 : decode cX4_result 12 = .ok (.iload_n 1, 1) := by decide +kernel
theorem dX4_result_13 : decode cX4_result 13 = .ok (.aaload, 1) := by decide +kernel
theorem dX4_result_14 : decode cX4_result 14 = .ok (.getfield 36, 3) := by decide +kernel
theorem dX4_result_17 : decode cX4_result 17 = .ok (.getfield 134, 3) := by decide +kernel
theorem dX4_result_20 : decode cX4_result 20 = .ok (.goto 4, 3) := by decide +kernel
theorem dX4_result_23 : decode cX4_result 23 = .ok (.lconst 0, 1) := by decide +kernel
theorem dX4_result_24 : decode cX4_result 24 = .ok (.lreturn, 1) := by decide +kernel
set_option maxRecDepth 20000 in
theorem ggX4_access_X4_isNode : GoodIn wsX4_access wsX4_isNode := goodIn_r _ [7, 8, 12, 13, 14, 15] (by decide +kernel) (by decide +kernel)
set_option maxRecDepth 20000 in
theorem gX4_access_X4_isNode : GoodIn wsX4_access (wsV RX4 114 RX4 yX4_isNode wsX4_isNode) := goodIn_app (goodIn_of _ (by decide +kernel)) ggX4_access_X4_isNode
set_option maxRecDepth 20000 in
theorem ggX4_access_X4_isPage : GoodIn wsX4_access wsX4_isPage := goodIn_r _ [11] (by decide +kernel) (by decide +kernel)
set_option maxRecDepth 20000 in
theorem gX4_access_X4_isPage : GoodIn wsX4_access (va_wsS RX4 138 yX4_isPage wsX4_isPage) := goodIn_app (goodIn_of _ (by decide +kernel)) ggX4_access_X4_isPage
theorem dX4_access_0 : decode cX4_access 0 = .ok (.aload_n 0, 1) := by decide +kernel
theorem dX4_access_1 : decode cX4_access 1 = .ok (.iload_n 1, 1) := by decide +kernel
theorem dX4_access_2 : decode cX4_access 2 = .ok (.invokevirtual 114, 3) := by decide +kernel
theorem dX4_access_5 : decode cX4_access 5 = .ok (.ifCond .eq 24, 3) := by decide +kernel
theorem dX4_access_8 : decode cX4_access 8 = .ok (.iload_n 2, 1) := by decide +kernel
theorem dX4_access_9 : decode cX4_access 9 = .ok (.invokestatic 138, 3) := by decide +kernel
theorem dX4_access_12 : decode cX4_access 12 = .ok (.ifCond .eq 17, 3) := by decide +kernel
theorem dX4_access_15 : decode cX4_access 15 = .ok (.aload_n 0, 1) := by decide +kernel
theorem dX4_access_16 : decode cX4_access 16 = .ok (.getfield 11, 3) := by decide +kernel
theorem dX4_access_19 : decode cX4_access 19 = .ok (.iload_n 1, 1) := by decide +kernel
theorem dX4_access_20 : decode cX4_access 20 = .ok (.aaload, 1) := by decide +kernel
theorem dX4_access_21 : decode cX4_access 21 = .ok (.getfield 46, 3) := by decide +kernel
theorem dX4_access_24 : decode cX4_access 24 = .ok (.iload_n 2, 1) := by decide +kernel
theorem dX4_access_25 : decode cX4_access 25 = .ok (.iaload, 1) := by decide +kernel
theorem dX4_access_26 : decode cX4_access 26 = .ok (.goto 4, 3) := by decide +kernel
theorem dX4_access_29 : decode cX4_access 29 = .ok (.iconst (-1), 1) := by decide +kernel
theorem dX4_access_30 : decode cX4_access 30 = .ok (.ireturn, 1) := by decide +kernel
set_option maxRecDepth 20000 in
theorem ggX4_owner_X4_isPage : GoodIn wsX4_owner wsX4_isPage := goodIn_r _ [7] (by decide +kernel) (by decide +kernel)
set_option maxRecDepth 20000 in
theorem gX4_owner_X4_isPage : GoodIn wsX4_owner (va_wsS RX4 138 yX4_isPage wsX4_isPage) := goodIn_app (goodIn_of _ (by decide +kernel)) ggX4_owner_X4_isPage
theorem dX4_owner_0 : decode cX4_owner 0 = .ok (.iload_n 1, 1) := by decide +kernel
theorem dX4_owner_1 : decode cX4_owner 1 = .ok (.invokestatic 138, 3) := by decide +kernel
theorem dX4_owner_4 : decode cX4_owner 4 = .ok (.ifCond .ne 5, 3) := by decide +kernel
theorem dX4_owner_7 : decode cX4_owner 7 = .ok (.iconst (-1), 1) := by decide +kernel
theorem dX4_owner_8 : decode cX4_owner 8 = .ok (.ireturn, 1) := by decide +kernel
theorem dX4_owner_9 : decode cX4_owner 9 = .ok (.iconst 0, 1) := by decide +kernel
theorem dX4_owner_10 : decode cX4_owner 10 = .ok (.istore_n 2, 1) := by decide +kernel
theorem dX4_owner_11 : decode cX4_owner 11 = .ok (.iload_n 2, 1) := by decide +kernel
theorem dX4_owner_12 : decode cX4_owner 12 = .ok (.aload_n 0, 1) := by decide +kernel
theorem dX4_owner_13 : decode cX4_owner 13 = .ok (.getfield 141, 3) := by decide +kernel
theorem dX4_owner_16 : decode cX4_owner 16 = .ok (.if_icmp .ge 25, 3) := by decide +kernel
theorem dX4_owner_19 : decode cX4_owner 19 = .ok (.aload_n 0, 1) := by decide +kernel
theorem dX4_owner_20 : decode cX4_owner 20 = .ok (.getfield 11, 3) := by decide +kernel
theorem dX4_owner_23 : decode cX4_owner 23 = .ok (.iload_n 2, 1) := by decide +kernel
theorem dX4_owner_24 : decode cX4_owner 24 = .ok (.aaload, 1) := by decide +kernel
theorem dX4_owner_25 : decode cX4_owner 25 = .ok (.getfield 61, 3) := by decide +kernel
theorem dX4_owner_28 : decode cX4_owner 28 = .ok (.iload_n 1, 1) := by decide +kernel
theorem dX4_owner_29 : decode cX4_owner 29 = .ok (.baload, 1) := by decide +kernel
theorem dX4_owner_30 : decode cX4_owner 30 = .ok (.ifCond .eq 5, 3) := by decide +kernel
theorem dX4_owner_33 : decode cX4_owner 33 = .ok (.iload_n 2, 1) := by decide +kernel
theorem dX4_owner_34 : decode cX4_owner 34 = .ok (.ireturn, 1) := by decide +kernel
theorem dX4_owner_35 : decode cX4_owner 35 = .ok (.iinc 2 1, 3) := by decide +kernel
theorem dX4_owner_38 : decode cX4_owner 38 = .ok (.goto (-27), 3) := by decide +kernel
theorem dX4_owner_41 : decode cX4_owner 41 = .ok (.iconst (-1), 1) := by decide +kernel
theorem dX4_owner_42 : decode cX4_owner 42 = .ok (.ireturn, 1) := by decide +kernel
set_option maxRecDepth 20000 in
theorem ggX4_guess_X4_isNode : GoodIn wsX4_guess wsX4_isNode := goodIn_r _ [7, 8, 12, 13, 14, 15] (by decide +kernel) (by decide +kernel)
set_option maxRecDepth 20000 in
theorem gX4_guess_X4_isNode : GoodIn wsX4_guess (wsV RX4 114 RX4 yX4_isNode wsX4_isNode) := goodIn_app (goodIn_of _ (by decide +kernel)) ggX4_guess_X4_isNode
set_option maxRecDepth 20000 in
theorem ggX4_guess_X4_isPage : GoodIn wsX4_guess wsX4_isPage := goodIn_r _ [11] (by decide +kernel) (by decide +kernel)
set_option maxRecDepth 20000 in
theorem gX4_guess_X4_isPage : GoodIn wsX4_guess (va_wsS RX4 138 yX4_isPage wsX4_isPage) := goodIn_app (goodIn_of _ (by decide +kernel)) ggX4_guess_X4_isPage
theorem dX4_guess_0 : decode cX4_guess 0 = .ok (.aload_n 0, 1) := by decide +kernel
theorem dX4_guess_1 : decode cX4_guess 1 = .ok (.iload_n 1, 1) := by decide +kernel
theorem dX4_guess_2 : decode cX4_guess 2 = .ok (.invokevirtual 114, 3) := by decide +kernel
theorem dX4_guess_5 : decode cX4_guess 5 = .ok (.ifCond .eq 24, 3) := by decide +kernel
theorem dX4_guess_8 : decode cX4_guess 8 = .ok (.iload_n 2, 1) := by decide +kernel
theorem dX4_guess_9 : decode cX4_guess 9 = .ok (.invokestatic 138, 3) := by decide +kernel
theorem dX4_guess_12 : decode cX4_guess 12 = .ok (.ifCond .eq 17, 3) := by decide +kernel
theorem dX4_guess_15 : decode cX4_guess 15 = .ok (.aload_n 0, 1) := by decide +kernel
theorem dX4_guess_16 : decode cX4_guess 16 = .ok (.getfield 11, 3) := by decide +kernel
theorem dX4_guess_19 : decode cX4_guess 19 = .ok (.iload_n 1, 1) := by decide +kernel
theorem dX4_guess_20 : decode cX4_guess 20 = .ok (.aaload, 1) := by decide +kernel
theorem dX4_guess_21 : decode cX4_guess 21 = .ok (.getfield 144, 3) := by decide +kernel
theorem dX4_guess_24 : decode cX4_guess 24 = .ok (.iload_n 2, 1) := by decide +kernel
theorem dX4_guess_25 : decode cX4_guess 25 = .ok (.iaload, 1) := by decide +kernel
theorem dX4_guess_26 : decode cX4_guess 26 = .ok (.goto 4, 3) := by decide +kernel
theorem dX4_guess_29 : decode cX4_guess 29 = .ok (.iconst (-1), 1) := by decide +kernel
theorem dX4_guess_30 : decode cX4_guess 30 = .ok (.ireturn, 1) := by decide +kernel
set_option maxRecDepth 20000 in
theorem ggX4_copies_X4_isNode : GoodIn wsX4_copies wsX4_isNode := goodIn_r _ [7, 8, 12, 13, 14, 15] (by decide +kernel) (by decide +kernel)
set_option maxRecDepth 20000 in
theorem gX4_copies_X4_isNode : GoodIn wsX4_copies (wsV RX4 114 RX4 yX4_isNode wsX4_isNode) := goodIn_app (goodIn_of _ (by decide +kernel)) ggX4_copies_X4_isNode
set_option maxRecDepth 20000 in
theorem ggX4_copies_X4_isPage : GoodIn wsX4_copies wsX4_isPage := goodIn_r _ [11] (by decide +kernel) (by decide +kernel)
set_option maxRecDepth 20000 in
theorem gX4_copies_X4_isPage : GoodIn wsX4_copies (va_wsS RX4 138 yX4_isPage wsX4_isPage) := goodIn_app (goodIn_of _ (by decide +kernel)) ggX4_copies_X4_isPage
theorem dX4_copies_0 : decode cX4_copies 0 = .ok (.aload_n 0, 1) := by decide +kernel
theorem dX4_copies_1 : decode cX4_copies 1 = .ok (.iload_n 1, 1) := by decide +kernel
theorem dX4_copies_2 : decode cX4_copies 2 = .ok (.invokevirtual 114, 3) := by decide +kernel
theorem dX4_copies_5 : decode cX4_copies 5 = .ok (.ifCond .eq 24, 3) := by decide +kernel
theorem dX4_copies_8 : decode cX4_copies 8 = .ok (.iload_n 2, 1) := by decide +kernel
theorem dX4_copies_9 : decode cX4_copies 9 = .ok (.invokestatic 138, 3) := by decide +kernel
theorem dX4_copies_12 : decode cX4_copies 12 = .ok (.ifCond .eq 17, 3) := by decide +kernel
theorem dX4_copies_15 : decode cX4_copies 15 = .ok (.aload_n 0, 1) := by decide +kernel
theorem dX4_copies_16 : decode cX4_copies 16 = .ok (.getfield 11, 3) := by decide +kernel
theorem dX4_copies_19 : decode cX4_copies 19 = .ok (.iload_n 1, 1) := by decide +kernel
theorem dX4_copies_20 : decode cX4_copies 20 = .ok (.aaload, 1) := by decide +kernel
theorem dX4_copies_21 : decode cX4_copies 21 = .ok (.getfield 147, 3) := by decide +kernel
theorem dX4_copies_24 : decode cX4_copies 24 = .ok (.iload_n 2, 1) := by decide +kernel
theorem dX4_copies_25 : decode cX4_copies 25 = .ok (.iaload, 1) := by decide +kernel
theorem dX4_copies_26 : decode cX4_copies 26 = .ok (.goto 4, 3) := by decide +kernel
theorem dX4_copies_29 : decode cX4_copies 29 = .ok (.iconst (-1), 1) := by decide +kernel
theorem dX4_copies_30 : decode cX4_copies 30 = .ok (.ireturn, 1) := by decide +kernel
set_option maxRecDepth 20000 in
theorem ggX4_word_X4_isNode : GoodIn wsX4_word wsX4_isNode := goodIn_r _ [7, 8, 15, 16, 17, 18] (by decide +kernel) (by decide +kernel)
set_option maxRecDepth 20000 in
theorem gX4_word_X4_isNode : GoodIn wsX4_word (wsV RX4 114 RX4 yX4_isNode wsX4_isNode) := goodIn_app (goodIn_of _ (by decide +kernel)) ggX4_word_X4_isNode
set_option maxRecDepth 20000 in
theorem ggX4_word_X4_isPage : GoodIn wsX4_word wsX4_isPage := goodIn_r _ [11] (by decide +kernel) (by decide +kernel)
set_option maxRecDepth 20000 in
theorem gX4_word_X4_isPage : GoodIn wsX4_word (va_wsS RX4 138 yX4_isPage wsX4_isPage) := goodIn_app (goodIn_of _ (by decide +kernel)) ggX4_word_X4_isPage
set_option maxRecDepth 20000 in
theorem ggX4_word_X4_isWord : GoodIn wsX4_word wsX4_isWord := goodIn_r _ [14] (by decide +kernel) (by decide +kernel)
set_option maxRecDepth 20000 in
theorem gX4_word_X4_isWord : GoodIn wsX4_word (va_wsS RX4 150 yX4_isWord wsX4_isWord) := goodIn_app (goodIn_of _ (by decide +kernel)) ggX4_word_X4_isWord
theorem dX4_word_0 : decode cX4_word 0 = .ok (.aload_n 0, 1) := by decide +kernel
theorem dX4_word_1 : decode cX4_word 1 = .ok (.iload_n 1, 1) := by decide +kernel
theorem dX4_word_2 : decode cX4_word 2 = .ok (.invokevirtual 114, 3) := by decide +kernel
theorem dX4_word_5 : decode cX4_word 5 = .ok (.ifCond .eq 35, 3) := by decide +kernel
theorem dX4_word_8 : decode cX4_word 8 = .ok (.iload_n 2, 1) := by decide +kernel
theorem dX4_word_9 : decode cX4_word 9 = .ok (.invokestatic 138, 3) := by decide +kernel
theorem dX4_word_12 : decode cX4_word 12 = .ok (.ifCond .eq 28, 3) := by decide +kernel
theorem dX4_word_15 : decode cX4_word 15 = .ok (.iload_n 3, 1) := by decide +kernel
theorem dX4_word_16 : decode cX4_word 16 = .ok (.invokestatic 150, 3) := by decide +kernel
theorem dX4_word_19 : decode cX4_word 19 = .ok (.ifCond .eq 21, 3) := by decide +kernel
theorem dX4_word_22 : decode cX4_word 22 = .ok (.aload_n 0, 1) := by decide +kernel
theorem dX4_word_23 : decode cX4_word 23 = .ok (.getfield 11, 3) := by decide +kernel
theorem dX4_word_26 : decode cX4_word 26 = .ok (.iload_n 1, 1) := by decide +kernel
theorem dX4_word_27 : decode cX4_word 27 = .ok (.aaload, 1) := by decide +kernel
theorem dX4_word_28 : decode cX4_word 28 = .ok (.getfield 153, 3) := by decide +kernel
theorem dX4_word_31 : decode cX4_word 31 = .ok (.iload_n 2, 1) := by decide +kernel
theorem dX4_word_32 : decode cX4_word 32 = .ok (.iconst 4, 1) := by decide +kernel
theorem dX4_word_33 : decode cX4_word 33 = .ok (.imul, 1) := by decide +kernel
theorem dX4_word_34 : decode cX4_word 34 = .ok (.iload_n 3, 1) := by decide +kernel
theorem dX4_word_35 : decode cX4_word 35 = .ok (.iadd, 1) := by decide +kernel
theorem dX4_word_36 : decode cX4_word 36 = .ok (.laload, 1) := by decide +kernel
theorem dX4_word_37 : decode cX4_word 37 = .ok (.goto 4, 3) := by decide +kernel
theorem dX4_word_40 : decode cX4_word 40 = .ok (.lconst 0, 1) := by decide +kernel
theorem dX4_word_41 : decode cX4_word 41 = .ok (.lreturn, 1) := by decide +kernel
set_option maxRecDepth 20000 in
theorem ggX4_queue_X4_isNode : GoodIn wsX4_queue wsX4_isNode := goodIn_r _ [7, 8, 12, 13, 14, 15] (by decide +kernel) (by decide +kernel)
set_option maxRecDepth 20000 in
theorem gX4_queue_X4_isNode : GoodIn wsX4_queue (wsV RX4 114 RX4 yX4_isNode wsX4_isNode) := goodIn_app (goodIn_of _ (by decide +kernel)) ggX4_queue_X4_isNode
set_option maxRecDepth 20000 in
theorem ggX4_queue_X4_isPage : GoodIn wsX4_queue wsX4_isPage := goodIn_r _ [11] (by decide +kernel) (by decide +kernel)
set_option maxRecDepth 20000 in
theorem gX4_queue_X4_isPage : GoodIn wsX4_queue (va_wsS RX4 138 yX4_isPage wsX4_isPage) := goodIn_app (goodIn_of _ (by decide +kernel)) ggX4_queue_X4_isPage
theorem dX4_queue_0 : decode cX4_queue 0 = .ok (.aload_n 0, 1) := by decide +kernel
theorem dX4_queue_1 : decode cX4_queue 1 = .ok (.iload_n 1, 1) := by decide +kernel
theorem dX4_queue_2 : decode cX4_queue 2 = .ok (.invokevirtual 114, 3) := by decide +kernel
theorem dX4_queue_5 : decode cX4_queue 5 = .ok (.ifCond .eq 24, 3) := by decide +kernel
theorem dX4_queue_8 : decode cX4_queue 8 = .ok (.iload_n 2, 1) := by decide +kernel
theorem dX4_queue_9 : decode cX4_queue 9 = .ok (.invokestatic 138, 3) := by decide +kernel
theorem dX4_queue_12 : decode cX4_queue 12 = .ok (.ifCond .eq 17, 3) := by decide +kernel
theorem dX4_queue_15 : decode cX4_queue 15 = .ok (.aload_n 0, 1) := by decide +kernel
theorem dX4_queue_16 : decode cX4_queue 16 = .ok (.getfield 11, 3) := by decide +kernel
theorem dX4_queue_19 : decode cX4_queue 19 = .ok (.iload_n 1, 1) := by decide +kernel
theorem dX4_queue_20 : decode cX4_queue 20 = .ok (.aaload, 1) := by decide +kernel
theorem dX4_queue_21 : decode cX4_queue 21 = .ok (.getfield 157, 3) := by decide +kernel
theorem dX4_queue_24 : decode cX4_queue 24 = .ok (.iload_n 2, 1) := by decide +kernel
theorem dX4_queue_25 : decode cX4_queue 25 = .ok (.iaload, 1) := by decide +kernel
theorem dX4_queue_26 : decode cX4_queue 26 = .ok (.goto 4, 3) := by decide +kernel
theorem dX4_queue_29 : decode cX4_queue 29 = .ok (.iconst (-1), 1) := by decide +kernel
theorem dX4_queue_30 : decode cX4_queue 30 = .ok (.ireturn, 1) := by decide +kernel
set_option maxRecDepth 20000 in
theorem ggX4_chain_X4_isNode : GoodIn wsX4_chain wsX4_isNode := goodIn_r _ [8, 2, 24, 25, 26, 27] (by decide +kernel) (by decide +kernel)
set_option maxRecDepth 20000 in
theorem gX4_chain_X4_isNode : GoodIn wsX4_chain (wsV RX4 114 RX4 yX4_isNode wsX4_isNode) := goodIn_app (goodIn_of _ (by decide +kernel)) ggX4_chain_X4_isNode
set_option maxRecDepth 20000 in
theorem ggX4_chain_X4_isPage : GoodIn wsX4_chain wsX4_isPage := goodIn_r _ [11] (by decide +kernel) (by decide +kernel)
set_option maxRecDepth 20000 in
theorem gX4_chain_X4_isPage : GoodIn wsX4_chain (va_wsS RX4 138 yX4_isPage wsX4_isPage) := goodIn_app (goodIn_of _ (by decide +kernel)) ggX4_chain_X4_isPage
set_option maxRecDepth 20000 in
theorem ggX4_chain_X4_endsChain : GoodIn wsX4_chain wsX4_endsChain := goodIn_r _ [14, 15, 16, 17, 18, 19, 20, 21, 22, 23, 28, 29, 30, 31, 32, 33, 34, 35, 36, 37, 38, 39, 40, 41, 42, 43, 44, 45, 46, 47] (by decide +kernel) (by decide +kernel)
set_option maxRecDepth 20000 in
theorem gX4_chain_X4_endsChain : GoodIn wsX4_chain (va_wsS RX4 160 yX4_endsChain wsX4_endsChain) := goodIn_app (goodIn_of _ (by decide +kernel)) ggX4_chain_X4_endsChain
theorem dX4_chain_0 : decode cX4_chain 0 = .ok (.aload_n 0, 1) := by decide +kernel
theorem dX4_chain_1 : decode cX4_chain 1 = .ok (.iload_n 1, 1) := by decide +kernel
theorem dX4_chain_2 : decode cX4_chain 2 = .ok (.invokevirtual 114, 3) := by decide +kernel
theorem dX4_chain_5 : decode cX4_chain 5 = .ok (.ifCond .eq 10, 3) := by decide +kernel
theorem dX4_chain_8 : decode cX4_chain 8 = .ok (.iload_n 2, 1) := by decide +kernel
theorem dX4_chain_9 : decode cX4_chain 9 = .ok (.invokestatic 138, 3) := by decide +kernel
theorem dX4_chain_12 : decode cX4_chain 12 = .ok (.ifCond .ne 5, 3) := by decide +kernel
theorem dX4_chain_15 : decode cX4_chain 15 = .ok (.iconst (-1), 1) := by decide +kernel
theorem dX4_chain_16 : decode cX4_chain 16 = .ok (.ireturn, 1) := by decide +kernel
theorem dX4_chain_17 : decode cX4_chain 17 = .ok (.aload_n 0, 1) := by decide +kernel
theorem dX4_chain_18 : decode cX4_chain 18 = .ok (.getfield 11, 3) := by decide +kernel
theorem dX4_chain_21 : decode cX4_chain 21 = .ok (.iload_n 1, 1) := by decide +kernel
theorem dX4_chain_22 : decode cX4_chain 22 = .ok (.aaload, 1) := by decide +kernel
theorem dX4_chain_23 : decode cX4_chain 23 = .ok (.astore_n 3, 1) := by decide +kernel
theorem dX4_chain_24 : decode cX4_chain 24 = .ok (.iconst 0, 1) := by decide +kernel
theorem dX4_chain_25 : decode cX4_chain 25 = .ok (.istore 4, 2) := by decide +kernel
theorem dX4_chain_27 : decode cX4_chain 27 = .ok (.iload 4, 2) := by decide +kernel
theorem dX4_chain_29 : decode cX4_chain 29 = .ok (.aload_n 0, 1) := by decide +kernel
theorem dX4_chain_30 : decode cX4_chain 30 = .ok (.getfield 141, 3) := by decide +kernel
theorem dX4_chain_33 : decode cX4_chain 33 = .ok (.if_icmp .ge 32, 3) := by decide +kernel
theorem dX4_chain_36 : decode cX4_chain 36 = .ok (.aload_n 3, 1) := by decide +kernel
theorem dX4_chain_37 : decode cX4_chain 37 = .ok (.iload_n 2, 1) := by decide +kernel
theorem dX4_chain_38 : decode cX4_chain 38 = .ok (.invokestatic 160, 3) := by decide +kernel
theorem dX4_chain_41 : decode cX4_chain 41 = .ok (.ifCond .eq 6, 3) := by decide +kernel
theorem dX4_chain_44 : decode cX4_chain 44 = .ok (.iload 4, 2) := by decide +kernel
theorem dX4_chain_46 : decode cX4_chain 46 = .ok (.ireturn, 1) := by decide +kernel
theorem dX4_chain_47 : decode cX4_chain 47 = .ok (.aload_n 0, 1) := by decide +kernel
theorem dX4_chain_48 : decode cX4_chain 48 = .ok (.getfield 11, 3) := by decide +kernel
theorem dX4_chain_51 : decode cX4_chain 51 = .ok (.aload_n 3, 1) := by decide +kernel
theorem dX4_chain_52 : decode cX4_chain 52 = .ok (.getfield 144, 3) := by decide +kernel
theorem dX4_chain_55 : decode cX4_chain 55 = .ok (.iload_n 2, 1) := by decide +kernel
theorem dX4_chain_56 : decode cX4_chain 56 = .ok (.iaload, 1) := by decide +kernel
theorem dX4_chain_57 : decode cX4_chain 57 = .ok (.aaload, 1) := by decide +kernel
theorem dX4_chain_58 : decode cX4_chain 58 = .ok (.astore_n 3, 1) := by decide +kernel
theorem dX4_chain_59 : decode cX4_chain 59 = .ok (.iinc 4 1, 3) := by decide +kernel
theorem dX4_chain_62 : decode cX4_chain 62 = .ok (.goto (-35), 3) := by decide +kernel
theorem dX4_chain_65 : decode cX4_chain 65 = .ok (.iconst (-1), 1) := by decide +kernel
theorem dX4_chain_66 : decode cX4_chain 66 = .ok (.ireturn, 1) := by decide +kernel
theorem dX4_flying_0 : decode cX4_flying 0 = .ok (.aload_n 0, 1) := by decide +kernel
theorem dX4_flying_1 : decode cX4_flying 1 = .ok (.getfield 18, 3) := by decide +kernel
theorem dX4_flying_4 : decode cX4_flying 4 = .ok (.getfield 164, 3) := by decide +kernel
theorem dX4_flying_7 : decode cX4_flying 7 = .ok (.ireturn, 1) := by decide +kernel
set_option maxRecDepth 20000 in
theorem ggX4_letter_X2_has : GoodIn wsX4_letter wsX2_has := goodIn_r _ [13, 14, 19, 20] (by decide +kernel) (by decide +kernel)
set_option maxRecDepth 20000 in
theorem gX4_letter_X2_has : GoodIn wsX4_letter (wsV RX4 71 RX2 yX2_has wsX2_has) := goodIn_app (goodIn_of _ (by decide +kernel)) ggX4_letter_X2_has
theorem dX4_letter_0 : decode cX4_letter 0 = .ok (.aload_n 0, 1) := by decide +kernel
theorem dX4_letter_1 : decode cX4_letter 1 = .ok (.getfield 18, 3) := by decide +kernel
theorem dX4_letter_4 : decode cX4_letter 4 = .ok (.iload_n 1, 1) := by decide +kernel
theorem dX4_letter_5 : decode cX4_letter 5 = .ok (.invokevirtual 71, 3) := by decide +kernel
theorem dX4_letter_8 : decode cX4_letter 8 = .ok (.ifCond .ne 6, 3) := by decide +kernel
theorem dX4_letter_11 : decode cX4_letter 11 = .ok (.bipush (-2), 2) := by decide +kernel
theorem dX4_letter_13 : decode cX4_letter 13 = .ok (.ireturn, 1) := by decide +kernel
theorem dX4_letter_14 : decode cX4_letter 14 = .ok (.aload_n 0, 1) := by decide +kernel
theorem dX4_letter_15 : decode cX4_letter 15 = .ok (.getfield 18, 3) := by decide +kernel
theorem dX4_letter_18 : decode cX4_letter 18 = .ok (.getfield 167, 3) := by decide +kernel
theorem dX4_letter_21 : decode cX4_letter 21 = .ok (.iload_n 1, 1) := by decide +kernel
theorem dX4_letter_22 : decode cX4_letter 22 = .ok (.aaload, 1) := by decide +kernel
theorem dX4_letter_23 : decode cX4_letter 23 = .ok (.astore_n 3, 1) := by decide +kernel
theorem dX4_letter_24 : decode cX4_letter 24 = .ok (.iload_n 2, 1) := by decide +kernel
theorem dX4_letter_25 : decode cX4_letter 25 = .ok (.tableswitch 69 0 5 #[39, 44, 49, 54, 59, 64], 39) := by decide +kernel
theorem dX4_letter_64 : decode cX4_letter 64 = .ok (.aload_n 3, 1) := by decide +kernel
theorem dX4_letter_65 : decode cX4_letter 65 = .ok (.getfield 85, 3) := by decide +kernel
theorem dX4_letter_68 : decode cX4_letter 68 = .ok (.ireturn, 1) := by decide +kernel
theorem dX4_letter_69 : decode cX4_letter 69 = .ok (.aload_n 3, 1) := by decide +kernel
theorem dX4_letter_70 : decode cX4_letter 70 = .ok (.getfield 105, 3) := by decide +kernel
theorem dX4_letter_73 : decode cX4_letter 73 = .ok (.ireturn, 1) := by decide +kernel
theorem dX4_letter_74 : decode cX4_letter 74 = .ok (.aload_n 3, 1) := by decide +kernel
theorem dX4_letter_75 : decode cX4_letter 75 = .ok (.getfield 79, 3) := by decide +kernel
theorem dX4_letter_78 : decode cX4_letter 78 = .ok (.ireturn, 1) := by decide +kernel
theorem dX4_letter_79 : decode cX4_letter 79 = .ok (.aload_n 3, 1) := by decide +kernel
theorem dX4_letter_80 : decode cX4_letter 80 = .ok (.getfield 88, 3) := by decide +kernel
theorem dX4_letter_83 : decode cX4_letter 83 = .ok (.ireturn, 1) := by decide +kernel
theorem dX4_letter_84 : decode cX4_letter 84 = .ok (.aload_n 3, 1) := by decide +kernel
theorem dX4_letter_85 : decode cX4_letter 85 = .ok (.getfield 91, 3) := by decide +kernel
theorem dX4_letter_88 : decode cX4_letter 88 = .ok (.ireturn, 1) := by decide +kernel
theorem dX4_letter_89 : decode cX4_letter 89 = .ok (.aload_n 3, 1) := by decide +kernel
theorem dX4_letter_90 : decode cX4_letter 90 = .ok (.getfield 171, 3) := by decide +kernel
theorem dX4_letter_93 : decode cX4_letter 93 = .ok (.ireturn, 1) := by decide +kernel
theorem dX4_letter_94 : decode cX4_letter 94 = .ok (.bipush (-2), 2) := by decide +kernel
theorem dX4_letter_96 : decode cX4_letter 96 = .ok (.ireturn, 1) := by decide +kernel
set_option maxRecDepth 20000 in
theorem ggX4_letterWord_X2_has : GoodIn wsX4_letterWord wsX2_has := goodIn_r _ [9, 10, 19, 20] (by decide +kernel) (by decide +kernel)
set_option maxRecDepth 20000 in
theorem gX4_letterWord_X2_has : GoodIn wsX4_letterWord (wsV RX4 71 RX2 yX2_has wsX2_has) := goodIn_app (goodIn_of _ (by decide +kernel)) ggX4_letterWord_X2_has
set_option maxRecDepth 20000 in
theorem ggX4_letterWord_X4_isWord : GoodIn wsX4_letterWord wsX4_isWord := goodIn_r _ [14] (by decide +kernel) (by decide +kernel)
set_option maxRecDepth 20000 in
theorem gX4_letterWord_X4_isWord : GoodIn wsX4_letterWord (va_wsS RX4 150 yX4_isWord wsX4_isWord) := goodIn_app (goodIn_of _ (by decide +kernel)) ggX4_letterWord_X4_isWord
theorem dX4_letterWord_0 : decode cX4_letterWord 0 = .ok (.aload_n 0, 1) := by decide +kernel
theorem dX4_letterWord_1 : decode cX4_letterWord 1 = .ok (.getfield 18, 3) := by decide +kernel
theorem dX4_letterWord_4 : decode cX4_letterWord 4 = .ok (.iload_n 1, 1) := by decide +kernel
theorem dX4_letterWord_5 : decode cX4_letterWord 5 = .ok (.invokevirtual 71, 3) := by decide +kernel
theorem dX4_letterWord_8 : decode cX4_letterWord 8 = .ok (.ifCond .eq 10, 3) := by decide +kernel
theorem dX4_letterWord_11 : decode cX4_letterWord 11 = .ok (.iload_n 2, 1) := by decide +kernel
theorem dX4_letterWord_12 : decode cX4_letterWord 12 = .ok (.invokestatic 150, 3) := by decide +kernel
theorem dX4_letterWord_15 : decode cX4_letterWord 15 = .ok (.ifCond .ne 5, 3) := by decide +kernel
theorem dX4_letterWord_18 : decode cX4_letterWord 18 = .ok (.lconst 0, 1) := by decide +kernel
theorem dX4_letterWord_19 : decode cX4_letterWord 19 = .ok (.lreturn, 1) := by decide +kernel
theorem dX4_letterWord_20 : decode cX4_letterWord 20 = .ok (.aload_n 0, 1) := by decide +kernel
theorem dX4_letterWord_21 : decode cX4_letterWord 21 = .ok (.getfield 18, 3) := by decide +kernel
theorem dX4_letterWord_24 : decode cX4_letterWord 24 = .ok (.getfield 167, 3) := by decide +kernel
theorem dX4_letterWord_27 : decode cX4_letterWord 27 = .ok (.iload_n 1, 1) := by decide +kernel
theorem dX4_letterWord_28 : decode cX4_letterWord 28 = .ok (.aaload, 1) := by decide +kernel
theorem dX4_letterWord_29 : decode cX4_letterWord 29 = .ok (.astore_n 3, 1) := by decide +kernel
theorem dX4_letterWord_30 : decode cX4_letterWord 30 = .ok (.aload_n 3, 1) := by decide +kernel
theorem dX4_letterWord_31 : decode cX4_letterWord 31 = .ok (.getfield 85, 3) := by decide +kernel
theorem dX4_letterWord_34 : decode cX4_letterWord 34 = .ok (.iconst 3, 1) := by decide +kernel
theorem dX4_letterWord_35 : decode cX4_letterWord 35 = .ok (.if_icmp .eq 11, 3) := by decide +kernel
theorem dX4_letterWord_38 : decode cX4_letterWord 38 = .ok (.aload_n 3, 1) := by decide +kernel
theorem dX4_letterWord_39 : decode cX4_letterWord 39 = .ok (.getfield 85, 3) := by decide +kernel
theorem dX4_letterWord_42 : decode cX4_letterWord 42 = .ok (.iconst 4, 1) := by decide +kernel
theorem dX4_letterWord_43 : decode cX4_letterWord 43 = .ok (.if_icmp .ne 12, 3) := by decide +kernel
theorem dX4_letterWord_46 : decode cX4_letterWord 46 = .ok (.aload_n 3, 1) := by decide +kernel
theorem dX4_letterWord_47 : decode cX4_letterWord 47 = .ok (.getfield 173, 3) := by decide +kernel
theorem dX4_letterWord_50 : decode cX4_letterWord 50 = .ok (.iload_n 2, 1) := by decide +kernel
theorem dX4_letterWord_51 : decode cX4_letterWord 51 = .ok (.laload, 1) := by decide +kernel
theorem dX4_letterWord_52 : decode cX4_letterWord 52 = .ok (.goto 4, 3) := by decide +kernel
theorem dX4_letterWord_55 : decode cX4_letterWord 55 = .ok (.lconst 0, 1) := by decide +kernel
theorem dX4_letterWord_56 : decode cX4_letterWord 56 = .ok (.lreturn, 1) := by decide +kernel
theorem dX4_count_0 : decode cX4_count 0 = .ok (.iload_n 1, 1) := by decide +kernel
theorem dX4_count_1 : decode cX4_count 1 = .ok (.ifCond .lt 18, 3) := by decide +kernel
theorem dX4_count_4 : decode cX4_count 4 = .ok (.iload_n 1, 1) := by decide +kernel
theorem dX4_count_5 : decode cX4_count 5 = .ok (.bipush 8, 2) := by decide +kernel
theorem dX4_count_7 : decode cX4_count 7 = .ok (.if_icmp .ge 12, 3) := by decide +kernel
theorem dX4_count_10 : decode cX4_count 10 = .ok (.aload_n 0, 1) := by decide +kernel
theorem dX4_count_11 : decode cX4_count 11 = .ok (.getfield 22, 3) := by decide +kernel
theorem dX4_count_14 : decode cX4_count 14 = .ok (.iload_n 1, 1) := by decide +kernel
theorem dX4_count_15 : decode cX4_count 15 = .ok (.iaload, 1) := by decide +kernel
theorem dX4_count_16 : decode cX4_count 16 = .ok (.goto 4, 3) := by decide +kernel
theorem dX4_count_19 : decode cX4_count 19 = .ok (.iconst (-1), 1) := by decide +kernel
theorem dX4_count_20 : decode cX4_count 20 = .ok (.ireturn, 1) := by decide +kernel
set_option maxRecDepth 20000 in
theorem ggX4_startAnew_X3_startAnew : GoodIn wsX4_startAnew wsX3_startAnew := goodIn_r _ [10, 11, 12, 13, 14, 15, 16, 17, 18, 19, 20, 21, 22, 23, 24, 25, 26, 27, 28, 29, 30, 31, 32, 33, 34, 35, 36, 37, 38, 39, 40, 41, 42, 43, 44, 45, 46, 47, 48, 49, 59, 60, 61, 62, 63, 64, 65, 66, 67, 68, 69, 70, 71, 72, 73, 74, 75, 76, 77, 78] (by decide +kernel) (by decide +kernel)
set_option maxRecDepth 20000 in
theorem gX4_startAnew_X3_startAnew : GoodIn wsX4_startAnew (wsV RX4 174 RX3 yX3_startAnew wsX3_startAnew) := goodIn_app (goodIn_of _ (by decide +kernel)) ggX4_startAnew_X3_startAnew
set_option maxRecDepth 20000 in
theorem ggX4_startAnew_J7_fill_53178 : GoodIn wsX4_startAnew wsJ7_fill_53178 := goodIn_r _ [52] (by decide +kernel) (by decide +kernel)
set_option maxRecDepth 20000 in
theorem gX4_startAnew_J7_fill_53178 : GoodIn wsX4_startAnew (va_wsS RX4 175 yJ7_fill_53178 wsJ7_fill_53178) := goodIn_app (goodIn_of _ (by decide +kernel)) ggX4_startAnew_J7_fill_53178
theorem dX4_startAnew_0 : decode cX4_startAnew 0 = .ok (.aload_n 0, 1) := by decide +kernel
theorem dX4_startAnew_1 : decode cX4_startAnew 1 = .ok (.iload_n 1, 1) := by decide +kernel
theorem dX4_startAnew_2 : decode cX4_startAnew 2 = .ok (.putfield 141, 3) := by decide +kernel
theorem dX4_startAnew_5 : decode cX4_startAnew 5 = .ok (.iconst 0, 1) := by decide +kernel
theorem dX4_startAnew_6 : decode cX4_startAnew 6 = .ok (.istore_n 2, 1) := by decide +kernel
theorem dX4_startAnew_7 : decode cX4_startAnew 7 = .ok (.iload_n 2, 1) := by decide +kernel
theorem dX4_startAnew_8 : decode cX4_startAnew 8 = .ok (.bipush 6, 2) := by decide +kernel
theorem dX4_startAnew_10 : decode cX4_startAnew 10 = .ok (.if_icmp .ge 19, 3) := by decide +kernel
theorem dX4_startAnew_13 : decode cX4_startAnew 13 = .ok (.aload_n 0, 1) := by decide +kernel
theorem dX4_startAnew_14 : decode cX4_startAnew 14 = .ok (.getfield 11, 3) := by decide +kernel
theorem dX4_startAnew_17 : decode cX4_startAnew 17 = .ok (.iload_n 2, 1) := by decide +kernel
theorem dX4_startAnew_18 : decode cX4_startAnew 18 = .ok (.aaload, 1) := by decide +kernel
theorem dX4_startAnew_19 : decode cX4_startAnew 19 = .ok (.iload_n 1, 1) := by decide +kernel
theorem dX4_startAnew_20 : decode cX4_startAnew 20 = .ok (.invokevirtual 174, 3) := by decide +kernel
theorem dX4_startAnew_23 : decode cX4_startAnew 23 = .ok (.iinc 2 1, 3) := by decide +kernel
theorem dX4_startAnew_26 : decode cX4_startAnew 26 = .ok (.goto (-19), 3) := by decide +kernel
theorem dX4_startAnew_29 : decode cX4_startAnew 29 = .ok (.aload_n 0, 1) := by decide +kernel
theorem dX4_startAnew_30 : decode cX4_startAnew 30 = .ok (.getfield 18, 3) := by decide +kernel
theorem dX4_startAnew_33 : decode cX4_startAnew 33 = .ok (.iconst 0, 1) := by decide +kernel
theorem dX4_startAnew_34 : decode cX4_startAnew 34 = .ok (.putfield 164, 3) := by decide +kernel
theorem dX4_startAnew_37 : decode cX4_startAnew 37 = .ok (.aload_n 0, 1) := by decide +kernel
theorem dX4_startAnew_38 : decode cX4_startAnew 38 = .ok (.getfield 22, 3) := by decide +kernel
theorem dX4_startAnew_41 : decode cX4_startAnew 41 = .ok (.iconst 0, 1) := by decide +kernel
theorem dX4_startAnew_42 : decode cX4_startAnew 42 = .ok (.invokestatic 175, 3) := by decide +kernel
theorem dX4_startAnew_45 : decode cX4_startAnew 45 = .ok (.aload_n 0, 1) := by decide +kernel
theorem dX4_startAnew_46 : decode cX4_startAnew 46 = .ok (.getfield 22, 3) := by decide +kernel
theorem dX4_startAnew_49 : decode cX4_startAnew 49 = .ok (.iconst 0, 1) := by decide +kernel
theorem dX4_startAnew_50 : decode cX4_startAnew 50 = .ok (.iload_n 1, 1) := by decide +kernel
theorem dX4_startAnew_51 : decode cX4_startAnew 51 = .ok (.iastore, 1) := by decide +kernel
theorem dX4_startAnew_52 : decode cX4_startAnew 52 = .ok (.return_, 1) := by decide +kernel
theorem dX4_isNode_0 : decode cX4_isNode 0 = .ok (.iload_n 1, 1) := by decide +kernel
theorem dX4_isNode_1 : decode cX4_isNode 1 = .ok (.ifCond .lt 15, 3) := by decide +kernel
theorem dX4_isNode_4 : decode cX4_isNode 4 = .ok (.iload_n 1, 1) := by decide +kernel
theorem dX4_isNode_5 : decode cX4_isNode 5 = .ok (.aload_n 0, 1) := by decide +kernel
theorem dX4_isNode_6 : decode cX4_isNode 6 = .ok (.getfield 141, 3) := by decide +kernel
theorem dX4_isNode_9 : decode cX4_isNode 9 = .ok (.if_icmp .ge 7, 3) := by decide +kernel
theorem dX4_isNode_12 : decode cX4_isNode 12 = .ok (.iconst 1, 1) := by decide +kernel
theorem dX4_isNode_13 : decode cX4_isNode 13 = .ok (.goto 4, 3) := by decide +kernel
theorem dX4_isNode_16 : decode cX4_isNode 16 = .ok (.iconst 0, 1) := by decide +kernel
theorem dX4_isNode_17 : decode cX4_isNode 17 = .ok (.ireturn, 1) := by decide +kernel
theorem dX4_isPage_0 : decode cX4_isPage 0 = .ok (.iload_n 0, 1) := by decide +kernel
theorem dX4_isPage_1 : decode cX4_isPage 1 = .ok (.ifCond .lt 13, 3) := by decide +kernel
theorem dX4_isPage_4 : decode cX4_isPage 4 = .ok (.iload_n 0, 1) := by decide +kernel
theorem dX4_isPage_5 : decode cX4_isPage 5 = .ok (.bipush 8, 2) := by decide +kernel
theorem dX4_isPage_7 : decode cX4_isPage 7 = .ok (.if_icmp .ge 7, 3) := by decide +kernel
theorem dX4_isPage_10 : decode cX4_isPage 10 = .ok (.iconst 1, 1) := by decide +kernel
theorem dX4_isPage_11 : decode cX4_isPage 11 = .ok (.goto 4, 3) := by decide +kernel
theorem dX4_isPage_14 : decode cX4_isPage 14 = .ok (.iconst 0, 1) := by decide +kernel
theorem dX4_isPage_15 : decode cX4_isPage 15 = .ok (.ireturn, 1) := by decide +kernel
theorem dX4_isWord_0 : decode cX4_isWord 0 = .ok (.iload_n 0, 1) := by decide +kernel
theorem dX4_isWord_1 : decode cX4_isWord 1 = .ok (.ifCond .lt 12, 3) := by decide +kernel
theorem dX4_isWord_4 : decode cX4_isWord 4 = .ok (.iload_n 0, 1) := by decide +kernel
theorem dX4_isWord_5 : decode cX4_isWord 5 = .ok (.iconst 4, 1) := by decide +kernel
theorem dX4_isWord_6 : decode cX4_isWord 6 = .ok (.if_icmp .ge 7, 3) := by decide +kernel
theorem dX4_isWord_9 : decode cX4_isWord 9 = .ok (.iconst 1, 1) := by decide +kernel
theorem dX4_isWord_10 : decode cX4_isWord 10 = .ok (.goto 4, 3) := by decide +kernel
theorem dX4_isWord_13 : decode cX4_isWord 13 = .ok (.iconst 0, 1) := by decide +kernel
theorem dX4_isWord_14 : decode cX4_isWord 14 = .ok (.ireturn, 1) := by decide +kernel
set_option maxRecDepth 20000 in
theorem ggX4_mayStart_X4_isNode : GoodIn wsX4_mayStart wsX4_isNode := goodIn_r _ [8, 9, 16, 17, 18, 19] (by decide +kernel) (by decide +kernel)
set_option maxRecDepth 20000 in
theorem gX4_mayStart_X4_isNode : GoodIn wsX4_mayStart (wsV RX4 114 RX4 yX4_isNode wsX4_isNode) := goodIn_app (goodIn_of _ (by decide +kernel)) ggX4_mayStart_X4_isNode
set_option maxRecDepth 20000 in
theorem ggX4_mayStart_X4_isPage : GoodIn wsX4_mayStart wsX4_isPage := goodIn_r _ [12] (by decide +kernel) (by decide +kernel)
set_option maxRecDepth 20000 in
theorem gX4_mayStart_X4_isPage : GoodIn wsX4_mayStart (va_wsS RX4 138 yX4_isPage wsX4_isPage) := goodIn_app (goodIn_of _ (by decide +kernel)) ggX4_mayStart_X4_isPage
set_option maxRecDepth 20000 in
theorem ggX4_mayStart_X4_isWord : GoodIn wsX4_mayStart wsX4_isWord := goodIn_r _ [15] (by decide +kernel) (by decide +kernel)
set_option maxRecDepth 20000 in
theorem gX4_mayStart_X4_isWord : GoodIn wsX4_mayStart (va_wsS RX4 150 yX4_isWord wsX4_isWord) := goodIn_app (goodIn_of _ (by decide +kernel)) ggX4_mayStart_X4_isWord
theorem dX4_mayStart_0 : decode cX4_mayStart 0 = .ok (.aload_n 0, 1) := by decide +kernel
theorem dX4_mayStart_1 : decode cX4_mayStart 1 = .ok (.iload_n 1, 1) := by decide +kernel
theorem dX4_mayStart_2 : decode cX4_mayStart 2 = .ok (.invokevirtual 114, 3) := by decide +kernel
theorem dX4_mayStart_5 : decode cX4_mayStart 5 = .ok (.ifCond .eq 36, 3) := by decide +kernel
theorem dX4_mayStart_8 : decode cX4_mayStart 8 = .ok (.iload_n 2, 1) := by decide +kernel
theorem dX4_mayStart_9 : decode cX4_mayStart 9 = .ok (.invokestatic 138, 3) := by decide +kernel
theorem dX4_mayStart_12 : decode cX4_mayStart 12 = .ok (.ifCond .eq 29, 3) := by decide +kernel
theorem dX4_mayStart_15 : decode cX4_mayStart 15 = .ok (.iload_n 3, 1) := by decide +kernel
theorem dX4_mayStart_16 : decode cX4_mayStart 16 = .ok (.invokestatic 150, 3) := by decide +kernel
theorem dX4_mayStart_19 : decode cX4_mayStart 19 = .ok (.ifCond .eq 22, 3) := by decide +kernel
theorem dX4_mayStart_22 : decode cX4_mayStart 22 = .ok (.aload_n 0, 1) := by decide +kernel
theorem dX4_mayStart_23 : decode cX4_mayStart 23 = .ok (.getfield 11, 3) := by decide +kernel
theorem dX4_mayStart_26 : decode cX4_mayStart 26 = .ok (.iload_n 1, 1) := by decide +kernel
theorem dX4_mayStart_27 : decode cX4_mayStart 27 = .ok (.aaload, 1) := by decide +kernel
theorem dX4_mayStart_28 : decode cX4_mayStart 28 = .ok (.getfield 36, 3) := by decide +kernel
theorem dX4_mayStart_31 : decode cX4_mayStart 31 = .ok (.getfield 117, 3) := by decide +kernel
theorem dX4_mayStart_34 : decode cX4_mayStart 34 = .ok (.ifCond .ne 7, 3) := by decide +kernel
theorem dX4_mayStart_37 : decode cX4_mayStart 37 = .ok (.iconst 1, 1) := by decide +kernel
theorem dX4_mayStart_38 : decode cX4_mayStart 38 = .ok (.goto 4, 3) := by decide +kernel
theorem dX4_mayStart_41 : decode cX4_mayStart 41 = .ok (.iconst 0, 1) := by decide +kernel
theorem dX4_mayStart_42 : decode cX4_mayStart 42 = .ok (.ireturn, 1) := by decide +kernel
theorem dX4_doneAtOnce_0 : decode cX4_doneAtOnce 0 = .ok (.aload_n 1, 1) := by decide +kernel
theorem dX4_doneAtOnce_1 : decode cX4_doneAtOnce 1 = .ok (.getfield 36, 3) := by decide +kernel
theorem dX4_doneAtOnce_4 : decode cX4_doneAtOnce 4 = .ok (.getfield 117, 3) := by decide +kernel
theorem dX4_doneAtOnce_7 : decode cX4_doneAtOnce 7 = .ok (.ifCond .eq 5, 3) := by decide +kernel
theorem dX4_doneAtOnce_10 : decode cX4_doneAtOnce 10 = .ok (.iconst 0, 1) := by decide +kernel
theorem dX4_doneAtOnce_11 : decode cX4_doneAtOnce 11 = .ok (.ireturn, 1) := by decide +kernel
theorem dX4_doneAtOnce_12 : decode cX4_doneAtOnce 12 = .ok (.aload_n 0, 1) := by decide +kernel
theorem dX4_doneAtOnce_13 : decode cX4_doneAtOnce 13 = .ok (.getfield 22, 3) := by decide +kernel
theorem dX4_doneAtOnce_16 : decode cX4_doneAtOnce 16 = .ok (.bipush 7, 2) := by decide +kernel
theorem dX4_doneAtOnce_18 : decode cX4_doneAtOnce 18 = .ok (.dup2, 1) := by decide +kernel
theorem dX4_doneAtOnce_19 : decode cX4_doneAtOnce 19 = .ok (.iaload, 1) := by decide +kernel
theorem dX4_doneAtOnce_20 : decode cX4_doneAtOnce 20 = .ok (.iconst 1, 1) := by decide +kernel
theorem dX4_doneAtOnce_21 : decode cX4_doneAtOnce 21 = .ok (.iadd, 1) := by decide +kernel
theorem dX4_doneAtOnce_22 : decode cX4_doneAtOnce 22 = .ok (.iastore, 1) := by decide +kernel
theorem dX4_doneAtOnce_23 : decode cX4_doneAtOnce 23 = .ok (.iconst 1, 1) := by decide +kernel
theorem dX4_doneAtOnce_24 : decode cX4_doneAtOnce 24 = .ok (.ireturn, 1) := by decide +kernel
set_option maxRecDepth 20000 in
theorem ggX4_ask_X4_send : GoodIn wsX4_ask wsX4_send := goodIn_r _ [11, 12, 13, 14, 15, 16, 17, 18, 19, 20, 21, 22, 23, 24, 25, 26, 27, 28, 29, 30, 58, 59, 60, 61, 62, 63, 51, 52, 53, 54, 55, 56, 57] (by decide +kernel) (by decide +kernel)
set_option maxRecDepth 20000 in
theorem gX4_ask_X4_send : GoodIn wsX4_ask (wsV RX4 184 RX4 yX4_send wsX4_send) := goodIn_app (goodIn_of _ (by decide +kernel)) ggX4_ask_X4_send
theorem dX4_ask_0 : decode cX4_ask 0 = .ok (.aload_n 1, 1) := by decide +kernel
theorem dX4_ask_1 : decode cX4_ask 1 = .ok (.getfield 36, 3) := by decide +kernel
theorem dX4_ask_4 : decode cX4_ask 4 = .ok (.getfield 127, 3) := by decide +kernel
theorem dX4_ask_7 : decode cX4_ask 7 = .ok (.istore 4, 2) := by decide +kernel
theorem dX4_ask_9 : decode cX4_ask 9 = .ok (.aload_n 1, 1) := by decide +kernel
theorem dX4_ask_10 : decode cX4_ask 10 = .ok (.getfield 36, 3) := by decide +kernel
theorem dX4_ask_13 : decode cX4_ask 13 = .ok (.iload_n 3, 1) := by decide +kernel
theorem dX4_ask_14 : decode cX4_ask 14 = .ok (.putfield 117, 3) := by decide +kernel
theorem dX4_ask_17 : decode cX4_ask 17 = .ok (.aload_n 0, 1) := by decide +kernel
theorem dX4_ask_18 : decode cX4_ask 18 = .ok (.iload_n 2, 1) := by decide +kernel
theorem dX4_ask_19 : decode cX4_ask 19 = .ok (.aload_n 1, 1) := by decide +kernel
theorem dX4_ask_20 : decode cX4_ask 20 = .ok (.getfield 181, 3) := by decide +kernel
theorem dX4_ask_23 : decode cX4_ask 23 = .ok (.aload_n 1, 1) := by decide +kernel
theorem dX4_ask_24 : decode cX4_ask 24 = .ok (.getfield 144, 3) := by decide +kernel
theorem dX4_ask_27 : decode cX4_ask 27 = .ok (.iload 4, 2) := by decide +kernel
theorem dX4_ask_29 : decode cX4_ask 29 = .ok (.iaload, 1) := by decide +kernel
theorem dX4_ask_30 : decode cX4_ask 30 = .ok (.iload 4, 2) := by decide +kernel
theorem dX4_ask_32 : decode cX4_ask 32 = .ok (.invokevirtual 184, 3) := by decide +kernel
theorem dX4_ask_35 : decode cX4_ask 35 = .ok (.aload_n 1, 1) := by decide +kernel
theorem dX4_ask_36 : decode cX4_ask 36 = .ok (.getfield 181, 3) := by decide +kernel
theorem dX4_ask_39 : decode cX4_ask 39 = .ok (.putfield 91, 3) := by decide +kernel
theorem dX4_ask_42 : decode cX4_ask 42 = .ok (.return_, 1) := by decide +kernel
set_option maxRecDepth 20000 in
theorem ggX4_send_X2_putIn : GoodIn wsX4_send wsX2_putIn := goodIn_r _ [7, 8, 9, 10, 11, 12, 13, 14, 15, 16, 17, 18, 19, 24, 25, 26, 27, 28, 29, 30, 31, 32] (by decide +kernel) (by decide +kernel)
set_option maxRecDepth 20000 in
theorem gX4_send_X2_putIn : GoodIn wsX4_send (wsV RX4 188 RX2 yX2_putIn wsX2_putIn) := goodIn_app (goodIn_of _ (by decide +kernel)) ggX4_send_X2_putIn
theorem dX4_send_0 : decode cX4_send 0 = .ok (.aload_n 0, 1) := by decide +kernel
theorem dX4_send_1 : decode cX4_send 1 = .ok (.getfield 22, 3) := by decide +kernel
theorem dX4_send_4 : decode cX4_send 4 = .ok (.iconst 1, 1) := by decide +kernel
theorem dX4_send_5 : decode cX4_send 5 = .ok (.dup2, 1) := by decide +kernel
theorem dX4_send_6 : decode cX4_send 6 = .ok (.iaload, 1) := by decide +kernel
theorem dX4_send_7 : decode cX4_send 7 = .ok (.iconst 1, 1) := by decide +kernel
theorem dX4_send_8 : decode cX4_send 8 = .ok (.iadd, 1) := by decide +kernel
theorem dX4_send_9 : decode cX4_send 9 = .ok (.iastore, 1) := by decide +kernel
theorem dX4_send_10 : decode cX4_send 10 = .ok (.aload_n 0, 1) := by decide +kernel
theorem dX4_send_11 : decode cX4_send 11 = .ok (.getfield 18, 3) := by decide +kernel
theorem dX4_send_14 : decode cX4_send 14 = .ok (.iload_n 1, 1) := by decide +kernel
theorem dX4_send_15 : decode cX4_send 15 = .ok (.iload_n 2, 1) := by decide +kernel
theorem dX4_send_16 : decode cX4_send 16 = .ok (.iload_n 3, 1) := by decide +kernel
theorem dX4_send_17 : decode cX4_send 17 = .ok (.iload 4, 2) := by decide +kernel
theorem dX4_send_19 : decode cX4_send 19 = .ok (.invokevirtual 188, 3) := by decide +kernel
theorem dX4_send_22 : decode cX4_send 22 = .ok (.areturn, 1) := by decide +kernel
set_option maxRecDepth 20000 in
theorem ggX4_finish_X3_doWhatIsAtHand : GoodIn wsX4_finish wsX3_doWhatIsAtHand := goodIn_r _ [6, 7, 8, 9, 10, 11, 12, 13, 14, 15, 20, 21, 22, 23, 24, 25, 26, 27, 28, 29, 30, 31, 32, 33, 34, 35, 36, 37, 38, 39] (by decide +kernel) (by decide +kernel)
set_option maxRecDepth 20000 in
theorem gX4_finish_X3_doWhatIsAtHand : GoodIn wsX4_finish (wsV RX4 191 RX3 yX3_doWhatIsAtHand wsX3_doWhatIsAtHand) := goodIn_app (goodIn_of _ (by decide +kernel)) ggX4_finish_X3_doWhatIsAtHand
theorem dX4_finish_0 : decode cX4_finish 0 = .ok (.aload_n 1, 1) := by decide +kernel
theorem dX4_finish_1 : decode cX4_finish 1 = .ok (.invokevirtual 191, 3) := by decide +kernel
theorem dX4_finish_4 : decode cX4_finish 4 = .ok (.aload_n 0, 1) := by decide +kernel
theorem dX4_finish_5 : decode cX4_finish 5 = .ok (.getfield 22, 3) := by decide +kernel
theorem dX4_finish_8 : decode cX4_finish 8 = .ok (.bipush 6, 2) := by decide +kernel
theorem dX4_finish_10 : decode cX4_finish 10 = .ok (.dup2, 1) := by decide +kernel
theorem dX4_finish_11 : decode cX4_finish 11 = .ok (.iaload, 1) := by decide +kernel
theorem dX4_finish_12 : decode cX4_finish 12 = .ok (.iconst 1, 1) := by decide +kernel
theorem dX4_finish_13 : decode cX4_finish 13 = .ok (.iadd, 1) := by decide +kernel
theorem dX4_finish_14 : decode cX4_finish 14 = .ok (.iastore, 1) := by decide +kernel
theorem dX4_finish_15 : decode cX4_finish 15 = .ok (.return_, 1) := by decide +kernel
set_option maxRecDepth 20000 in
theorem ggX4_callBack_X4_send : GoodIn wsX4_callBack wsX4_send := goodIn_r _ [13, 7, 14, 15, 16, 17, 18, 19, 20, 21, 22, 23, 24, 25, 26, 27, 28, 29, 30, 31, 52, 53, 54, 55, 56, 57, 58, 59, 60, 61, 62, 63, 64] (by decide +kernel) (by decide +kernel)
set_option maxRecDepth 20000 in
theorem gX4_callBack_X4_send : GoodIn wsX4_callBack (wsV RX4 184 RX4 yX4_send wsX4_send) := goodIn_app (goodIn_of _ (by decide +kernel)) ggX4_callBack_X4_send
theorem dX4_callBack_0 : decode cX4_callBack 0 = .ok (.aload_n 1, 1) := by decide +kernel
theorem dX4_callBack_1 : decode cX4_callBack 1 = .ok (.getfield 36, 3) := by decide +kernel
theorem dX4_callBack_4 : decode cX4_callBack 4 = .ok (.getfield 127, 3) := by decide +kernel
theorem dX4_callBack_7 : decode cX4_callBack 7 = .ok (.istore_n 2, 1) := by decide +kernel
theorem dX4_callBack_8 : decode cX4_callBack 8 = .ok (.aload_n 1, 1) := by decide +kernel
theorem dX4_callBack_9 : decode cX4_callBack 9 = .ok (.getfield 147, 3) := by decide +kernel
theorem dX4_callBack_12 : decode cX4_callBack 12 = .ok (.iload_n 2, 1) := by decide +kernel
theorem dX4_callBack_13 : decode cX4_callBack 13 = .ok (.iaload, 1) := by decide +kernel
theorem dX4_callBack_14 : decode cX4_callBack 14 = .ok (.istore_n 3, 1) := by decide +kernel
theorem dX4_callBack_15 : decode cX4_callBack 15 = .ok (.aload_n 1, 1) := by decide +kernel
theorem dX4_callBack_16 : decode cX4_callBack 16 = .ok (.getfield 147, 3) := by decide +kernel
theorem dX4_callBack_19 : decode cX4_callBack 19 = .ok (.iload_n 2, 1) := by decide +kernel
theorem dX4_callBack_20 : decode cX4_callBack 20 = .ok (.iconst 0, 1) := by decide +kernel
theorem dX4_callBack_21 : decode cX4_callBack 21 = .ok (.iastore, 1) := by decide +kernel
theorem dX4_callBack_22 : decode cX4_callBack 22 = .ok (.aload_n 1, 1) := by decide +kernel
theorem dX4_callBack_23 : decode cX4_callBack 23 = .ok (.getfield 36, 3) := by decide +kernel
theorem dX4_callBack_26 : decode cX4_callBack 26 = .ok (.iconst 3, 1) := by decide +kernel
theorem dX4_callBack_27 : decode cX4_callBack 27 = .ok (.putfield 117, 3) := by decide +kernel
theorem dX4_callBack_30 : decode cX4_callBack 30 = .ok (.iconst 0, 1) := by decide +kernel
theorem dX4_callBack_31 : decode cX4_callBack 31 = .ok (.istore 4, 2) := by decide +kernel
theorem dX4_callBack_33 : decode cX4_callBack 33 = .ok (.iload 4, 2) := by decide +kernel
theorem dX4_callBack_35 : decode cX4_callBack 35 = .ok (.aload_n 0, 1) := by decide +kernel
theorem dX4_callBack_36 : decode cX4_callBack 36 = .ok (.getfield 141, 3) := by decide +kernel
theorem dX4_callBack_39 : decode cX4_callBack 39 = .ok (.if_icmp .ge 55, 3) := by decide +kernel
theorem dX4_callBack_42 : decode cX4_callBack 42 = .ok (.iload_n 3, 1) := by decide +kernel
theorem dX4_callBack_43 : decode cX4_callBack 43 = .ok (.iload 4, 2) := by decide +kernel
theorem dX4_callBack_45 : decode cX4_callBack 45 = .ok (.ishr, 1) := by decide +kernel
theorem dX4_callBack_46 : decode cX4_callBack 46 = .ok (.iconst 1, 1) := by decide +kernel
theorem dX4_callBack_47 : decode cX4_callBack 47 = .ok (.iand, 1) := by decide +kernel
theorem dX4_callBack_48 : decode cX4_callBack 48 = .ok (.iconst 1, 1) := by decide +kernel
theorem dX4_callBack_49 : decode cX4_callBack 49 = .ok (.if_icmp .ne 39, 3) := by decide +kernel
theorem dX4_callBack_52 : decode cX4_callBack 52 = .ok (.aload_n 0, 1) := by decide +kernel
theorem dX4_callBack_53 : decode cX4_callBack 53 = .ok (.iconst 5, 1) := by decide +kernel
theorem dX4_callBack_54 : decode cX4_callBack 54 = .ok (.aload_n 1, 1) := by decide +kernel
theorem dX4_callBack_55 : decode cX4_callBack 55 = .ok (.getfield 181, 3) := by decide +kernel
theorem dX4_callBack_58 : decode cX4_callBack 58 = .ok (.iload 4, 2) := by decide +kernel
theorem dX4_callBack_60 : decode cX4_callBack 60 = .ok (.iload_n 2, 1) := by decide +kernel
theorem dX4_callBack_61 : decode cX4_callBack 61 = .ok (.invokevirtual 184, 3) := by decide +kernel
theorem dX4_callBack_64 : decode cX4_callBack 64 = .ok (.pop, 1) := by decide +kernel
theorem dX4_callBack_65 : decode cX4_callBack 65 = .ok (.aload_n 0, 1) := by decide +kernel
theorem dX4_callBack_66 : decode cX4_callBack 66 = .ok (.getfield 22, 3) := by decide +kernel
theorem dX4_callBack_69 : decode cX4_callBack 69 = .ok (.iconst 5, 1) := by decide +kernel
theorem dX4_callBack_70 : decode cX4_callBack 70 = .ok (.dup2, 1) := by decide +kernel
theorem dX4_callBack_71 : decode cX4_callBack 71 = .ok (.iaload, 1) := by decide +kernel
theorem dX4_callBack_72 : decode cX4_callBack 72 = .ok (.iconst 1, 1) := by decide +kernel
theorem dX4_callBack_73 : decode cX4_callBack 73 = .ok (.iadd, 1) := by decide +kernel
theorem dX4_callBack_74 : decode cX4_callBack 74 = .ok (.iastore, 1) := by decide +kernel
theorem dX4_callBack_75 : decode cX4_callBack 75 = .ok (.aload_n 1, 1) := by decide +kernel
theorem dX4_callBack_76 : decode cX4_callBack 76 = .ok (.getfield 36, 3) := by decide +kernel
theorem dX4_callBack_79 : decode cX4_callBack 79 = .ok (.dup, 1) := by decide +kernel
theorem dX4_callBack_80 : decode cX4_callBack 80 = .ok (.getfield 111, 3) := by decide +kernel
theorem dX4_callBack_83 : decode cX4_callBack 83 = .ok (.iconst 1, 1) := by decide +kernel
theorem dX4_callBack_84 : decode cX4_callBack 84 = .ok (.iadd, 1) := by decide +kernel
theorem dX4_callBack_85 : decode cX4_callBack 85 = .ok (.putfield 111, 3) := by decide +kernel
theorem dX4_callBack_88 : decode cX4_callBack 88 = .ok (.iinc 4 1, 3) := by decide +kernel
theorem dX4_callBack_91 : decode cX4_callBack 91 = .ok (.goto (-58), 3) := by decide +kernel
theorem dX4_callBack_94 : decode cX4_callBack 94 = .ok (.return_, 1) := by decide +kernel
set_option maxRecDepth 20000 in
theorem ggX4_finishIfAllAnswered_X4_finish : GoodIn wsX4_finishIfAllAnswered wsX4_finish := goodIn_r _ [10, 11, 12, 13, 14, 15, 16, 17, 18, 19, 20, 21, 22, 23, 24, 25, 117, 118, 119, 120, 97, 98, 99, 100, 101, 102, 103, 104, 105, 106, 107, 108, 109, 110, 111, 112, 113, 114, 115, 116] (by decide +kernel) (by decide +kernel)
set_option maxRecDepth 20000 in
theorem gX4_finishIfAllAnswered_X4_finish : GoodIn wsX4_finishIfAllAnswered (wsV RX4 53 RX4 yX4_finish wsX4_finish) := goodIn_app (goodIn_of _ (by decide +kernel)) ggX4_finishIfAllAnswered_X4_finish
set_option maxRecDepth 20000 in
theorem ggX4_finishIfAllAnswered_X4_goOverQueue : GoodIn wsX4_finishIfAllAnswered wsX4_goOverQueue := goodIn_r _ [29, 30, 31, 32, 33, 34, 35, 9, 36, 1, 37, 38, 39, 40, 41, 42, 43, 44, 45, 46, 47, 15, 48, 49, 50, 51, 52, 53, 54, 55, 56, 57, 58, 11, 59, 60, 61, 62, 63, 64, 65, 66, 67, 68, 69, 70, 71, 72, 73, 74, 75, 76, 77, 78, 79, 80, 81, 82, 83, 84, 85, 5, 86, 87, 88, 89, 90, 91, 92, 93, 94, 95, 96, 97, 98, 99, 100, 101, 102, 103, 104, 105, 106, 107, 108, 109, 110, 111, 112, 113, 114, 115, 116, 121, 122, 123, 124, 125, 126, 127, 117, 118, 119, 120, 128, 129] (by decide +kernel) (by decide +kernel)
set_option maxRecDepth 20000 in
theorem gX4_finishIfAllAnswered_X4_goOverQueue : GoodIn wsX4_finishIfAllAnswered (wsV RX4 194 RX4 yX4_goOverQueue wsX4_goOverQueue) := goodIn_app (goodIn_of _ (by decide +kernel)) ggX4_finishIfAllAnswered_X4_goOverQueue
theorem dX4_finishIfAllAnswered_0 : decode cX4_finishIfAllAnswered 0 = .ok (.aload_n 1, 1) := by decide +kernel
theorem dX4_finishIfAllAnswered_1 : decode cX4_finishIfAllAnswered 1 = .ok (.getfield 36, 3) := by decide +kernel
theorem dX4_finishIfAllAnswered_4 : decode cX4_finishIfAllAnswered 4 = .ok (.getfield 117, 3) := by decide +kernel
theorem dX4_finishIfAllAnswered_7 : decode cX4_finishIfAllAnswered 7 = .ok (.iconst 3, 1) := by decide +kernel
theorem dX4_finishIfAllAnswered_8 : decode cX4_finishIfAllAnswered 8 = .ok (.if_icmp .ne 13, 3) := by decide +kernel
theorem dX4_finishIfAllAnswered_11 : decode cX4_finishIfAllAnswered 11 = .ok (.aload_n 1, 1) := by decide +kernel
theorem dX4_finishIfAllAnswered_12 : decode cX4_finishIfAllAnswered 12 = .ok (.getfield 36, 3) := by decide +kernel
theorem dX4_finishIfAllAnswered_15 : decode cX4_finishIfAllAnswered 15 = .ok (.getfield 111, 3) := by decide +kernel
theorem dX4_finishIfAllAnswered_18 : decode cX4_finishIfAllAnswered 18 = .ok (.ifCond .le 4, 3) := by decide +kernel
theorem dX4_finishIfAllAnswered_21 : decode cX4_finishIfAllAnswered 21 = .ok (.return_, 1) := by decide +kernel
theorem dX4_finishIfAllAnswered_22 : decode cX4_finishIfAllAnswered 22 = .ok (.aload_n 1, 1) := by decide +kernel
theorem dX4_finishIfAllAnswered_23 : decode cX4_finishIfAllAnswered 23 = .ok (.getfield 36, 3) := by decide +kernel
theorem dX4_finishIfAllAnswered_26 : decode cX4_finishIfAllAnswered 26 = .ok (.getfield 127, 3) := by decide +kernel
theorem dX4_finishIfAllAnswered_29 : decode cX4_finishIfAllAnswered 29 = .ok (.istore_n 2, 1) := by decide +kernel
theorem dX4_finishIfAllAnswered_30 : decode cX4_finishIfAllAnswered 30 = .ok (.aload_n 1, 1) := by decide +kernel
theorem dX4_finishIfAllAnswered_31 : decode cX4_finishIfAllAnswered 31 = .ok (.getfield 46, 3) := by decide +kernel
theorem dX4_finishIfAllAnswered_34 : decode cX4_finishIfAllAnswered 34 = .ok (.iload_n 2, 1) := by decide +kernel
theorem dX4_finishIfAllAnswered_35 : decode cX4_finishIfAllAnswered 35 = .ok (.iconst 2, 1) := by decide +kernel
theorem dX4_finishIfAllAnswered_36 : decode cX4_finishIfAllAnswered 36 = .ok (.iastore, 1) := by decide +kernel
theorem dX4_finishIfAllAnswered_37 : decode cX4_finishIfAllAnswered 37 = .ok (.aload_n 0, 1) := by decide +kernel
theorem dX4_finishIfAllAnswered_38 : decode cX4_finishIfAllAnswered 38 = .ok (.aload_n 1, 1) := by decide +kernel
theorem dX4_finishIfAllAnswered_39 : decode cX4_finishIfAllAnswered 39 = .ok (.invokevirtual 53, 3) := by decide +kernel
theorem dX4_finishIfAllAnswered_42 : decode cX4_finishIfAllAnswered 42 = .ok (.aload_n 0, 1) := by decide +kernel
theorem dX4_finishIfAllAnswered_43 : decode cX4_finishIfAllAnswered 43 = .ok (.aload_n 1, 1) := by decide +kernel
theorem dX4_finishIfAllAnswered_44 : decode cX4_finishIfAllAnswered 44 = .ok (.iload_n 2, 1) := by decide +kernel
theorem dX4_finishIfAllAnswered_45 : decode cX4_finishIfAllAnswered 45 = .ok (.invokevirtual 194, 3) := by decide +kernel
theorem dX4_finishIfAllAnswered_48 : decode cX4_finishIfAllAnswered 48 = .ok (.return_, 1) := by decide +kernel
set_option maxRecDepth 20000 in
theorem ggX4_goOverQueue_X4_askingComes : GoodIn wsX4_goOverQueue wsX4_askingComes := goodIn_r _ [8, 9, 10, 11, 12, 13, 14, 15, 16, 17, 18, 19, 20, 21, 22, 23, 24, 25, 26, 27, 28, 7, 29, 30, 31, 32, 33, 34, 35, 36, 37, 38, 39, 40, 41, 42, 43, 44, 45, 46, 47, 48, 49, 50, 51, 52, 53, 54, 55, 56, 57, 58, 59, 60, 61, 62, 63, 64, 65, 66, 67, 68, 69, 70, 71, 72, 73, 74, 75, 76, 77, 78, 79, 80, 81, 82, 83, 84, 85, 86, 87, 88, 89, 90, 91, 92, 93, 94, 95, 96, 97, 98, 99, 100, 101, 102, 103, 104, 105] (by decide +kernel) (by decide +kernel)
set_option maxRecDepth 20000 in
theorem gX4_goOverQueue_X4_askingComes : GoodIn wsX4_goOverQueue (wsV RX4 94 RX4 yX4_askingComes wsX4_askingComes) := goodIn_app (goodIn_of _ (by decide +kernel)) ggX4_goOverQueue_X4_askingComes
theorem dX4_goOverQueue_0 : decode cX4_goOverQueue 0 = .ok (.aload_n 1, 1) := by decide +kernel
theorem dX4_goOverQueue_1 : decode cX4_goOverQueue 1 = .ok (.getfield 157, 3) := by decide +kernel
theorem dX4_goOverQueue_4 : decode cX4_goOverQueue 4 = .ok (.iload_n 2, 1) := by decide +kernel
theorem dX4_goOverQueue_5 : decode cX4_goOverQueue 5 = .ok (.iaload, 1) := by decide +kernel
theorem dX4_goOverQueue_6 : decode cX4_goOverQueue 6 = .ok (.istore_n 3, 1) := by decide +kernel
theorem dX4_goOverQueue_7 : decode cX4_goOverQueue 7 = .ok (.aload_n 1, 1) := by decide +kernel
theorem dX4_goOverQueue_8 : decode cX4_goOverQueue 8 = .ok (.getfield 157, 3) := by decide +kernel
theorem dX4_goOverQueue_11 : decode cX4_goOverQueue 11 = .ok (.iload_n 2, 1) := by decide +kernel
theorem dX4_goOverQueue_12 : decode cX4_goOverQueue 12 = .ok (.iconst 0, 1) := by decide +kernel
theorem dX4_goOverQueue_13 : decode cX4_goOverQueue 13 = .ok (.iastore, 1) := by decide +kernel
theorem dX4_goOverQueue_14 : decode cX4_goOverQueue 14 = .ok (.iload_n 2, 1) := by decide +kernel
theorem dX4_goOverQueue_15 : decode cX4_goOverQueue 15 = .ok (.bipush 6, 2) := by decide +kernel
theorem dX4_goOverQueue_17 : decode cX4_goOverQueue 17 = .ok (.imul, 1) := by decide +kernel
theorem dX4_goOverQueue_18 : decode cX4_goOverQueue 18 = .ok (.istore 4, 2) := by decide +kernel
theorem dX4_goOverQueue_20 : decode cX4_goOverQueue 20 = .ok (.iload 4, 2) := by decide +kernel
theorem dX4_goOverQueue_22 : decode cX4_goOverQueue 22 = .ok (.istore 5, 2) := by decide +kernel
theorem dX4_goOverQueue_24 : decode cX4_goOverQueue 24 = .ok (.iload 5, 2) := by decide +kernel
theorem dX4_goOverQueue_26 : decode cX4_goOverQueue 26 = .ok (.iload 4, 2) := by decide +kernel
theorem dX4_goOverQueue_28 : decode cX4_goOverQueue 28 = .ok (.iload_n 3, 1) := by decide +kernel
theorem dX4_goOverQueue_29 : decode cX4_goOverQueue 29 = .ok (.iadd, 1) := by decide +kernel
theorem dX4_goOverQueue_30 : decode cX4_goOverQueue 30 = .ok (.if_icmp .ge 29, 3) := by decide +kernel
theorem dX4_goOverQueue_33 : decode cX4_goOverQueue 33 = .ok (.aload_n 0, 1) := by decide +kernel
theorem dX4_goOverQueue_34 : decode cX4_goOverQueue 34 = .ok (.aload_n 1, 1) := by decide +kernel
theorem dX4_goOverQueue_35 : decode cX4_goOverQueue 35 = .ok (.aload_n 1, 1) := by decide +kernel
theorem dX4_goOverQueue_36 : decode cX4_goOverQueue 36 = .ok (.getfield 198, 3) := by decide +kernel
theorem dX4_goOverQueue_39 : decode cX4_goOverQueue 39 = .ok (.iload 5, 2) := by decide +kernel
theorem dX4_goOverQueue_41 : decode cX4_goOverQueue 41 = .ok (.iaload, 1) := by decide +kernel
theorem dX4_goOverQueue_42 : decode cX4_goOverQueue 42 = .ok (.iload_n 2, 1) := by decide +kernel
theorem dX4_goOverQueue_43 : decode cX4_goOverQueue 43 = .ok (.aload_n 1, 1) := by decide +kernel
theorem dX4_goOverQueue_44 : decode cX4_goOverQueue 44 = .ok (.getfield 201, 3) := by decide +kernel
theorem dX4_goOverQueue_47 : decode cX4_goOverQueue 47 = .ok (.iload 5, 2) := by decide +kernel
theorem dX4_goOverQueue_49 : decode cX4_goOverQueue 49 = .ok (.iaload, 1) := by decide +kernel
theorem dX4_goOverQueue_50 : decode cX4_goOverQueue 50 = .ok (.invokevirtual 94, 3) := by decide +kernel
theorem dX4_goOverQueue_53 : decode cX4_goOverQueue 53 = .ok (.iinc 5 1, 3) := by decide +kernel
theorem dX4_goOverQueue_56 : decode cX4_goOverQueue 56 = .ok (.goto (-32), 3) := by decide +kernel
theorem dX4_goOverQueue_59 : decode cX4_goOverQueue 59 = .ok (.return_, 1) := by decide +kernel
set_option maxRecDepth 20000 in
theorem ggX4_askingComes_X0_awaits : GoodIn wsX4_askingComes wsX0_awaits := goodIn_r _ [7, 8, 9, 76, 77, 78, 79, 80, 81, 82, 83, 84, 85] (by decide +kernel) (by decide +kernel)
set_option maxRecDepth 20000 in
theorem gX4_askingComes_X0_awaits : GoodIn wsX4_askingComes (wsV RX4 204 RX0 yX0_awaits wsX0_awaits) := goodIn_app (goodIn_of _ (by decide +kernel)) ggX4_askingComes_X0_awaits
set_option maxRecDepth 20000 in
theorem ggX4_askingComes_X3_putInQueue : GoodIn wsX4_askingComes wsX3_putInQueue := goodIn_r _ [14, 15, 16, 17, 66, 67, 68, 69, 70, 71, 72, 73, 74, 75] (by decide +kernel) (by decide +kernel)
set_option maxRecDepth 20000 in
theorem gX4_askingComes_X3_putInQueue : GoodIn wsX4_askingComes (wsV RX4 208 RX3 yX3_putInQueue wsX3_putInQueue) := goodIn_app (goodIn_of _ (by decide +kernel)) ggX4_askingComes_X3_putInQueue
set_option maxRecDepth 20000 in
theorem ggX4_askingComes_X4_sendOn : GoodIn wsX4_askingComes wsX4_sendOn := goodIn_r _ [22, 23, 24, 25, 26, 27, 28, 29, 21, 30, 31, 32, 33, 34, 35, 36, 37, 38, 39, 40, 41, 42, 43, 44, 45, 46, 47, 48, 66, 67, 68, 69, 70, 71, 72, 73, 74, 75, 86, 87, 88, 89, 90, 91, 92, 93, 94, 95, 96, 97, 98] (by decide +kernel) (by decide +kernel)
set_option maxRecDepth 20000 in
theorem gX4_askingComes_X4_sendOn : GoodIn wsX4_askingComes (wsV RX4 212 RX4 yX4_sendOn wsX4_sendOn) := goodIn_app (goodIn_of _ (by decide +kernel)) ggX4_askingComes_X4_sendOn
set_option maxRecDepth 20000 in
theorem ggX4_askingComes_X4_giveToRead : GoodIn wsX4_askingComes wsX4_giveToRead := goodIn_r _ [52, 53, 54, 23, 55, 56, 57, 58, 59, 60, 26, 27, 28, 29, 21, 30, 31, 32, 33, 34, 35, 36, 37, 38, 39, 40, 41, 42, 43, 44, 45, 46, 47, 48, 66, 67, 68, 69, 70, 71, 72, 73, 74, 75, 86, 87, 88, 89, 90, 91, 92, 93, 94, 95, 96, 97, 98] (by decide +kernel) (by decide +kernel)
set_option maxRecDepth 20000 in
theorem gX4_askingComes_X4_giveToRead : GoodIn wsX4_askingComes (wsV RX4 215 RX4 yX4_giveToRead wsX4_giveToRead) := goodIn_app (goodIn_of _ (by decide +kernel)) ggX4_askingComes_X4_giveToRead
set_option maxRecDepth 20000 in
theorem ggX4_askingComes_X4_giveToWrite : GoodIn wsX4_askingComes wsX4_giveToWrite := goodIn_r _ [64, 23, 55, 56, 57, 58, 59, 60, 53, 65, 26, 2, 54, 24, 27, 28, 29, 21, 30, 31, 32, 33, 34, 35, 36, 37, 38, 39, 40, 41, 42, 43, 44, 45, 46, 47, 48, 66, 67, 68, 69, 70, 71, 72, 73, 74, 75, 86, 87, 88, 89, 90, 91, 92, 93, 94, 95, 96, 97, 98] (by decide +kernel) (by decide +kernel)
set_option maxRecDepth 20000 in
theorem gX4_askingComes_X4_giveToWrite : GoodIn wsX4_askingComes (wsV RX4 218 RX4 yX4_giveToWrite wsX4_giveToWrite) := goodIn_app (goodIn_of _ (by decide +kernel)) ggX4_askingComes_X4_giveToWrite
theorem dX4_askingComes_0 : decode cX4_askingComes 0 = .ok (.aload_n 1, 1) := by decide +kernel
theorem dX4_askingComes_1 : decode cX4_askingComes 1 = .ok (.getfield 36, 3) := by decide +kernel
theorem dX4_askingComes_4 : decode cX4_askingComes 4 = .ok (.iconst 2, 1) := by decide +kernel
theorem dX4_askingComes_5 : decode cX4_askingComes 5 = .ok (.iload_n 3, 1) := by decide +kernel
theorem dX4_askingComes_6 : decode cX4_askingComes 6 = .ok (.invokevirtual 204, 3) := by decide +kernel
theorem dX4_askingComes_9 : decode cX4_askingComes 9 = .ok (.ifCond .ne 15, 3) := by decide +kernel
theorem dX4_askingComes_12 : decode cX4_askingComes 12 = .ok (.aload_n 1, 1) := by decide +kernel
theorem dX4_askingComes_13 : decode cX4_askingComes 13 = .ok (.getfield 36, 3) := by decide +kernel
theorem dX4_askingComes_16 : decode cX4_askingComes 16 = .ok (.iconst 3, 1) := by decide +kernel
theorem dX4_askingComes_17 : decode cX4_askingComes 17 = .ok (.iload_n 3, 1) := by decide +kernel
theorem dX4_askingComes_18 : decode cX4_askingComes 18 = .ok (.invokevirtual 204, 3) := by decide +kernel
theorem dX4_askingComes_21 : decode cX4_askingComes 21 = .ok (.ifCond .eq 14, 3) := by decide +kernel
theorem dX4_askingComes_24 : decode cX4_askingComes 24 = .ok (.aload_n 1, 1) := by decide +kernel
theorem dX4_askingComes_25 : decode cX4_askingComes 25 = .ok (.iload_n 2, 1) := by decide +kernel
theorem dX4_askingComes_26 : decode cX4_askingComes 26 = .ok (.iload_n 3, 1) := by decide +kernel
theorem dX4_askingComes_27 : decode cX4_askingComes 27 = .ok (.iload 4, 2) := by decide +kernel
theorem dX4_askingComes_29 : decode cX4_askingComes 29 = .ok (.invokevirtual 208, 3) := by decide +kernel
theorem dX4_askingComes_32 : decode cX4_askingComes 32 = .ok (.goto 48, 3) := by decide +kernel
theorem dX4_askingComes_35 : decode cX4_askingComes 35 = .ok (.aload_n 1, 1) := by decide +kernel
theorem dX4_askingComes_36 : decode cX4_askingComes 36 = .ok (.getfield 61, 3) := by decide +kernel
theorem dX4_askingComes_39 : decode cX4_askingComes 39 = .ok (.iload_n 3, 1) := by decide +kernel
theorem dX4_askingComes_40 : decode cX4_askingComes 40 = .ok (.baload, 1) := by decide +kernel
theorem dX4_askingComes_41 : decode cX4_askingComes 41 = .ok (.ifCond .ne 15, 3) := by decide +kernel
theorem dX4_askingComes_44 : decode cX4_askingComes 44 = .ok (.aload_n 0, 1) := by decide +kernel
theorem dX4_askingComes_45 : decode cX4_askingComes 45 = .ok (.aload_n 1, 1) := by decide +kernel
theorem dX4_askingComes_46 : decode cX4_askingComes 46 = .ok (.iload_n 2, 1) := by decide +kernel
theorem dX4_askingComes_47 : decode cX4_askingComes 47 = .ok (.iload_n 3, 1) := by decide +kernel
theorem dX4_askingComes_48 : decode cX4_askingComes 48 = .ok (.iload 4, 2) := by decide +kernel
theorem dX4_askingComes_50 : decode cX4_askingComes 50 = .ok (.invokevirtual 212, 3) := by decide +kernel
theorem dX4_askingComes_53 : decode cX4_askingComes 53 = .ok (.goto 27, 3) := by decide +kernel
theorem dX4_askingComes_56 : decode cX4_askingComes 56 = .ok (.iload_n 2, 1) := by decide +kernel
theorem dX4_askingComes_57 : decode cX4_askingComes 57 = .ok (.iconst 1, 1) := by decide +kernel
theorem dX4_askingComes_58 : decode cX4_askingComes 58 = .ok (.if_icmp .ne 14, 3) := by decide +kernel
theorem dX4_askingComes_61 : decode cX4_askingComes 61 = .ok (.aload_n 0, 1) := by decide +kernel
theorem dX4_askingComes_62 : decode cX4_askingComes 62 = .ok (.aload_n 1, 1) := by decide +kernel
theorem dX4_askingComes_63 : decode cX4_askingComes 63 = .ok (.iload_n 3, 1) := by decide +kernel
theorem dX4_askingComes_64 : decode cX4_askingComes 64 = .ok (.iload 4, 2) := by decide +kernel
theorem dX4_askingComes_66 : decode cX4_askingComes 66 = .ok (.invokevirtual 215, 3) := by decide +kernel
theorem dX4_askingComes_69 : decode cX4_askingComes 69 = .ok (.goto 11, 3) := by decide +kernel
theorem dX4_askingComes_72 : decode cX4_askingComes 72 = .ok (.aload_n 0, 1) := by decide +kernel
theorem dX4_askingComes_73 : decode cX4_askingComes 73 = .ok (.aload_n 1, 1) := by decide +kernel
theorem dX4_askingComes_74 : decode cX4_askingComes 74 = .ok (.iload_n 3, 1) := by decide +kernel
theorem dX4_askingComes_75 : decode cX4_askingComes 75 = .ok (.iload 4, 2) := by decide +kernel
theorem dX4_askingComes_77 : decode cX4_askingComes 77 = .ok (.invokevirtual 218, 3) := by decide +kernel
theorem dX4_askingComes_80 : decode cX4_askingComes 80 = .ok (.return_, 1) := by decide +kernel
set_option maxRecDepth 20000 in
theorem ggX4_sendOn_X4_send : GoodIn wsX4_sendOn wsX4_send := goodIn_r _ [9, 4, 10, 11, 12, 13, 14, 15, 16, 17, 18, 19, 20, 21, 22, 23, 24, 25, 26, 27, 45, 46, 47, 48, 49, 50, 38, 39, 40, 41, 42, 43, 44] (by decide +kernel) (by decide +kernel)
set_option maxRecDepth 20000 in
theorem gX4_sendOn_X4_send : GoodIn wsX4_sendOn (wsV RX4 184 RX4 yX4_send wsX4_send) := goodIn_app (goodIn_of _ (by decide +kernel)) ggX4_sendOn_X4_send
theorem dX4_sendOn_0 : decode cX4_sendOn 0 = .ok (.aload_n 0, 1) := by decide +kernel
theorem dX4_sendOn_1 : decode cX4_sendOn 1 = .ok (.iload_n 2, 1) := by decide +kernel
theorem dX4_sendOn_2 : decode cX4_sendOn 2 = .ok (.aload_n 1, 1) := by decide +kernel
theorem dX4_sendOn_3 : decode cX4_sendOn 3 = .ok (.getfield 181, 3) := by decide +kernel
theorem dX4_sendOn_6 : decode cX4_sendOn 6 = .ok (.aload_n 1, 1) := by decide +kernel
theorem dX4_sendOn_7 : decode cX4_sendOn 7 = .ok (.getfield 144, 3) := by decide +kernel
theorem dX4_sendOn_10 : decode cX4_sendOn 10 = .ok (.iload_n 3, 1) := by decide +kernel
theorem dX4_sendOn_11 : decode cX4_sendOn 11 = .ok (.iaload, 1) := by decide +kernel
theorem dX4_sendOn_12 : decode cX4_sendOn 12 = .ok (.iload_n 3, 1) := by decide +kernel
theorem dX4_sendOn_13 : decode cX4_sendOn 13 = .ok (.invokevirtual 184, 3) := by decide +kernel
theorem dX4_sendOn_16 : decode cX4_sendOn 16 = .ok (.iload 4, 2) := by decide +kernel
theorem dX4_sendOn_18 : decode cX4_sendOn 18 = .ok (.putfield 91, 3) := by decide +kernel
theorem dX4_sendOn_21 : decode cX4_sendOn 21 = .ok (.aload_n 0, 1) := by decide +kernel
theorem dX4_sendOn_22 : decode cX4_sendOn 22 = .ok (.getfield 22, 3) := by decide +kernel
theorem dX4_sendOn_25 : decode cX4_sendOn 25 = .ok (.iconst 2, 1) := by decide +kernel
theorem dX4_sendOn_26 : decode cX4_sendOn 26 = .ok (.dup2, 1) := by decide +kernel
theorem dX4_sendOn_27 : decode cX4_sendOn 27 = .ok (.iaload, 1) := by decide +kernel
theorem dX4_sendOn_28 : decode cX4_sendOn 28 = .ok (.iconst 1, 1) := by decide +kernel
theorem dX4_sendOn_29 : decode cX4_sendOn 29 = .ok (.iadd, 1) := by decide +kernel
theorem dX4_sendOn_30 : decode cX4_sendOn 30 = .ok (.iastore, 1) := by decide +kernel
theorem dX4_sendOn_31 : decode cX4_sendOn 31 = .ok (.iload_n 2, 1) := by decide +kernel
theorem dX4_sendOn_32 : decode cX4_sendOn 32 = .ok (.iconst 2, 1) := by decide +kernel
theorem dX4_sendOn_33 : decode cX4_sendOn 33 = .ok (.if_icmp .ne 11, 3) := by decide +kernel
theorem dX4_sendOn_36 : decode cX4_sendOn 36 = .ok (.aload_n 1, 1) := by decide +kernel
theorem dX4_sendOn_37 : decode cX4_sendOn 37 = .ok (.getfield 144, 3) := by decide +kernel
theorem dX4_sendOn_40 : decode cX4_sendOn 40 = .ok (.iload_n 3, 1) := by decide +kernel
theorem dX4_sendOn_41 : decode cX4_sendOn 41 = .ok (.iload 4, 2) := by decide +kernel
theorem dX4_sendOn_43 : decode cX4_sendOn 43 = .ok (.iastore, 1) := by decide +kernel
theorem dX4_sendOn_44 : decode cX4_sendOn 44 = .ok (.return_, 1) := by decide +kernel
set_option maxRecDepth 20000 in
theorem ggX4_giveToRead_X4_send : GoodIn wsX4_giveToRead wsX4_send := goodIn_r _ [15, 10, 16, 17, 18, 19, 20, 21, 22, 23, 24, 25, 26, 27, 28, 29, 30, 31, 32, 33, 51, 52, 53, 54, 55, 56, 44, 45, 46, 47, 48, 49, 50] (by decide +kernel) (by decide +kernel)
set_option maxRecDepth 20000 in
theorem gX4_giveToRead_X4_send : GoodIn wsX4_giveToRead (wsV RX4 184 RX4 yX4_send wsX4_send) := goodIn_app (goodIn_of _ (by decide +kernel)) ggX4_giveToRead_X4_send
theorem dX4_giveToRead_0 : decode cX4_giveToRead 0 = .ok (.aload_n 1, 1) := by decide +kernel
theorem dX4_giveToRead_1 : decode cX4_giveToRead 1 = .ok (.getfield 147, 3) := by decide +kernel
theorem dX4_giveToRead_4 : decode cX4_giveToRead 4 = .ok (.iload_n 2, 1) := by decide +kernel
theorem dX4_giveToRead_5 : decode cX4_giveToRead 5 = .ok (.dup2, 1) := by decide +kernel
theorem dX4_giveToRead_6 : decode cX4_giveToRead 6 = .ok (.iaload, 1) := by decide +kernel
theorem dX4_giveToRead_7 : decode cX4_giveToRead 7 = .ok (.iconst 1, 1) := by decide +kernel
theorem dX4_giveToRead_8 : decode cX4_giveToRead 8 = .ok (.iload_n 3, 1) := by decide +kernel
theorem dX4_giveToRead_9 : decode cX4_giveToRead 9 = .ok (.ishl, 1) := by decide +kernel
theorem dX4_giveToRead_10 : decode cX4_giveToRead 10 = .ok (.ior, 1) := by decide +kernel
theorem dX4_giveToRead_11 : decode cX4_giveToRead 11 = .ok (.iastore, 1) := by decide +kernel
theorem dX4_giveToRead_12 : decode cX4_giveToRead 12 = .ok (.aload_n 1, 1) := by decide +kernel
theorem dX4_giveToRead_13 : decode cX4_giveToRead 13 = .ok (.getfield 46, 3) := by decide +kernel
theorem dX4_giveToRead_16 : decode cX4_giveToRead 16 = .ok (.iload_n 2, 1) := by decide +kernel
theorem dX4_giveToRead_17 : decode cX4_giveToRead 17 = .ok (.iconst 1, 1) := by decide +kernel
theorem dX4_giveToRead_18 : decode cX4_giveToRead 18 = .ok (.iastore, 1) := by decide +kernel
theorem dX4_giveToRead_19 : decode cX4_giveToRead 19 = .ok (.aload_n 0, 1) := by decide +kernel
theorem dX4_giveToRead_20 : decode cX4_giveToRead 20 = .ok (.iconst 3, 1) := by decide +kernel
theorem dX4_giveToRead_21 : decode cX4_giveToRead 21 = .ok (.aload_n 1, 1) := by decide +kernel
theorem dX4_giveToRead_22 : decode cX4_giveToRead 22 = .ok (.getfield 181, 3) := by decide +kernel
theorem dX4_giveToRead_25 : decode cX4_giveToRead 25 = .ok (.iload_n 3, 1) := by decide +kernel
theorem dX4_giveToRead_26 : decode cX4_giveToRead 26 = .ok (.iload_n 2, 1) := by decide +kernel
theorem dX4_giveToRead_27 : decode cX4_giveToRead 27 = .ok (.invokevirtual 184, 3) := by decide +kernel
theorem dX4_giveToRead_30 : decode cX4_giveToRead 30 = .ok (.astore 4, 2) := by decide +kernel
theorem dX4_giveToRead_32 : decode cX4_giveToRead 32 = .ok (.aload_n 1, 1) := by decide +kernel
theorem dX4_giveToRead_33 : decode cX4_giveToRead 33 = .ok (.getfield 153, 3) := by decide +kernel
theorem dX4_giveToRead_36 : decode cX4_giveToRead 36 = .ok (.iload_n 2, 1) := by decide +kernel
theorem dX4_giveToRead_37 : decode cX4_giveToRead 37 = .ok (.iconst 4, 1) := by decide +kernel
theorem dX4_giveToRead_38 : decode cX4_giveToRead 38 = .ok (.imul, 1) := by decide +kernel
theorem dX4_giveToRead_39 : decode cX4_giveToRead 39 = .ok (.aload 4, 2) := by decide +kernel
theorem dX4_giveToRead_41 : decode cX4_giveToRead 41 = .ok (.getfield 173, 3) := by decide +kernel
theorem dX4_giveToRead_44 : decode cX4_giveToRead 44 = .ok (.iconst 0, 1) := by decide +kernel
theorem dX4_giveToRead_45 : decode cX4_giveToRead 45 = .ok (.iconst 4, 1) := by decide +kernel
theorem dX4_giveToRead_46 : decode cX4_giveToRead 46 = .ok (.invokestatic 221, 3) := by decide +kernel
theorem dX4_giveToRead_49 : decode cX4_giveToRead 49 = .ok (.aload_n 0, 1) := by decide +kernel
theorem dX4_giveToRead_50 : decode cX4_giveToRead 50 = .ok (.getfield 22, 3) := by decide +kernel
theorem dX4_giveToRead_53 : decode cX4_giveToRead 53 = .ok (.iconst 3, 1) := by decide +kernel
theorem dX4_giveToRead_54 : decode cX4_giveToRead 54 = .ok (.dup2, 1) := by decide +kernel
theorem dX4_giveToRead_55 : decode cX4_giveToRead 55 = .ok (.iaload, 1) := by decide +kernel
theorem dX4_giveToRead_56 : decode cX4_giveToRead 56 = .ok (.iconst 1, 1) := by decide +kernel
theorem dX4_giveToRead_57 : decode cX4_giveToRead 57 = .ok (.iadd, 1) := by decide +kernel
theorem dX4_giveToRead_58 : decode cX4_giveToRead 58 = .ok (.iastore, 1) := by decide +kernel
theorem dX4_giveToRead_59 : decode cX4_giveToRead 59 = .ok (.return_, 1) := by decide +kernel
set_option maxRecDepth 20000 in
theorem ggX4_giveToWrite_X4_send : GoodIn wsX4_giveToWrite wsX4_send := goodIn_r _ [18, 10, 19, 20, 21, 22, 23, 24, 25, 26, 27, 28, 29, 30, 31, 32, 33, 34, 35, 36, 54, 55, 56, 57, 58, 59, 47, 48, 49, 50, 51, 52, 53] (by decide +kernel) (by decide +kernel)
set_option maxRecDepth 20000 in
theorem gX4_giveToWrite_X4_send : GoodIn wsX4_giveToWrite (wsV RX4 184 RX4 yX4_send wsX4_send) := goodIn_app (goodIn_of _ (by decide +kernel)) ggX4_giveToWrite_X4_send
theorem dX4_giveToWrite_0 : decode cX4_giveToWrite 0 = .ok (.aload_n 0, 1) := by decide +kernel
theorem dX4_giveToWrite_1 : decode cX4_giveToWrite 1 = .ok (.iconst 4, 1) := by decide +kernel
theorem dX4_giveToWrite_2 : decode cX4_giveToWrite 2 = .ok (.aload_n 1, 1) := by decide +kernel
theorem dX4_giveToWrite_3 : decode cX4_giveToWrite 3 = .ok (.getfield 181, 3) := by decide +kernel
theorem dX4_giveToWrite_6 : decode cX4_giveToWrite 6 = .ok (.iload_n 3, 1) := by decide +kernel
theorem dX4_giveToWrite_7 : decode cX4_giveToWrite 7 = .ok (.iload_n 2, 1) := by decide +kernel
theorem dX4_giveToWrite_8 : decode cX4_giveToWrite 8 = .ok (.invokevirtual 184, 3) := by decide +kernel
theorem dX4_giveToWrite_11 : decode cX4_giveToWrite 11 = .ok (.astore 4, 2) := by decide +kernel
theorem dX4_giveToWrite_13 : decode cX4_giveToWrite 13 = .ok (.aload_n 1, 1) := by decide +kernel
theorem dX4_giveToWrite_14 : decode cX4_giveToWrite 14 = .ok (.getfield 153, 3) := by decide +kernel
theorem dX4_giveToWrite_17 : decode cX4_giveToWrite 17 = .ok (.iload_n 2, 1) := by decide +kernel
theorem dX4_giveToWrite_18 : decode cX4_giveToWrite 18 = .ok (.iconst 4, 1) := by decide +kernel
theorem dX4_giveToWrite_19 : decode cX4_giveToWrite 19 = .ok (.imul, 1) := by decide +kernel
theorem dX4_giveToWrite_20 : decode cX4_giveToWrite 20 = .ok (.aload 4, 2) := by decide +kernel
theorem dX4_giveToWrite_22 : decode cX4_giveToWrite 22 = .ok (.getfield 173, 3) := by decide +kernel
theorem dX4_giveToWrite_25 : decode cX4_giveToWrite 25 = .ok (.iconst 0, 1) := by decide +kernel
theorem dX4_giveToWrite_26 : decode cX4_giveToWrite 26 = .ok (.iconst 4, 1) := by decide +kernel
theorem dX4_giveToWrite_27 : decode cX4_giveToWrite 27 = .ok (.invokestatic 221, 3) := by decide +kernel
theorem dX4_giveToWrite_30 : decode cX4_giveToWrite 30 = .ok (.aload 4, 2) := by decide +kernel
theorem dX4_giveToWrite_32 : decode cX4_giveToWrite 32 = .ok (.aload_n 1, 1) := by decide +kernel
theorem dX4_giveToWrite_33 : decode cX4_giveToWrite 33 = .ok (.getfield 147, 3) := by decide +kernel
theorem dX4_giveToWrite_36 : decode cX4_giveToWrite 36 = .ok (.iload_n 2, 1) := by decide +kernel
theorem dX4_giveToWrite_37 : decode cX4_giveToWrite 37 = .ok (.iaload, 1) := by decide +kernel
theorem dX4_giveToWrite_38 : decode cX4_giveToWrite 38 = .ok (.putfield 171, 3) := by decide +kernel
theorem dX4_giveToWrite_41 : decode cX4_giveToWrite 41 = .ok (.aload_n 0, 1) := by decide +kernel
theorem dX4_giveToWrite_42 : decode cX4_giveToWrite 42 = .ok (.getfield 22, 3) := by decide +kernel
theorem dX4_giveToWrite_45 : decode cX4_giveToWrite 45 = .ok (.iconst 4, 1) := by decide +kernel
theorem dX4_giveToWrite_46 : decode cX4_giveToWrite 46 = .ok (.dup2, 1) := by decide +kernel
theorem dX4_giveToWrite_47 : decode cX4_giveToWrite 47 = .ok (.iaload, 1) := by decide +kernel
theorem dX4_giveToWrite_48 : decode cX4_giveToWrite 48 = .ok (.iconst 1, 1) := by decide +kernel
theorem dX4_giveToWrite_49 : decode cX4_giveToWrite 49 = .ok (.iadd, 1) := by decide +kernel
theorem dX4_giveToWrite_50 : decode cX4_giveToWrite 50 = .ok (.iastore, 1) := by decide +kernel
theorem dX4_giveToWrite_51 : decode cX4_giveToWrite 51 = .ok (.aload_n 1, 1) := by decide +kernel
theorem dX4_giveToWrite_52 : decode cX4_giveToWrite 52 = .ok (.getfield 147, 3) := by decide +kernel
theorem dX4_giveToWrite_55 : decode cX4_giveToWrite 55 = .ok (.iload_n 2, 1) := by decide +kernel
theorem dX4_giveToWrite_56 : decode cX4_giveToWrite 56 = .ok (.iconst 0, 1) := by decide +kernel
theorem dX4_giveToWrite_57 : decode cX4_giveToWrite 57 = .ok (.iastore, 1) := by decide +kernel
theorem dX4_giveToWrite_58 : decode cX4_giveToWrite 58 = .ok (.aload_n 1, 1) := by decide +kernel
theorem dX4_giveToWrite_59 : decode cX4_giveToWrite 59 = .ok (.getfield 61, 3) := by decide +kernel
theorem dX4_giveToWrite_62 : decode cX4_giveToWrite 62 = .ok (.iload_n 2, 1) := by decide +kernel
theorem dX4_giveToWrite_63 : decode cX4_giveToWrite 63 = .ok (.iconst 0, 1) := by decide +kernel
theorem dX4_giveToWrite_64 : decode cX4_giveToWrite 64 = .ok (.bastore, 1) := by decide +kernel
theorem dX4_giveToWrite_65 : decode cX4_giveToWrite 65 = .ok (.aload_n 1, 1) := by decide +kernel
theorem dX4_giveToWrite_66 : decode cX4_giveToWrite 66 = .ok (.getfield 46, 3) := by decide +kernel
theorem dX4_giveToWrite_69 : decode cX4_giveToWrite 69 = .ok (.iload_n 2, 1) := by decide +kernel
theorem dX4_giveToWrite_70 : decode cX4_giveToWrite 70 = .ok (.iconst 0, 1) := by decide +kernel
theorem dX4_giveToWrite_71 : decode cX4_giveToWrite 71 = .ok (.iastore, 1) := by decide +kernel
theorem dX4_giveToWrite_72 : decode cX4_giveToWrite 72 = .ok (.aload_n 1, 1) := by decide +kernel
theorem dX4_giveToWrite_73 : decode cX4_giveToWrite 73 = .ok (.getfield 144, 3) := by decide +kernel
theorem dX4_giveToWrite_76 : decode cX4_giveToWrite 76 = .ok (.iload_n 2, 1) := by decide +kernel
theorem dX4_giveToWrite_77 : decode cX4_giveToWrite 77 = .ok (.iload_n 3, 1) := by decide +kernel
theorem dX4_giveToWrite_78 : decode cX4_giveToWrite 78 = .ok (.iastore, 1) := by decide +kernel
theorem dX4_giveToWrite_79 : decode cX4_giveToWrite 79 = .ok (.return_, 1) := by decide +kernel
set_option maxRecDepth 20000 in
theorem ggX4_givenToRead_X4_finish : GoodIn wsX4_givenToRead wsX4_finish := goodIn_r _ [17, 18, 19, 20, 21, 22, 23, 24, 25, 26, 27, 28, 29, 30, 31, 32, 60, 61, 62, 63, 40, 41, 42, 43, 44, 45, 46, 47, 48, 49, 50, 51, 52, 53, 54, 55, 56, 57, 58, 59] (by decide +kernel) (by decide +kernel)
set_option maxRecDepth 20000 in
theorem gX4_givenToRead_X4_finish : GoodIn wsX4_givenToRead (wsV RX4 53 RX4 yX4_finish wsX4_finish) := goodIn_app (goodIn_of _ (by decide +kernel)) ggX4_givenToRead_X4_finish
theorem dX4_givenToRead_0 : decode cX4_givenToRead 0 = .ok (.aload_n 2, 1) := by decide +kernel
theorem dX4_givenToRead_1 : decode cX4_givenToRead 1 = .ok (.getfield 88, 3) := by decide +kernel
theorem dX4_givenToRead_4 : decode cX4_givenToRead 4 = .ok (.istore_n 3, 1) := by decide +kernel
theorem dX4_givenToRead_5 : decode cX4_givenToRead 5 = .ok (.aload_n 2, 1) := by decide +kernel
theorem dX4_givenToRead_6 : decode cX4_givenToRead 6 = .ok (.getfield 173, 3) := by decide +kernel
theorem dX4_givenToRead_9 : decode cX4_givenToRead 9 = .ok (.iconst 0, 1) := by decide +kernel
theorem dX4_givenToRead_10 : decode cX4_givenToRead 10 = .ok (.aload_n 1, 1) := by decide +kernel
theorem dX4_givenToRead_11 : decode cX4_givenToRead 11 = .ok (.getfield 153, 3) := by decide +kernel
theorem dX4_givenToRead_14 : decode cX4_givenToRead 14 = .ok (.iload_n 3, 1) := by decide +kernel
theorem dX4_givenToRead_15 : decode cX4_givenToRead 15 = .ok (.iconst 4, 1) := by decide +kernel
theorem dX4_givenToRead_16 : decode cX4_givenToRead 16 = .ok (.imul, 1) := by decide +kernel
theorem dX4_givenToRead_17 : decode cX4_givenToRead 17 = .ok (.iconst 4, 1) := by decide +kernel
theorem dX4_givenToRead_18 : decode cX4_givenToRead 18 = .ok (.invokestatic 221, 3) := by decide +kernel
theorem dX4_givenToRead_21 : decode cX4_givenToRead 21 = .ok (.aload_n 1, 1) := by decide +kernel
theorem dX4_givenToRead_22 : decode cX4_givenToRead 22 = .ok (.getfield 144, 3) := by decide +kernel
theorem dX4_givenToRead_25 : decode cX4_givenToRead 25 = .ok (.iload_n 3, 1) := by decide +kernel
theorem dX4_givenToRead_26 : decode cX4_givenToRead 26 = .ok (.aload_n 2, 1) := by decide +kernel
theorem dX4_givenToRead_27 : decode cX4_givenToRead 27 = .ok (.getfield 105, 3) := by decide +kernel
theorem dX4_givenToRead_30 : decode cX4_givenToRead 30 = .ok (.iastore, 1) := by decide +kernel
theorem dX4_givenToRead_31 : decode cX4_givenToRead 31 = .ok (.aload_n 1, 1) := by decide +kernel
theorem dX4_givenToRead_32 : decode cX4_givenToRead 32 = .ok (.getfield 46, 3) := by decide +kernel
theorem dX4_givenToRead_35 : decode cX4_givenToRead 35 = .ok (.iload_n 3, 1) := by decide +kernel
theorem dX4_givenToRead_36 : decode cX4_givenToRead 36 = .ok (.aload_n 1, 1) := by decide +kernel
theorem dX4_givenToRead_37 : decode cX4_givenToRead 37 = .ok (.getfield 36, 3) := by decide +kernel
theorem dX4_givenToRead_40 : decode cX4_givenToRead 40 = .ok (.getfield 227, 3) := by decide +kernel
theorem dX4_givenToRead_43 : decode cX4_givenToRead 43 = .ok (.ifCond .eq 7, 3) := by decide +kernel
theorem dX4_givenToRead_46 : decode cX4_givenToRead 46 = .ok (.iconst 0, 1) := by decide +kernel
theorem dX4_givenToRead_47 : decode cX4_givenToRead 47 = .ok (.goto 4, 3) := by decide +kernel
theorem dX4_givenToRead_50 : decode cX4_givenToRead 50 = .ok (.iconst 1, 1) := by decide +kernel
theorem dX4_givenToRead_51 : decode cX4_givenToRead 51 = .ok (.iastore, 1) := by decide +kernel
theorem dX4_givenToRead_52 : decode cX4_givenToRead 52 = .ok (.aload_n 0, 1) := by decide +kernel
theorem dX4_givenToRead_53 : decode cX4_givenToRead 53 = .ok (.aload_n 1, 1) := by decide +kernel
theorem dX4_givenToRead_54 : decode cX4_givenToRead 54 = .ok (.invokevirtual 53, 3) := by decide +kernel
theorem dX4_givenToRead_57 : decode cX4_givenToRead 57 = .ok (.return_, 1) := by decide +kernel
set_option maxRecDepth 20000 in
theorem ggX4_givenToWrite_X4_callBack : GoodIn wsX4_givenToWrite wsX4_callBack := goodIn_r _ [17, 18, 19, 8, 20, 21, 10, 22, 23, 24, 25, 26, 16, 27, 28, 29, 30, 31, 32, 33, 34, 35, 36, 37, 38, 39, 40, 41, 42, 43, 44, 45, 53, 54, 55, 56, 57, 58, 59, 60, 61, 62, 63, 64, 65, 66, 67, 68, 69, 70, 71, 72, 73, 74, 75, 76, 77, 78, 46, 47, 48, 49, 50, 51, 52] (by decide +kernel) (by decide +kernel)
set_option maxRecDepth 20000 in
theorem gX4_givenToWrite_X4_callBack : GoodIn wsX4_givenToWrite (wsV RX4 65 RX4 yX4_callBack wsX4_callBack) := goodIn_app (goodIn_of _ (by decide +kernel)) ggX4_givenToWrite_X4_callBack
theorem dX4_givenToWrite_0 : decode cX4_givenToWrite 0 = .ok (.aload_n 2, 1) := by decide +kernel
theorem dX4_givenToWrite_1 : decode cX4_givenToWrite 1 = .ok (.getfield 88, 3) := by decide +kernel
theorem dX4_givenToWrite_4 : decode cX4_givenToWrite 4 = .ok (.istore_n 3, 1) := by decide +kernel
theorem dX4_givenToWrite_5 : decode cX4_givenToWrite 5 = .ok (.aload_n 2, 1) := by decide +kernel
theorem dX4_givenToWrite_6 : decode cX4_givenToWrite 6 = .ok (.getfield 173, 3) := by decide +kernel
theorem dX4_givenToWrite_9 : decode cX4_givenToWrite 9 = .ok (.iconst 0, 1) := by decide +kernel
theorem dX4_givenToWrite_10 : decode cX4_givenToWrite 10 = .ok (.aload_n 1, 1) := by decide +kernel
theorem dX4_givenToWrite_11 : decode cX4_givenToWrite 11 = .ok (.getfield 153, 3) := by decide +kernel
theorem dX4_givenToWrite_14 : decode cX4_givenToWrite 14 = .ok (.iload_n 3, 1) := by decide +kernel
theorem dX4_givenToWrite_15 : decode cX4_givenToWrite 15 = .ok (.iconst 4, 1) := by decide +kernel
theorem dX4_givenToWrite_16 : decode cX4_givenToWrite 16 = .ok (.imul, 1) := by decide +kernel
theorem dX4_givenToWrite_17 : decode cX4_givenToWrite 17 = .ok (.iconst 4, 1) := by decide +kernel
theorem dX4_givenToWrite_18 : decode cX4_givenToWrite 18 = .ok (.invokestatic 221, 3) := by decide +kernel
theorem dX4_givenToWrite_21 : decode cX4_givenToWrite 21 = .ok (.aload_n 1, 1) := by decide +kernel
theorem dX4_givenToWrite_22 : decode cX4_givenToWrite 22 = .ok (.getfield 147, 3) := by decide +kernel
theorem dX4_givenToWrite_25 : decode cX4_givenToWrite 25 = .ok (.iload_n 3, 1) := by decide +kernel
theorem dX4_givenToWrite_26 : decode cX4_givenToWrite 26 = .ok (.aload_n 2, 1) := by decide +kernel
theorem dX4_givenToWrite_27 : decode cX4_givenToWrite 27 = .ok (.getfield 171, 3) := by decide +kernel
theorem dX4_givenToWrite_30 : decode cX4_givenToWrite 30 = .ok (.iconst 1, 1) := by decide +kernel
theorem dX4_givenToWrite_31 : decode cX4_givenToWrite 31 = .ok (.aload_n 1, 1) := by decide +kernel
theorem dX4_givenToWrite_32 : decode cX4_givenToWrite 32 = .ok (.getfield 181, 3) := by decide +kernel
theorem dX4_givenToWrite_35 : decode cX4_givenToWrite 35 = .ok (.ishl, 1) := by decide +kernel
theorem dX4_givenToWrite_36 : decode cX4_givenToWrite 36 = .ok (.iconst (-1), 1) := by decide +kernel
theorem dX4_givenToWrite_37 : decode cX4_givenToWrite 37 = .ok (.ixor, 1) := by decide +kernel
theorem dX4_givenToWrite_38 : decode cX4_givenToWrite 38 = .ok (.iand, 1) := by decide +kernel
theorem dX4_givenToWrite_39 : decode cX4_givenToWrite 39 = .ok (.iastore, 1) := by decide +kernel
theorem dX4_givenToWrite_40 : decode cX4_givenToWrite 40 = .ok (.aload_n 1, 1) := by decide +kernel
theorem dX4_givenToWrite_41 : decode cX4_givenToWrite 41 = .ok (.getfield 61, 3) := by decide +kernel
theorem dX4_givenToWrite_44 : decode cX4_givenToWrite 44 = .ok (.iload_n 3, 1) := by decide +kernel
theorem dX4_givenToWrite_45 : decode cX4_givenToWrite 45 = .ok (.iconst 1, 1) := by decide +kernel
theorem dX4_givenToWrite_46 : decode cX4_givenToWrite 46 = .ok (.bastore, 1) := by decide +kernel
theorem dX4_givenToWrite_47 : decode cX4_givenToWrite 47 = .ok (.aload_n 1, 1) := by decide +kernel
theorem dX4_givenToWrite_48 : decode cX4_givenToWrite 48 = .ok (.getfield 144, 3) := by decide +kernel
theorem dX4_givenToWrite_51 : decode cX4_givenToWrite 51 = .ok (.iload_n 3, 1) := by decide +kernel
theorem dX4_givenToWrite_52 : decode cX4_givenToWrite 52 = .ok (.aload_n 1, 1) := by decide +kernel
theorem dX4_givenToWrite_53 : decode cX4_givenToWrite 53 = .ok (.getfield 181, 3) := by decide +kernel
theorem dX4_givenToWrite_56 : decode cX4_givenToWrite 56 = .ok (.iastore, 1) := by decide +kernel
theorem dX4_givenToWrite_57 : decode cX4_givenToWrite 57 = .ok (.aload_n 0, 1) := by decide +kernel
theorem dX4_givenToWrite_58 : decode cX4_givenToWrite 58 = .ok (.aload_n 1, 1) := by decide +kernel
theorem dX4_givenToWrite_59 : decode cX4_givenToWrite 59 = .ok (.invokevirtual 65, 3) := by decide +kernel
theorem dX4_givenToWrite_62 : decode cX4_givenToWrite 62 = .ok (.return_, 1) := by decide +kernel
set_option maxRecDepth 20000 in
theorem ggX4_calledBack_X0_awaits : GoodIn wsX4_calledBack wsX0_awaits := goodIn_r _ [10, 11, 12, 47, 48, 49, 50, 51, 52, 53, 54, 55, 56] (by decide +kernel) (by decide +kernel)
set_option maxRecDepth 20000 in
theorem gX4_calledBack_X0_awaits : GoodIn wsX4_calledBack (wsV RX4 204 RX0 yX0_awaits wsX0_awaits) := goodIn_app (goodIn_of _ (by decide +kernel)) ggX4_calledBack_X0_awaits
set_option maxRecDepth 20000 in
theorem ggX4_calledBack_X4_send : GoodIn wsX4_calledBack wsX4_send := goodIn_r _ [17, 18, 19, 20, 21, 22, 23, 24, 25, 26, 27, 28, 29, 30, 31, 32, 33, 34, 35, 36, 57, 58, 59, 60, 61, 62, 63, 64, 65, 66, 67, 68, 69] (by decide +kernel) (by decide +kernel)
set_option maxRecDepth 20000 in
theorem gX4_calledBack_X4_send : GoodIn wsX4_calledBack (wsV RX4 184 RX4 yX4_send wsX4_send) := goodIn_app (goodIn_of _ (by decide +kernel)) ggX4_calledBack_X4_send
theorem dX4_calledBack_0 : decode cX4_calledBack 0 = .ok (.aload_n 1, 1) := by decide +kernel
theorem dX4_calledBack_1 : decode cX4_calledBack 1 = .ok (.getfield 46, 3) := by decide +kernel
theorem dX4_calledBack_4 : decode cX4_calledBack 4 = .ok (.iload_n 2, 1) := by decide +kernel
theorem dX4_calledBack_5 : decode cX4_calledBack 5 = .ok (.iconst 0, 1) := by decide +kernel
theorem dX4_calledBack_6 : decode cX4_calledBack 6 = .ok (.iastore, 1) := by decide +kernel
theorem dX4_calledBack_7 : decode cX4_calledBack 7 = .ok (.aload_n 1, 1) := by decide +kernel
theorem dX4_calledBack_8 : decode cX4_calledBack 8 = .ok (.getfield 144, 3) := by decide +kernel
theorem dX4_calledBack_11 : decode cX4_calledBack 11 = .ok (.iload_n 2, 1) := by decide +kernel
theorem dX4_calledBack_12 : decode cX4_calledBack 12 = .ok (.iload_n 3, 1) := by decide +kernel
theorem dX4_calledBack_13 : decode cX4_calledBack 13 = .ok (.iastore, 1) := by decide +kernel
theorem dX4_calledBack_14 : decode cX4_calledBack 14 = .ok (.aload_n 1, 1) := by decide +kernel
theorem dX4_calledBack_15 : decode cX4_calledBack 15 = .ok (.getfield 36, 3) := by decide +kernel
theorem dX4_calledBack_18 : decode cX4_calledBack 18 = .ok (.iconst 1, 1) := by decide +kernel
theorem dX4_calledBack_19 : decode cX4_calledBack 19 = .ok (.iload_n 2, 1) := by decide +kernel
theorem dX4_calledBack_20 : decode cX4_calledBack 20 = .ok (.invokevirtual 204, 3) := by decide +kernel
theorem dX4_calledBack_23 : decode cX4_calledBack 23 = .ok (.ifCond .eq 11, 3) := by decide +kernel
theorem dX4_calledBack_26 : decode cX4_calledBack 26 = .ok (.aload_n 1, 1) := by decide +kernel
theorem dX4_calledBack_27 : decode cX4_calledBack 27 = .ok (.getfield 36, 3) := by decide +kernel
theorem dX4_calledBack_30 : decode cX4_calledBack 30 = .ok (.iconst 1, 1) := by decide +kernel
theorem dX4_calledBack_31 : decode cX4_calledBack 31 = .ok (.putfield 227, 3) := by decide +kernel
theorem dX4_calledBack_34 : decode cX4_calledBack 34 = .ok (.aload_n 0, 1) := by decide +kernel
theorem dX4_calledBack_35 : decode cX4_calledBack 35 = .ok (.bipush 6, 2) := by decide +kernel
theorem dX4_calledBack_37 : decode cX4_calledBack 37 = .ok (.aload_n 1, 1) := by decide +kernel
theorem dX4_calledBack_38 : decode cX4_calledBack 38 = .ok (.getfield 181, 3) := by decide +kernel
theorem dX4_calledBack_41 : decode cX4_calledBack 41 = .ok (.iload_n 3, 1) := by decide +kernel
theorem dX4_calledBack_42 : decode cX4_calledBack 42 = .ok (.iload_n 2, 1) := by decide +kernel
theorem dX4_calledBack_43 : decode cX4_calledBack 43 = .ok (.invokevirtual 184, 3) := by decide +kernel
theorem dX4_calledBack_46 : decode cX4_calledBack 46 = .ok (.pop, 1) := by decide +kernel
theorem dX4_calledBack_47 : decode cX4_calledBack 47 = .ok (.return_, 1) := by decide +kernel
set_option maxRecDepth 20000 in
theorem ggX4_endsChain_X0_awaits : GoodIn wsX4_endsChain wsX0_awaits := goodIn_r _ [7, 8, 9, 20, 21, 22, 23, 24, 25, 26, 27, 28, 29] (by decide +kernel) (by decide +kernel)
set_option maxRecDepth 20000 in
theorem gX4_endsChain_X0_awaits : GoodIn wsX4_endsChain (wsV RX4 204 RX0 yX0_awaits wsX0_awaits) := goodIn_app (goodIn_of _ (by decide +kernel)) ggX4_endsChain_X0_awaits
theorem dX4_endsChain_0 : decode cX4_endsChain 0 = .ok (.aload_n 0, 1) := by decide +kernel
theorem dX4_endsChain_1 : decode cX4_endsChain 1 = .ok (.getfield 61, 3) := by decide +kernel
theorem dX4_endsChain_4 : decode cX4_endsChain 4 = .ok (.iload_n 1, 1) := by decide +kernel
theorem dX4_endsChain_5 : decode cX4_endsChain 5 = .ok (.baload, 1) := by decide +kernel
theorem dX4_endsChain_6 : decode cX4_endsChain 6 = .ok (.ifCond .ne 15, 3) := by decide +kernel
theorem dX4_endsChain_9 : decode cX4_endsChain 9 = .ok (.aload_n 0, 1) := by decide +kernel
theorem dX4_endsChain_10 : decode cX4_endsChain 10 = .ok (.getfield 36, 3) := by decide +kernel
theorem dX4_endsChain_13 : decode cX4_endsChain 13 = .ok (.iconst 2, 1) := by decide +kernel
theorem dX4_endsChain_14 : decode cX4_endsChain 14 = .ok (.iload_n 1, 1) := by decide +kernel
theorem dX4_endsChain_15 : decode cX4_endsChain 15 = .ok (.invokevirtual 204, 3) := by decide +kernel
theorem dX4_endsChain_18 : decode cX4_endsChain 18 = .ok (.ifCond .eq 7, 3) := by decide +kernel
theorem dX4_endsChain_21 : decode cX4_endsChain 21 = .ok (.iconst 1, 1) := by decide +kernel
theorem dX4_endsChain_22 : decode cX4_endsChain 22 = .ok (.goto 4, 3) := by decide +kernel
theorem dX4_endsChain_25 : decode cX4_endsChain 25 = .ok (.iconst 0, 1) := by decide +kernel
theorem dX4_endsChain_26 : decode cX4_endsChain 26 = .ok (.ireturn, 1) := by decide +kernel
set_option maxRecDepth 20000 in
theorem ggX5_init_X5_begin : GoodIn wsX5_init wsX5_begin := goodIn_r _ [34, 35, 7, 5, 8, 9, 13, 11, 14, 19, 20, 21, 22, 23, 26, 36, 37, 38, 39, 40, 41, 42, 43, 44, 45, 46, 47, 48, 49, 50, 51, 52, 53, 54, 55, 56, 57, 58, 59, 60, 61] (by decide +kernel) (by decide +kernel)
set_option maxRecDepth 20000 in
theorem gX5_init_X5_begin : GoodIn wsX5_init (wsV RX5 81 RX5 yX5_begin wsX5_begin) := goodIn_app (goodIn_of _ (by decide +kernel)) ggX5_init_X5_begin
