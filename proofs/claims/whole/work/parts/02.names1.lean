theorem dX0_few_5 : decode cX0_few 5 = .ok (.getfield 99, 3) := by decide +kernel
theorem dX0_few_8 : decode cX0_few 8 = .ok (.if_icmp .gt 7, 3) := by decide +kernel
theorem dX0_few_11 : decode cX0_few 11 = .ok (.iconst 1, 1) := by decide +kernel
theorem dX0_few_12 : decode cX0_few 12 = .ok (.goto 4, 3) := by decide +kernel
theorem dX0_few_15 : decode cX0_few 15 = .ok (.iconst 0, 1) := by decide +kernel
theorem dX0_few_16 : decode cX0_few 16 = .ok (.istore_n 1, 1) := by decide +kernel
theorem dX0_few_17 : decode cX0_few 17 = .ok (.aload_n 0, 1) := by decide +kernel
theorem dX0_few_18 : decode cX0_few 18 = .ok (.ldc 29, 2) := by decide +kernel
theorem dX0_few_20 : decode cX0_few 20 = .ok (.invokevirtual 30, 3) := by decide +kernel
theorem dX0_few_23 : decode cX0_few 23 = .ok (.iload_n 1, 1) := by decide +kernel
theorem dX0_few_24 : decode cX0_few 24 = .ok (.ireturn, 1) := by decide +kernel
theorem dX0_read_0 : decode cX0_read 0 = .ok (.iload_n 1, 1) := by decide +kernel
theorem dX0_read_1 : decode cX0_read 1 = .ok (.ifCond .lt 12, 3) := by decide +kernel
theorem dX0_read_4 : decode cX0_read 4 = .ok (.iload_n 1, 1) := by decide +kernel
theorem dX0_read_5 : decode cX0_read 5 = .ok (.aload_n 0, 1) := by decide +kernel
theorem dX0_read_6 : decode cX0_read 6 = .ok (.getfield 13, 3) := by decide +kernel
theorem dX0_read_9 : decode cX0_read 9 = .ok (.arraylength, 1) := by decide +kernel
theorem dX0_read_10 : decode cX0_read 10 = .ok (.if_icmp .lt 5, 3) := by decide +kernel
theorem dX0_read_13 : decode cX0_read 13 = .ok (.iconst (-1), 1) := by decide +kernel
theorem dX0_read_14 : decode cX0_read 14 = .ok (.ireturn, 1) := by decide +kernel
theorem dX0_read_15 : decode cX0_read 15 = .ok (.aload_n 0, 1) := by decide +kernel
theorem dX0_read_16 : decode cX0_read 16 = .ok (.dup, 1) := by decide +kernel
theorem dX0_read_17 : decode cX0_read 17 = .ok (.getfield 96, 3) := by decide +kernel
theorem dX0_read_20 : decode cX0_read 20 = .ok (.iconst 1, 1) := by decide +kernel
theorem dX0_read_21 : decode cX0_read 21 = .ok (.iadd, 1) := by decide +kernel
theorem dX0_read_22 : decode cX0_read 22 = .ok (.putfield 96, 3) := by decide +kernel
theorem dX0_read_25 : decode cX0_read 25 = .ok (.aload_n 0, 1) := by decide +kernel
theorem dX0_read_26 : decode cX0_read 26 = .ok (.getfield 13, 3) := by decide +kernel
theorem dX0_read_29 : decode cX0_read 29 = .ok (.iload_n 1, 1) := by decide +kernel
theorem dX0_read_30 : decode cX0_read 30 = .ok (.iaload, 1) := by decide +kernel
theorem dX0_read_31 : decode cX0_read 31 = .ok (.ireturn, 1) := by decide +kernel
theorem dX0_write_0 : decode cX0_write 0 = .ok (.iload_n 1, 1) := by decide +kernel
theorem dX0_write_1 : decode cX0_write 1 = .ok (.ifCond .lt 12, 3) := by decide +kernel
theorem dX0_write_4 : decode cX0_write 4 = .ok (.iload_n 1, 1) := by decide +kernel
theorem dX0_write_5 : decode cX0_write 5 = .ok (.aload_n 0, 1) := by decide +kernel
theorem dX0_write_6 : decode cX0_write 6 = .ok (.getfield 13, 3) := by decide +kernel
theorem dX0_write_9 : decode cX0_write 9 = .ok (.arraylength, 1) := by decide +kernel
theorem dX0_write_10 : decode cX0_write 10 = .ok (.if_icmp .lt 4, 3) := by decide +kernel
theorem dX0_write_13 : decode cX0_write 13 = .ok (.return_, 1) := by decide +kernel
theorem dX0_write_14 : decode cX0_write 14 = .ok (.aload_n 0, 1) := by decide +kernel
theorem dX0_write_15 : decode cX0_write 15 = .ok (.dup, 1) := by decide +kernel
theorem dX0_write_16 : decode cX0_write 16 = .ok (.getfield 96, 3) := by decide +kernel
theorem dX0_write_19 : decode cX0_write 19 = .ok (.iconst 1, 1) := by decide +kernel
theorem dX0_write_20 : decode cX0_write 20 = .ok (.iadd, 1) := by decide +kernel
theorem dX0_write_21 : decode cX0_write 21 = .ok (.putfield 96, 3) := by decide +kernel
theorem dX0_write_24 : decode cX0_write 24 = .ok (.aload_n 0, 1) := by decide +kernel
theorem dX0_write_25 : decode cX0_write 25 = .ok (.getfield 13, 3) := by decide +kernel
theorem dX0_write_28 : decode cX0_write 28 = .ok (.iload_n 1, 1) := by decide +kernel
theorem dX0_write_29 : decode cX0_write 29 = .ok (.iload_n 2, 1) := by decide +kernel
theorem dX0_write_30 : decode cX0_write 30 = .ok (.iastore, 1) := by decide +kernel
theorem dX0_write_31 : decode cX0_write 31 = .ok (.return_, 1) := by decide +kernel
theorem dX0_begin_0 : decode cX0_begin 0 = .ok (.aload_n 0, 1) := by decide +kernel
theorem dX0_begin_1 : decode cX0_begin 1 = .ok (.iconst 0, 1) := by decide +kernel
theorem dX0_begin_2 : decode cX0_begin 2 = .ok (.putfield 96, 3) := by decide +kernel
theorem dX0_begin_5 : decode cX0_begin 5 = .ok (.aload_n 0, 1) := by decide +kernel
theorem dX0_begin_6 : decode cX0_begin 6 = .ok (.iload_n 1, 1) := by decide +kernel
theorem dX0_begin_7 : decode cX0_begin 7 = .ok (.putfield 99, 3) := by decide +kernel
theorem dX0_begin_10 : decode cX0_begin 10 = .ok (.return_, 1) := by decide +kernel
set_option maxRecDepth 20000 in
theorem ggX0_beginOn_X0_keysIn : GoodIn wsX0_beginOn wsX0_keysIn := goodIn_r _ [7, 8, 9, 10, 6, 11, 12, 13, 14, 15, 16, 17, 1, 21, 22, 23, 24, 25, 26] (by decide +kernel) (by decide +kernel)
set_option maxRecDepth 20000 in
theorem gX0_beginOn_X0_keysIn : GoodIn wsX0_beginOn (wsV RX0 80 RX0 yX0_keysIn wsX0_keysIn) := goodIn_app (goodIn_of _ (by decide +kernel)) ggX0_beginOn_X0_keysIn
set_option maxRecDepth 20000 in
theorem ggX0_beginOn_X0_limitFor : GoodIn wsX0_beginOn wsX0_limitFor := goodIn_r _ [20] (by decide +kernel) (by decide +kernel)
set_option maxRecDepth 20000 in
theorem gX0_beginOn_X0_limitFor : GoodIn wsX0_beginOn (va_wsS RX0 102 yX0_limitFor wsX0_limitFor) := goodIn_app (goodIn_of _ (by decide +kernel)) ggX0_beginOn_X0_limitFor
theorem dX0_beginOn_0 : decode cX0_beginOn 0 = .ok (.aload_n 0, 1) := by decide +kernel
theorem dX0_beginOn_1 : decode cX0_beginOn 1 = .ok (.iconst 0, 1) := by decide +kernel
theorem dX0_beginOn_2 : decode cX0_beginOn 2 = .ok (.putfield 96, 3) := by decide +kernel
theorem dX0_beginOn_5 : decode cX0_beginOn 5 = .ok (.aload_n 0, 1) := by decide +kernel
theorem dX0_beginOn_6 : decode cX0_beginOn 6 = .ok (.aload_n 0, 1) := by decide +kernel
theorem dX0_beginOn_7 : decode cX0_beginOn 7 = .ok (.iload_n 1, 1) := by decide +kernel
theorem dX0_beginOn_8 : decode cX0_beginOn 8 = .ok (.invokevirtual 80, 3) := by decide +kernel
theorem dX0_beginOn_11 : decode cX0_beginOn 11 = .ok (.invokestatic 102, 3) := by decide +kernel
theorem dX0_beginOn_14 : decode cX0_beginOn 14 = .ok (.putfield 99, 3) := by decide +kernel
theorem dX0_beginOn_17 : decode cX0_beginOn 17 = .ok (.return_, 1) := by decide +kernel
set_option maxRecDepth 20000 in
theorem ggX0_beginOnBoth_X0_keysIn : GoodIn wsX0_beginOnBoth wsX0_keysIn := goodIn_r _ [7, 8, 9, 10, 6, 11, 12, 13, 14, 15, 16, 17, 1, 21, 22, 23, 24, 25, 26] (by decide +kernel) (by decide +kernel)
set_option maxRecDepth 20000 in
theorem gX0_beginOnBoth_X0_keysIn : GoodIn wsX0_beginOnBoth (wsV RX0 80 RX0 yX0_keysIn wsX0_keysIn) := goodIn_app (goodIn_of _ (by decide +kernel)) ggX0_beginOnBoth_X0_keysIn
set_option maxRecDepth 20000 in
theorem ggX0_beginOnBoth_X0_limitFor : GoodIn wsX0_beginOnBoth wsX0_limitFor := goodIn_r _ [20] (by decide +kernel) (by decide +kernel)
set_option maxRecDepth 20000 in
theorem gX0_beginOnBoth_X0_limitFor : GoodIn wsX0_beginOnBoth (va_wsS RX0 102 yX0_limitFor wsX0_limitFor) := goodIn_app (goodIn_of _ (by decide +kernel)) ggX0_beginOnBoth_X0_limitFor
theorem dX0_beginOnBoth_0 : decode cX0_beginOnBoth 0 = .ok (.aload_n 0, 1) := by decide +kernel
theorem dX0_beginOnBoth_1 : decode cX0_beginOnBoth 1 = .ok (.iconst 0, 1) := by decide +kernel
theorem dX0_beginOnBoth_2 : decode cX0_beginOnBoth 2 = .ok (.putfield 96, 3) := by decide +kernel
theorem dX0_beginOnBoth_5 : decode cX0_beginOnBoth 5 = .ok (.aload_n 0, 1) := by decide +kernel
theorem dX0_beginOnBoth_6 : decode cX0_beginOnBoth 6 = .ok (.aload_n 0, 1) := by decide +kernel
theorem dX0_beginOnBoth_7 : decode cX0_beginOnBoth 7 = .ok (.iload_n 1, 1) := by decide +kernel
theorem dX0_beginOnBoth_8 : decode cX0_beginOnBoth 8 = .ok (.invokevirtual 80, 3) := by decide +kernel
theorem dX0_beginOnBoth_11 : decode cX0_beginOnBoth 11 = .ok (.aload_n 0, 1) := by decide +kernel
theorem dX0_beginOnBoth_12 : decode cX0_beginOnBoth 12 = .ok (.iload_n 2, 1) := by decide +kernel
theorem dX0_beginOnBoth_13 : decode cX0_beginOnBoth 13 = .ok (.invokevirtual 80, 3) := by decide +kernel
theorem dX0_beginOnBoth_16 : decode cX0_beginOnBoth 16 = .ok (.iadd, 1) := by decide +kernel
theorem dX0_beginOnBoth_17 : decode cX0_beginOnBoth 17 = .ok (.invokestatic 102, 3) := by decide +kernel
theorem dX0_beginOnBoth_20 : decode cX0_beginOnBoth 20 = .ok (.putfield 99, 3) := by decide +kernel
theorem dX0_beginOnBoth_23 : decode cX0_beginOnBoth 23 = .ok (.return_, 1) := by decide +kernel
theorem dX0_limitFor_0 : decode cX0_limitFor 0 = .ok (.iconst 0, 1) := by decide +kernel
theorem dX0_limitFor_1 : decode cX0_limitFor 1 = .ok (.istore_n 1, 1) := by decide +kernel
theorem dX0_limitFor_2 : decode cX0_limitFor 2 = .ok (.iload_n 1, 1) := by decide +kernel
theorem dX0_limitFor_3 : decode cX0_limitFor 3 = .ok (.bipush 30, 2) := by decide +kernel
theorem dX0_limitFor_5 : decode cX0_limitFor 5 = .ok (.if_icmp .ge 18, 3) := by decide +kernel
theorem dX0_limitFor_8 : decode cX0_limitFor 8 = .ok (.iconst 2, 1) := by decide +kernel
theorem dX0_limitFor_9 : decode cX0_limitFor 9 = .ok (.iload_n 1, 1) := by decide +kernel
theorem dX0_limitFor_10 : decode cX0_limitFor 10 = .ok (.ishl, 1) := by decide +kernel
theorem dX0_limitFor_11 : decode cX0_limitFor 11 = .ok (.iload_n 0, 1) := by decide +kernel
theorem dX0_limitFor_12 : decode cX0_limitFor 12 = .ok (.iconst 1, 1) := by decide +kernel
theorem dX0_limitFor_13 : decode cX0_limitFor 13 = .ok (.iadd, 1) := by decide +kernel
theorem dX0_limitFor_14 : decode cX0_limitFor 14 = .ok (.if_icmp .gt 9, 3) := by decide +kernel
theorem dX0_limitFor_17 : decode cX0_limitFor 17 = .ok (.iinc 1 1, 3) := by decide +kernel
theorem dX0_limitFor_20 : decode cX0_limitFor 20 = .ok (.goto (-18), 3) := by decide +kernel
theorem dX0_limitFor_23 : decode cX0_limitFor 23 = .ok (.sipush 200, 3) := by decide +kernel
theorem dX0_limitFor_26 : decode cX0_limitFor 26 = .ok (.iconst 2, 1) := by decide +kernel
theorem dX0_limitFor_27 : decode cX0_limitFor 27 = .ok (.iload_n 1, 1) := by decide +kernel
theorem dX0_limitFor_28 : decode cX0_limitFor 28 = .ok (.iadd, 1) := by decide +kernel
theorem dX0_limitFor_29 : decode cX0_limitFor 29 = .ok (.imul, 1) := by decide +kernel
theorem dX0_limitFor_30 : decode cX0_limitFor 30 = .ok (.ireturn, 1) := by decide +kernel
theorem dX0_exists_0 : decode cX0_exists 0 = .ok (.iload_n 1, 1) := by decide +kernel
theorem dX0_exists_1 : decode cX0_exists 1 = .ok (.ifCond .lt 15, 3) := by decide +kernel
theorem dX0_exists_4 : decode cX0_exists 4 = .ok (.iload_n 1, 1) := by decide +kernel
theorem dX0_exists_5 : decode cX0_exists 5 = .ok (.aload_n 0, 1) := by decide +kernel
theorem dX0_exists_6 : decode cX0_exists 6 = .ok (.getfield 33, 3) := by decide +kernel
theorem dX0_exists_9 : decode cX0_exists 9 = .ok (.if_icmp .ge 7, 3) := by decide +kernel
theorem dX0_exists_12 : decode cX0_exists 12 = .ok (.iconst 1, 1) := by decide +kernel
theorem dX0_exists_13 : decode cX0_exists 13 = .ok (.goto 4, 3) := by decide +kernel
theorem dX0_exists_16 : decode cX0_exists 16 = .ok (.iconst 0, 1) := by decide +kernel
theorem dX0_exists_17 : decode cX0_exists 17 = .ok (.ireturn, 1) := by decide +kernel
set_option maxRecDepth 20000 in
theorem ggX0_keysIn_X0_exists : GoodIn wsX0_keysIn wsX0_exists := goodIn_r _ [5, 6, 13, 14, 15, 16, 17, 18] (by decide +kernel) (by decide +kernel)
set_option maxRecDepth 20000 in
theorem gX0_keysIn_X0_exists : GoodIn wsX0_keysIn (wsV RX0 36 RX0 yX0_exists wsX0_exists) := goodIn_app (goodIn_of _ (by decide +kernel)) ggX0_keysIn_X0_exists
set_option maxRecDepth 20000 in
theorem ggX0_keysIn_X0_read : GoodIn wsX0_keysIn wsX0_read := goodIn_r _ [10, 11, 12, 13, 14, 15, 16, 17, 18] (by decide +kernel) (by decide +kernel)
set_option maxRecDepth 20000 in
theorem gX0_keysIn_X0_read : GoodIn wsX0_keysIn (wsV RX0 47 RX0 yX0_read wsX0_read) := goodIn_app (goodIn_of _ (by decide +kernel)) ggX0_keysIn_X0_read
theorem dX0_keysIn_0 : decode cX0_keysIn 0 = .ok (.aload_n 0, 1) := by decide +kernel
theorem dX0_keysIn_1 : decode cX0_keysIn 1 = .ok (.iload_n 1, 1) := by decide +kernel
theorem dX0_keysIn_2 : decode cX0_keysIn 2 = .ok (.invokevirtual 36, 3) := by decide +kernel
theorem dX0_keysIn_5 : decode cX0_keysIn 5 = .ok (.ifCond .eq 15, 3) := by decide +kernel
theorem dX0_keysIn_8 : decode cX0_keysIn 8 = .ok (.aload_n 0, 1) := by decide +kernel
theorem dX0_keysIn_9 : decode cX0_keysIn 9 = .ok (.sipush 1072, 3) := by decide +kernel
theorem dX0_keysIn_12 : decode cX0_keysIn 12 = .ok (.iload_n 1, 1) := by decide +kernel
theorem dX0_keysIn_13 : decode cX0_keysIn 13 = .ok (.iadd, 1) := by decide +kernel
theorem dX0_keysIn_14 : decode cX0_keysIn 14 = .ok (.invokevirtual 47, 3) := by decide +kernel
theorem dX0_keysIn_17 : decode cX0_keysIn 17 = .ok (.goto 4, 3) := by decide +kernel
theorem dX0_keysIn_20 : decode cX0_keysIn 20 = .ok (.iconst 0, 1) := by decide +kernel
theorem dX0_keysIn_21 : decode cX0_keysIn 21 = .ok (.ireturn, 1) := by decide +kernel
set_option maxRecDepth 20000 in
theorem ggX0_resize_X0_write : GoodIn wsX0_resize wsX0_write := goodIn_r _ [5, 6, 7, 8, 9, 10, 11, 12, 13] (by decide +kernel) (by decide +kernel)
set_option maxRecDepth 20000 in
theorem gX0_resize_X0_write : GoodIn wsX0_resize (wsV RX0 17 RX0 yX0_write wsX0_write) := goodIn_app (goodIn_of _ (by decide +kernel)) ggX0_resize_X0_write
theorem dX0_resize_0 : decode cX0_resize 0 = .ok (.aload_n 0, 1) := by decide +kernel
theorem dX0_resize_1 : decode cX0_resize 1 = .ok (.sipush 1072, 3) := by decide +kernel
theorem dX0_resize_4 : decode cX0_resize 4 = .ok (.iload_n 1, 1) := by decide +kernel
theorem dX0_resize_5 : decode cX0_resize 5 = .ok (.iadd, 1) := by decide +kernel
theorem dX0_resize_6 : decode cX0_resize 6 = .ok (.iload_n 2, 1) := by decide +kernel
theorem dX0_resize_7 : decode cX0_resize 7 = .ok (.invokevirtual 17, 3) := by decide +kernel
theorem dX0_resize_10 : decode cX0_resize 10 = .ok (.iload_n 2, 1) := by decide +kernel
theorem dX0_resize_11 : decode cX0_resize 11 = .ok (.ireturn, 1) := by decide +kernel
set_option maxRecDepth 20000 in
theorem ggX0_newCell_X0_read : GoodIn wsX0_newCell wsX0_read := goodIn_r _ [7, 8, 9, 14, 15, 16, 17, 18, 19] (by decide +kernel) (by decide +kernel)
set_option maxRecDepth 20000 in
theorem gX0_newCell_X0_read : GoodIn wsX0_newCell (wsV RX0 47 RX0 yX0_read wsX0_read) := goodIn_app (goodIn_of _ (by decide +kernel)) ggX0_newCell_X0_read
set_option maxRecDepth 20000 in
theorem ggX0_newCell_X0_write : GoodIn wsX0_newCell wsX0_write := goodIn_r _ [13, 8, 9, 14, 15, 16, 17, 18, 19] (by decide +kernel) (by decide +kernel)
set_option maxRecDepth 20000 in
theorem gX0_newCell_X0_write : GoodIn wsX0_newCell (wsV RX0 17 RX0 yX0_write wsX0_write) := goodIn_app (goodIn_of _ (by decide +kernel)) ggX0_newCell_X0_write
theorem dX0_newCell_0 : decode cX0_newCell 0 = .ok (.aload_n 0, 1) := by decide +kernel
theorem dX0_newCell_1 : decode cX0_newCell 1 = .ok (.getfield 21, 3) := by decide +kernel
theorem dX0_newCell_4 : decode cX0_newCell 4 = .ok (.istore_n 2, 1) := by decide +kernel
theorem dX0_newCell_5 : decode cX0_newCell 5 = .ok (.aload_n 0, 1) := by decide +kernel
theorem dX0_newCell_6 : decode cX0_newCell 6 = .ok (.aload_n 0, 1) := by decide +kernel
theorem dX0_newCell_7 : decode cX0_newCell 7 = .ok (.sipush 600, 3) := by decide +kernel
theorem dX0_newCell_10 : decode cX0_newCell 10 = .ok (.iload_n 2, 1) := by decide +kernel
theorem dX0_newCell_11 : decode cX0_newCell 11 = .ok (.iadd, 1) := by decide +kernel
theorem dX0_newCell_12 : decode cX0_newCell 12 = .ok (.invokevirtual 47, 3) := by decide +kernel
theorem dX0_newCell_15 : decode cX0_newCell 15 = .ok (.putfield 21, 3) := by decide +kernel
theorem dX0_newCell_18 : decode cX0_newCell 18 = .ok (.aload_n 0, 1) := by decide +kernel
theorem dX0_newCell_19 : decode cX0_newCell 19 = .ok (.dup, 1) := by decide +kernel
theorem dX0_newCell_20 : decode cX0_newCell 20 = .ok (.getfield 93, 3) := by decide +kernel
theorem dX0_newCell_23 : decode cX0_newCell 23 = .ok (.iconst 1, 1) := by decide +kernel
theorem dX0_newCell_24 : decode cX0_newCell 24 = .ok (.isub, 1) := by decide +kernel
theorem dX0_newCell_25 : decode cX0_newCell 25 = .ok (.putfield 93, 3) := by decide +kernel
theorem dX0_newCell_28 : decode cX0_newCell 28 = .ok (.aload_n 0, 1) := by decide +kernel
theorem dX0_newCell_29 : decode cX0_newCell 29 = .ok (.iconst 0, 1) := by decide +kernel
theorem dX0_newCell_30 : decode cX0_newCell 30 = .ok (.iload_n 2, 1) := by decide +kernel
theorem dX0_newCell_31 : decode cX0_newCell 31 = .ok (.iadd, 1) := by decide +kernel
theorem dX0_newCell_32 : decode cX0_newCell 32 = .ok (.iload_n 1, 1) := by decide +kernel
theorem dX0_newCell_33 : decode cX0_newCell 33 = .ok (.invokevirtual 17, 3) := by decide +kernel
theorem dX0_newCell_36 : decode cX0_newCell 36 = .ok (.aload_n 0, 1) := by decide +kernel
theorem dX0_newCell_37 : decode cX0_newCell 37 = .ok (.sipush 200, 3) := by decide +kernel
theorem dX0_newCell_40 : decode cX0_newCell 40 = .ok (.iload_n 2, 1) := by decide +kernel
theorem dX0_newCell_41 : decode cX0_newCell 41 = .ok (.iadd, 1) := by decide +kernel
theorem dX0_newCell_42 : decode cX0_newCell 42 = .ok (.iconst 0, 1) := by decide +kernel
theorem dX0_newCell_43 : decode cX0_newCell 43 = .ok (.invokevirtual 17, 3) := by decide +kernel
theorem dX0_newCell_46 : decode cX0_newCell 46 = .ok (.aload_n 0, 1) := by decide +kernel
theorem dX0_newCell_47 : decode cX0_newCell 47 = .ok (.sipush 400, 3) := by decide +kernel
theorem dX0_newCell_50 : decode cX0_newCell 50 = .ok (.iload_n 2, 1) := by decide +kernel
theorem dX0_newCell_51 : decode cX0_newCell 51 = .ok (.iadd, 1) := by decide +kernel
theorem dX0_newCell_52 : decode cX0_newCell 52 = .ok (.iconst (-1), 1) := by decide +kernel
theorem dX0_newCell_53 : decode cX0_newCell 53 = .ok (.invokevirtual 17, 3) := by decide +kernel
theorem dX0_newCell_56 : decode cX0_newCell 56 = .ok (.iload_n 2, 1) := by decide +kernel
theorem dX0_newCell_57 : decode cX0_newCell 57 = .ok (.ireturn, 1) := by decide +kernel
set_option maxRecDepth 20000 in
theorem ggX0_giveBack_X0_write : GoodIn wsX0_giveBack wsX0_write := goodIn_r _ [7, 8, 9, 10, 11, 12, 13, 14, 15] (by decide +kernel) (by decide +kernel)
set_option maxRecDepth 20000 in
theorem gX0_giveBack_X0_write : GoodIn wsX0_giveBack (wsV RX0 17 RX0 yX0_write wsX0_write) := goodIn_app (goodIn_of _ (by decide +kernel)) ggX0_giveBack_X0_write
theorem dX0_giveBack_0 : decode cX0_giveBack 0 = .ok (.aload_n 0, 1) := by decide +kernel
theorem dX0_giveBack_1 : decode cX0_giveBack 1 = .ok (.sipush 600, 3) := by decide +kernel
theorem dX0_giveBack_4 : decode cX0_giveBack 4 = .ok (.iload_n 1, 1) := by decide +kernel
theorem dX0_giveBack_5 : decode cX0_giveBack 5 = .ok (.iadd, 1) := by decide +kernel
theorem dX0_giveBack_6 : decode cX0_giveBack 6 = .ok (.aload_n 0, 1) := by decide +kernel
theorem dX0_giveBack_7 : decode cX0_giveBack 7 = .ok (.getfield 21, 3) := by decide +kernel
theorem dX0_giveBack_10 : decode cX0_giveBack 10 = .ok (.invokevirtual 17, 3) := by decide +kernel
theorem dX0_giveBack_13 : decode cX0_giveBack 13 = .ok (.aload_n 0, 1) := by decide +kernel
theorem dX0_giveBack_14 : decode cX0_giveBack 14 = .ok (.iload_n 1, 1) := by decide +kernel
theorem dX0_giveBack_15 : decode cX0_giveBack 15 = .ok (.putfield 21, 3) := by decide +kernel
theorem dX0_giveBack_18 : decode cX0_giveBack 18 = .ok (.aload_n 0, 1) := by decide +kernel
theorem dX0_giveBack_19 : decode cX0_giveBack 19 = .ok (.dup, 1) := by decide +kernel
theorem dX0_giveBack_20 : decode cX0_giveBack 20 = .ok (.getfield 93, 3) := by decide +kernel
theorem dX0_giveBack_23 : decode cX0_giveBack 23 = .ok (.iconst 1, 1) := by decide +kernel
theorem dX0_giveBack_24 : decode cX0_giveBack 24 = .ok (.iadd, 1) := by decide +kernel
theorem dX0_giveBack_25 : decode cX0_giveBack 25 = .ok (.putfield 93, 3) := by decide +kernel
theorem dX0_giveBack_28 : decode cX0_giveBack 28 = .ok (.return_, 1) := by decide +kernel
theorem dX0_topAt_0 : decode cX0_topAt 0 = .ok (.sipush 1000, 3) := by decide +kernel
theorem dX0_topAt_3 : decode cX0_topAt 3 = .ok (.iload_n 0, 1) := by decide +kernel
theorem dX0_topAt_4 : decode cX0_topAt 4 = .ok (.bipush 8, 2) := by decide +kernel
theorem dX0_topAt_6 : decode cX0_topAt 6 = .ok (.imul, 1) := by decide +kernel
theorem dX0_topAt_7 : decode cX0_topAt 7 = .ok (.iadd, 1) := by decide +kernel
theorem dX0_topAt_8 : decode cX0_topAt 8 = .ok (.iload_n 1, 1) := by decide +kernel
theorem dX0_topAt_9 : decode cX0_topAt 9 = .ok (.iadd, 1) := by decide +kernel
theorem dX0_topAt_10 : decode cX0_topAt 10 = .ok (.ireturn, 1) := by decide +kernel
set_option maxRecDepth 20000 in
theorem ggX0_cutTop_X0_topAt : GoodIn wsX0_cutTop wsX0_topAt := goodIn_r _ [4] (by decide +kernel) (by decide +kernel)
set_option maxRecDepth 20000 in
theorem gX0_cutTop_X0_topAt : GoodIn wsX0_cutTop (va_wsS RX0 105 yX0_topAt wsX0_topAt) := goodIn_app (goodIn_of _ (by decide +kernel)) ggX0_cutTop_X0_topAt
set_option maxRecDepth 20000 in
theorem ggX0_cutTop_X0_read : GoodIn wsX0_cutTop wsX0_read := goodIn_r _ [8, 9, 10, 15, 16, 17, 18, 19, 20] (by decide +kernel) (by decide +kernel)
set_option maxRecDepth 20000 in
theorem gX0_cutTop_X0_read : GoodIn wsX0_cutTop (wsV RX0 47 RX0 yX0_read wsX0_read) := goodIn_app (goodIn_of _ (by decide +kernel)) ggX0_cutTop_X0_read
set_option maxRecDepth 20000 in
theorem ggX0_cutTop_X0_write : GoodIn wsX0_cutTop wsX0_write := goodIn_r _ [14, 9, 10, 15, 16, 17, 18, 19, 20] (by decide +kernel) (by decide +kernel)
set_option maxRecDepth 20000 in
theorem gX0_cutTop_X0_write : GoodIn wsX0_cutTop (wsV RX0 17 RX0 yX0_write wsX0_write) := goodIn_app (goodIn_of _ (by decide +kernel)) ggX0_cutTop_X0_write
theorem dX0_cutTop_0 : decode cX0_cutTop 0 = .ok (.aload_n 0, 1) := by decide +kernel
theorem dX0_cutTop_1 : decode cX0_cutTop 1 = .ok (.iload_n 1, 1) := by decide +kernel
theorem dX0_cutTop_2 : decode cX0_cutTop 2 = .ok (.iload_n 2, 1) := by decide +kernel
theorem dX0_cutTop_3 : decode cX0_cutTop 3 = .ok (.invokestatic 105, 3) := by decide +kernel
theorem dX0_cutTop_6 : decode cX0_cutTop 6 = .ok (.invokevirtual 47, 3) := by decide +kernel
theorem dX0_cutTop_9 : decode cX0_cutTop 9 = .ok (.istore_n 3, 1) := by decide +kernel
theorem dX0_cutTop_10 : decode cX0_cutTop 10 = .ok (.aload_n 0, 1) := by decide +kernel
theorem dX0_cutTop_11 : decode cX0_cutTop 11 = .ok (.iload_n 1, 1) := by decide +kernel
theorem dX0_cutTop_12 : decode cX0_cutTop 12 = .ok (.iload_n 2, 1) := by decide +kernel
theorem dX0_cutTop_13 : decode cX0_cutTop 13 = .ok (.invokestatic 105, 3) := by decide +kernel
theorem dX0_cutTop_16 : decode cX0_cutTop 16 = .ok (.iconst (-1), 1) := by decide +kernel
theorem dX0_cutTop_17 : decode cX0_cutTop 17 = .ok (.invokevirtual 17, 3) := by decide +kernel
theorem dX0_cutTop_20 : decode cX0_cutTop 20 = .ok (.iload_n 3, 1) := by decide +kernel
theorem dX0_cutTop_21 : decode cX0_cutTop 21 = .ok (.ireturn, 1) := by decide +kernel
set_option maxRecDepth 20000 in
theorem ggX0_cutTwin_X0_read : GoodIn wsX0_cutTwin wsX0_read := goodIn_r _ [5, 6, 7, 12, 13, 14, 15, 16, 17] (by decide +kernel) (by decide +kernel)
set_option maxRecDepth 20000 in
theorem gX0_cutTwin_X0_read : GoodIn wsX0_cutTwin (wsV RX0 47 RX0 yX0_read wsX0_read) := goodIn_app (goodIn_of _ (by decide +kernel)) ggX0_cutTwin_X0_read
set_option maxRecDepth 20000 in
theorem ggX0_cutTwin_X0_write : GoodIn wsX0_cutTwin wsX0_write := goodIn_r _ [11, 6, 7, 12, 13, 14, 15, 16, 17] (by decide +kernel) (by decide +kernel)
set_option maxRecDepth 20000 in
theorem gX0_cutTwin_X0_write : GoodIn wsX0_cutTwin (wsV RX0 17 RX0 yX0_write wsX0_write) := goodIn_app (goodIn_of _ (by decide +kernel)) ggX0_cutTwin_X0_write
theorem dX0_cutTwin_0 : decode cX0_cutTwin 0 = .ok (.aload_n 0, 1) := by decide +kernel
theorem dX0_cutTwin_1 : decode cX0_cutTwin 1 = .ok (.sipush 1064, 3) := by decide +kernel
theorem dX0_cutTwin_4 : decode cX0_cutTwin 4 = .ok (.iload_n 1, 1) := by decide +kernel
theorem dX0_cutTwin_5 : decode cX0_cutTwin 5 = .ok (.iadd, 1) := by decide +kernel
theorem dX0_cutTwin_6 : decode cX0_cutTwin 6 = .ok (.invokevirtual 47, 3) := by decide +kernel
theorem dX0_cutTwin_9 : decode cX0_cutTwin 9 = .ok (.istore_n 2, 1) := by decide +kernel
theorem dX0_cutTwin_10 : decode cX0_cutTwin 10 = .ok (.aload_n 0, 1) := by decide +kernel
theorem dX0_cutTwin_11 : decode cX0_cutTwin 11 = .ok (.sipush 1064, 3) := by decide +kernel
theorem dX0_cutTwin_14 : decode cX0_cutTwin 14 = .ok (.iload_n 1, 1) := by decide +kernel
theorem dX0_cutTwin_15 : decode cX0_cutTwin 15 = .ok (.iadd, 1) := by decide +kernel
theorem dX0_cutTwin_16 : decode cX0_cutTwin 16 = .ok (.iconst (-1), 1) := by decide +kernel
theorem dX0_cutTwin_17 : decode cX0_cutTwin 17 = .ok (.invokevirtual 17, 3) := by decide +kernel
theorem dX0_cutTwin_20 : decode cX0_cutTwin 20 = .ok (.iload_n 2, 1) := by decide +kernel
theorem dX0_cutTwin_21 : decode cX0_cutTwin 21 = .ok (.ireturn, 1) := by decide +kernel
set_option maxRecDepth 20000 in
theorem ggX0_insertCell_X0_cutTwin : GoodIn wsX0_insertCell wsX0_cutTwin := goodIn_r _ [5, 6, 7, 8, 4, 9, 10, 11, 12, 13, 14, 15, 35, 36, 37, 38, 39, 40] (by decide +kernel) (by decide +kernel)
set_option maxRecDepth 20000 in
theorem gX0_insertCell_X0_cutTwin : GoodIn wsX0_insertCell (wsV RX0 71 RX0 yX0_cutTwin wsX0_cutTwin) := goodIn_app (goodIn_of _ (by decide +kernel)) ggX0_insertCell_X0_cutTwin
set_option maxRecDepth 20000 in
theorem ggX0_insertCell_X0_read : GoodIn wsX0_insertCell wsX0_read := goodIn_r _ [9, 10, 11, 35, 36, 37, 38, 39, 40] (by decide +kernel) (by decide +kernel)
set_option maxRecDepth 20000 in
theorem gX0_insertCell_X0_read : GoodIn wsX0_insertCell (wsV RX0 47 RX0 yX0_read wsX0_read) := goodIn_app (goodIn_of _ (by decide +kernel)) ggX0_insertCell_X0_read
set_option maxRecDepth 20000 in
theorem ggX0_insertCell_X0_cutTop : GoodIn wsX0_insertCell wsX0_cutTop := goodIn_r _ [19, 20, 21, 4, 22, 6, 7, 8, 9, 10, 11, 12, 13, 14, 15, 35, 36, 37, 38, 39, 40] (by decide +kernel) (by decide +kernel)
set_option maxRecDepth 20000 in
theorem gX0_insertCell_X0_cutTop : GoodIn wsX0_insertCell (wsV RX0 77 RX0 yX0_cutTop wsX0_cutTop) := goodIn_app (goodIn_of _ (by decide +kernel)) ggX0_insertCell_X0_cutTop
set_option maxRecDepth 20000 in
theorem ggX0_insertCell_X0_link : GoodIn wsX0_insertCell wsX0_link := goodIn_r _ [26, 6, 7, 8, 4, 9, 10, 11, 27, 28, 29, 30, 12, 13, 14, 15, 35, 36, 37, 38, 39, 40] (by decide +kernel) (by decide +kernel)
set_option maxRecDepth 20000 in
theorem gX0_insertCell_X0_link : GoodIn wsX0_insertCell (wsV RX0 108 RX0 yX0_link wsX0_link) := goodIn_app (goodIn_of _ (by decide +kernel)) ggX0_insertCell_X0_link
set_option maxRecDepth 20000 in
theorem ggX0_insertCell_X0_hangKey : GoodIn wsX0_insertCell wsX0_hangKey := goodIn_r _ [34, 6, 7, 8, 4, 9, 10, 11, 12, 13, 14, 15, 27, 28, 29, 30, 35, 36, 37, 38, 39, 40] (by decide +kernel) (by decide +kernel)
set_option maxRecDepth 20000 in
theorem gX0_insertCell_X0_hangKey : GoodIn wsX0_insertCell (wsV RX0 111 RX0 yX0_hangKey wsX0_hangKey) := goodIn_app (goodIn_of _ (by decide +kernel)) ggX0_insertCell_X0_hangKey
set_option maxRecDepth 20000 in
theorem ggX0_insertCell_X0_topAt : GoodIn wsX0_insertCell wsX0_topAt := goodIn_r _ [22] (by decide +kernel) (by decide +kernel)
set_option maxRecDepth 20000 in
theorem gX0_insertCell_X0_topAt : GoodIn wsX0_insertCell (va_wsS RX0 105 yX0_topAt wsX0_topAt) := goodIn_app (goodIn_of _ (by decide +kernel)) ggX0_insertCell_X0_topAt
set_option maxRecDepth 20000 in
theorem ggX0_insertCell_X0_write : GoodIn wsX0_insertCell wsX0_write := goodIn_r _ [15, 10, 11, 35, 36, 37, 38, 39, 40] (by decide +kernel) (by decide +kernel)
set_option maxRecDepth 20000 in
theorem gX0_insertCell_X0_write : GoodIn wsX0_insertCell (wsV RX0 17 RX0 yX0_write wsX0_write) := goodIn_app (goodIn_of _ (by decide +kernel)) ggX0_insertCell_X0_write
theorem dX0_insertCell_0 : decode cX0_insertCell 0 = .ok (.iload_n 2, 1) := by decide +kernel
theorem dX0_insertCell_1 : decode cX0_insertCell 1 = .ok (.istore_n 3, 1) := by decide +kernel
theorem dX0_insertCell_2 : decode cX0_insertCell 2 = .ok (.aload_n 0, 1) := by decide +kernel
theorem dX0_insertCell_3 : decode cX0_insertCell 3 = .ok (.iload_n 1, 1) := by decide +kernel
theorem dX0_insertCell_4 : decode cX0_insertCell 4 = .ok (.invokevirtual 71, 3) := by decide +kernel
theorem dX0_insertCell_7 : decode cX0_insertCell 7 = .ok (.istore 4, 2) := by decide +kernel
theorem dX0_insertCell_9 : decode cX0_insertCell 9 = .ok (.iload 4, 2) := by decide +kernel
theorem dX0_insertCell_11 : decode cX0_insertCell 11 = .ok (.iconst (-1), 1) := by decide +kernel
theorem dX0_insertCell_12 : decode cX0_insertCell 12 = .ok (.if_icmp .eq 31, 3) := by decide +kernel
theorem dX0_insertCell_15 : decode cX0_insertCell 15 = .ok (.aload_n 0, 1) := by decide +kernel
theorem dX0_insertCell_16 : decode cX0_insertCell 16 = .ok (.iload 4, 2) := by decide +kernel
theorem dX0_insertCell_18 : decode cX0_insertCell 18 = .ok (.aload_n 0, 1) := by decide +kernel
theorem dX0_insertCell_19 : decode cX0_insertCell 19 = .ok (.iload_n 1, 1) := by decide +kernel
theorem dX0_insertCell_20 : decode cX0_insertCell 20 = .ok (.aload_n 0, 1) := by decide +kernel
theorem dX0_insertCell_21 : decode cX0_insertCell 21 = .ok (.sipush 200, 3) := by decide +kernel
theorem dX0_insertCell_24 : decode cX0_insertCell 24 = .ok (.iload 4, 2) := by decide +kernel
theorem dX0_insertCell_26 : decode cX0_insertCell 26 = .ok (.iadd, 1) := by decide +kernel
theorem dX0_insertCell_27 : decode cX0_insertCell 27 = .ok (.invokevirtual 47, 3) := by decide +kernel
theorem dX0_insertCell_30 : decode cX0_insertCell 30 = .ok (.invokevirtual 77, 3) := by decide +kernel
theorem dX0_insertCell_33 : decode cX0_insertCell 33 = .ok (.invokevirtual 108, 3) := by decide +kernel
theorem dX0_insertCell_36 : decode cX0_insertCell 36 = .ok (.istore_n 3, 1) := by decide +kernel
theorem dX0_insertCell_37 : decode cX0_insertCell 37 = .ok (.aload_n 0, 1) := by decide +kernel
theorem dX0_insertCell_38 : decode cX0_insertCell 38 = .ok (.iload_n 3, 1) := by decide +kernel
theorem dX0_insertCell_39 : decode cX0_insertCell 39 = .ok (.iload_n 2, 1) := by decide +kernel
theorem dX0_insertCell_40 : decode cX0_insertCell 40 = .ok (.invokevirtual 111, 3) := by decide +kernel
theorem dX0_insertCell_43 : decode cX0_insertCell 43 = .ok (.iload_n 1, 1) := by decide +kernel
theorem dX0_insertCell_44 : decode cX0_insertCell 44 = .ok (.aload_n 0, 1) := by decide +kernel
theorem dX0_insertCell_45 : decode cX0_insertCell 45 = .ok (.sipush 200, 3) := by decide +kernel
theorem dX0_insertCell_48 : decode cX0_insertCell 48 = .ok (.iload_n 3, 1) := by decide +kernel
theorem dX0_insertCell_49 : decode cX0_insertCell 49 = .ok (.iadd, 1) := by decide +kernel
theorem dX0_insertCell_50 : decode cX0_insertCell 50 = .ok (.invokevirtual 47, 3) := by decide +kernel
theorem dX0_insertCell_53 : decode cX0_insertCell 53 = .ok (.invokestatic 105, 3) := by decide +kernel
theorem dX0_insertCell_56 : decode cX0_insertCell 56 = .ok (.istore 5, 2) := by decide +kernel
theorem dX0_insertCell_58 : decode cX0_insertCell 58 = .ok (.aload_n 0, 1) := by decide +kernel
theorem dX0_insertCell_59 : decode cX0_insertCell 59 = .ok (.aload_n 0, 1) := by decide +kernel
theorem dX0_insertCell_60 : decode cX0_insertCell 60 = .ok (.iload 5, 2) := by decide +kernel
theorem dX0_insertCell_62 : decode cX0_insertCell 62 = .ok (.invokevirtual 47, 3) := by decide +kernel
theorem dX0_insertCell_65 : decode cX0_insertCell 65 = .ok (.iconst (-1), 1) := by decide +kernel
theorem dX0_insertCell_66 : decode cX0_insertCell 66 = .ok (.if_icmp .ne 8, 3) := by decide +kernel
theorem dX0_insertCell_69 : decode cX0_insertCell 69 = .ok (.iload 5, 2) := by decide +kernel
theorem dX0_insertCell_71 : decode cX0_insertCell 71 = .ok (.goto 8, 3) := by decide +kernel
theorem dX0_insertCell_74 : decode cX0_insertCell 74 = .ok (.sipush 1064, 3) := by decide +kernel
theorem dX0_insertCell_77 : decode cX0_insertCell 77 = .ok (.iload_n 1, 1) := by decide +kernel
theorem dX0_insertCell_78 : decode cX0_insertCell 78 = .ok (.iadd, 1) := by decide +kernel
theorem dX0_insertCell_79 : decode cX0_insertCell 79 = .ok (.iload_n 3, 1) := by decide +kernel
theorem dX0_insertCell_80 : decode cX0_insertCell 80 = .ok (.invokevirtual 17, 3) := by decide +kernel
theorem dX0_insertCell_83 : decode cX0_insertCell 83 = .ok (.return_, 1) := by decide +kernel
set_option maxRecDepth 20000 in
theorem ggX0_link_X0_read : GoodIn wsX0_link wsX0_read := goodIn_r _ [5, 6, 7, 16, 17, 18, 19, 20, 21] (by decide +kernel) (by decide +kernel)
set_option maxRecDepth 20000 in
theorem gX0_link_X0_read : GoodIn wsX0_link (wsV RX0 47 RX0 yX0_read wsX0_read) := goodIn_app (goodIn_of _ (by decide +kernel)) ggX0_link_X0_read
set_option maxRecDepth 20000 in
theorem ggX0_link_X0_hangTree : GoodIn wsX0_link wsX0_hangTree := goodIn_r _ [11, 1, 2, 3, 4, 5, 6, 7, 12, 13, 14, 15, 16, 17, 18, 19, 20, 21] (by decide +kernel) (by decide +kernel)
set_option maxRecDepth 20000 in
theorem gX0_link_X0_hangTree : GoodIn wsX0_link (wsV RX0 114 RX0 yX0_hangTree wsX0_hangTree) := goodIn_app (goodIn_of _ (by decide +kernel)) ggX0_link_X0_hangTree
set_option maxRecDepth 20000 in
theorem ggX0_link_X0_write : GoodIn wsX0_link wsX0_write := goodIn_r _ [15, 6, 7, 16, 17, 18, 19, 20, 21] (by decide +kernel) (by decide +kernel)
set_option maxRecDepth 20000 in
theorem gX0_link_X0_write : GoodIn wsX0_link (wsV RX0 17 RX0 yX0_write wsX0_write) := goodIn_app (goodIn_of _ (by decide +kernel)) ggX0_link_X0_write
theorem dX0_link_0 : decode cX0_link 0 = .ok (.aload_n 0, 1) := by decide +kernel
theorem dX0_link_1 : decode cX0_link 1 = .ok (.iconst 0, 1) := by decide +kernel
theorem dX0_link_2 : decode cX0_link 2 = .ok (.iload_n 1, 1) := by decide +kernel
theorem dX0_link_3 : decode cX0_link 3 = .ok (.iadd, 1) := by decide +kernel
theorem dX0_link_4 : decode cX0_link 4 = .ok (.invokevirtual 47, 3) := by decide +kernel
theorem dX0_link_7 : decode cX0_link 7 = .ok (.aload_n 0, 1) := by decide +kernel
theorem dX0_link_8 : decode cX0_link 8 = .ok (.iconst 0, 1) := by decide +kernel
theorem dX0_link_9 : decode cX0_link 9 = .ok (.iload_n 2, 1) := by decide +kernel
theorem dX0_link_10 : decode cX0_link 10 = .ok (.iadd, 1) := by decide +kernel
theorem dX0_link_11 : decode cX0_link 11 = .ok (.invokevirtual 47, 3) := by decide +kernel
theorem dX0_link_14 : decode cX0_link 14 = .ok (.if_icmp .gt 7, 3) := by decide +kernel
theorem dX0_link_17 : decode cX0_link 17 = .ok (.iconst 1, 1) := by decide +kernel
theorem dX0_link_18 : decode cX0_link 18 = .ok (.goto 4, 3) := by decide +kernel
theorem dX0_link_21 : decode cX0_link 21 = .ok (.iconst 0, 1) := by decide +kernel
theorem dX0_link_22 : decode cX0_link 22 = .ok (.istore_n 3, 1) := by decide +kernel
theorem dX0_link_23 : decode cX0_link 23 = .ok (.iload_n 3, 1) := by decide +kernel
theorem dX0_link_24 : decode cX0_link 24 = .ok (.ifCond .eq 7, 3) := by decide +kernel
theorem dX0_link_27 : decode cX0_link 27 = .ok (.iload_n 1, 1) := by decide +kernel
theorem dX0_link_28 : decode cX0_link 28 = .ok (.goto 4, 3) := by decide +kernel
theorem dX0_link_31 : decode cX0_link 31 = .ok (.iload_n 2, 1) := by decide +kernel
theorem dX0_link_32 : decode cX0_link 32 = .ok (.istore 4, 2) := by decide +kernel
theorem dX0_link_34 : decode cX0_link 34 = .ok (.aload_n 0, 1) := by decide +kernel
theorem dX0_link_35 : decode cX0_link 35 = .ok (.iload 4, 2) := by decide +kernel
theorem dX0_link_37 : decode cX0_link 37 = .ok (.iload_n 3, 1) := by decide +kernel
theorem dX0_link_38 : decode cX0_link 38 = .ok (.ifCond .eq 7, 3) := by decide +kernel
theorem dX0_link_41 : decode cX0_link 41 = .ok (.iload_n 2, 1) := by decide +kernel
theorem dX0_link_42 : decode cX0_link 42 = .ok (.goto 4, 3) := by decide +kernel
theorem dX0_link_45 : decode cX0_link 45 = .ok (.iload_n 1, 1) := by decide +kernel
theorem dX0_link_46 : decode cX0_link 46 = .ok (.invokevirtual 114, 3) := by decide +kernel
theorem dX0_link_49 : decode cX0_link 49 = .ok (.aload_n 0, 1) := by decide +kernel
theorem dX0_link_50 : decode cX0_link 50 = .ok (.sipush 200, 3) := by decide +kernel
theorem dX0_link_53 : decode cX0_link 53 = .ok (.iload 4, 2) := by decide +kernel
theorem dX0_link_55 : decode cX0_link 55 = .ok (.iadd, 1) := by decide +kernel
theorem dX0_link_56 : decode cX0_link 56 = .ok (.aload_n 0, 1) := by decide +kernel
theorem dX0_link_57 : decode cX0_link 57 = .ok (.sipush 200, 3) := by decide +kernel
theorem dX0_link_60 : decode cX0_link 60 = .ok (.iload 4, 2) := by decide +kernel
theorem dX0_link_62 : decode cX0_link 62 = .ok (.iadd, 1) := by decide +kernel
theorem dX0_link_63 : decode cX0_link 63 = .ok (.invokevirtual 47, 3) := by decide +kernel
theorem dX0_link_66 : decode cX0_link 66 = .ok (.iconst 1, 1) := by decide +kernel
theorem dX0_link_67 : decode cX0_link 67 = .ok (.iadd, 1) := by decide +kernel
theorem dX0_link_68 : decode cX0_link 68 = .ok (.invokevirtual 17, 3) := by decide +kernel
theorem dX0_link_71 : decode cX0_link 71 = .ok (.iload 4, 2) := by decide +kernel
theorem dX0_link_73 : decode cX0_link 73 = .ok (.ireturn, 1) := by decide +kernel
set_option maxRecDepth 20000 in
theorem ggX0_hangTree_X0_read : GoodIn wsX0_hangTree wsX0_read := goodIn_r _ [5, 6, 7, 12, 13, 14, 15, 16, 17] (by decide +kernel) (by decide +kernel)
set_option maxRecDepth 20000 in
theorem gX0_hangTree_X0_read : GoodIn wsX0_hangTree (wsV RX0 47 RX0 yX0_read wsX0_read) := goodIn_app (goodIn_of _ (by decide +kernel)) ggX0_hangTree_X0_read
set_option maxRecDepth 20000 in
theorem ggX0_hangTree_X0_write : GoodIn wsX0_hangTree wsX0_write := goodIn_r _ [11, 6, 7, 12, 13, 14, 15, 16, 17] (by decide +kernel) (by decide +kernel)
set_option maxRecDepth 20000 in
theorem gX0_hangTree_X0_write : GoodIn wsX0_hangTree (wsV RX0 17 RX0 yX0_write wsX0_write) := goodIn_app (goodIn_of _ (by decide +kernel)) ggX0_hangTree_X0_write
theorem dX0_hangTree_0 : decode cX0_hangTree 0 = .ok (.aload_n 0, 1) := by decide +kernel
theorem dX0_hangTree_1 : decode cX0_hangTree 1 = .ok (.sipush 600, 3) := by decide +kernel
theorem dX0_hangTree_4 : decode cX0_hangTree 4 = .ok (.iload_n 2, 1) := by decide +kernel
theorem dX0_hangTree_5 : decode cX0_hangTree 5 = .ok (.iadd, 1) := by decide +kernel
theorem dX0_hangTree_6 : decode cX0_hangTree 6 = .ok (.aload_n 0, 1) := by decide +kernel
theorem dX0_hangTree_7 : decode cX0_hangTree 7 = .ok (.sipush 400, 3) := by decide +kernel
theorem dX0_hangTree_10 : decode cX0_hangTree 10 = .ok (.iload_n 1, 1) := by decide +kernel
theorem dX0_hangTree_11 : decode cX0_hangTree 11 = .ok (.iadd, 1) := by decide +kernel
theorem dX0_hangTree_12 : decode cX0_hangTree 12 = .ok (.invokevirtual 47, 3) := by decide +kernel
theorem dX0_hangTree_15 : decode cX0_hangTree 15 = .ok (.invokevirtual 17, 3) := by decide +kernel
theorem dX0_hangTree_18 : decode cX0_hangTree 18 = .ok (.aload_n 0, 1) := by decide +kernel
theorem dX0_hangTree_19 : decode cX0_hangTree 19 = .ok (.sipush 400, 3) := by decide +kernel
theorem dX0_hangTree_22 : decode cX0_hangTree 22 = .ok (.iload_n 1, 1) := by decide +kernel
theorem dX0_hangTree_23 : decode cX0_hangTree 23 = .ok (.iadd, 1) := by decide +kernel
theorem dX0_hangTree_24 : decode cX0_hangTree 24 = .ok (.iload_n 2, 1) := by decide +kernel
theorem dX0_hangTree_25 : decode cX0_hangTree 25 = .ok (.invokevirtual 17, 3) := by decide +kernel
theorem dX0_hangTree_28 : decode cX0_hangTree 28 = .ok (.return_, 1) := by decide +kernel
set_option maxRecDepth 20000 in
theorem ggX0_hangKey_X0_read : GoodIn wsX0_hangKey wsX0_read := goodIn_r _ [5, 6, 7, 16, 17, 18, 19, 20, 21] (by decide +kernel) (by decide +kernel)
set_option maxRecDepth 20000 in
theorem gX0_hangKey_X0_read : GoodIn wsX0_hangKey (wsV RX0 47 RX0 yX0_read wsX0_read) := goodIn_app (goodIn_of _ (by decide +kernel)) ggX0_hangKey_X0_read
set_option maxRecDepth 20000 in
theorem ggX0_hangKey_X0_write : GoodIn wsX0_hangKey wsX0_write := goodIn_r _ [11, 6, 7, 16, 17, 18, 19, 20, 21] (by decide +kernel) (by decide +kernel)
set_option maxRecDepth 20000 in
theorem gX0_hangKey_X0_write : GoodIn wsX0_hangKey (wsV RX0 17 RX0 yX0_write wsX0_write) := goodIn_app (goodIn_of _ (by decide +kernel)) ggX0_hangKey_X0_write
set_option maxRecDepth 20000 in
theorem ggX0_hangKey_X0_hangTree : GoodIn wsX0_hangKey wsX0_hangTree := goodIn_r _ [15, 1, 2, 3, 4, 5, 6, 7, 8, 9, 10, 11, 16, 17, 18, 19, 20, 21] (by decide +kernel) (by decide +kernel)
set_option maxRecDepth 20000 in
theorem gX0_hangKey_X0_hangTree : GoodIn wsX0_hangKey (wsV RX0 114 RX0 yX0_hangTree wsX0_hangTree) := goodIn_app (goodIn_of _ (by decide +kernel)) ggX0_hangKey_X0_hangTree
theorem dX0_hangKey_0 : decode cX0_hangKey 0 = .ok (.aload_n 0, 1) := by decide +kernel
theorem dX0_hangKey_1 : decode cX0_hangKey 1 = .ok (.iconst 0, 1) := by decide +kernel
theorem dX0_hangKey_2 : decode cX0_hangKey 2 = .ok (.iload_n 1, 1) := by decide +kernel
theorem dX0_hangKey_3 : decode cX0_hangKey 3 = .ok (.iadd, 1) := by decide +kernel
theorem dX0_hangKey_4 : decode cX0_hangKey 4 = .ok (.invokevirtual 47, 3) := by decide +kernel
theorem dX0_hangKey_7 : decode cX0_hangKey 7 = .ok (.istore_n 3, 1) := by decide +kernel
theorem dX0_hangKey_8 : decode cX0_hangKey 8 = .ok (.aload_n 0, 1) := by decide +kernel
theorem dX0_hangKey_9 : decode cX0_hangKey 9 = .ok (.iconst 0, 1) := by decide +kernel
theorem dX0_hangKey_10 : decode cX0_hangKey 10 = .ok (.iload_n 2, 1) := by decide +kernel
theorem dX0_hangKey_11 : decode cX0_hangKey 11 = .ok (.iadd, 1) := by decide +kernel
theorem dX0_hangKey_12 : decode cX0_hangKey 12 = .ok (.invokevirtual 47, 3) := by decide +kernel
theorem dX0_hangKey_15 : decode cX0_hangKey 15 = .ok (.istore 4, 2) := by decide +kernel
theorem dX0_hangKey_17 : decode cX0_hangKey 17 = .ok (.iload 4, 2) := by decide +kernel
theorem dX0_hangKey_19 : decode cX0_hangKey 19 = .ok (.iload_n 3, 1) := by decide +kernel
theorem dX0_hangKey_20 : decode cX0_hangKey 20 = .ok (.if_icmp .ge 20, 3) := by decide +kernel
theorem dX0_hangKey_23 : decode cX0_hangKey 23 = .ok (.aload_n 0, 1) := by decide +kernel
theorem dX0_hangKey_24 : decode cX0_hangKey 24 = .ok (.iconst 0, 1) := by decide +kernel
theorem dX0_hangKey_25 : decode cX0_hangKey 25 = .ok (.iload_n 1, 1) := by decide +kernel
theorem dX0_hangKey_26 : decode cX0_hangKey 26 = .ok (.iadd, 1) := by decide +kernel
theorem dX0_hangKey_27 : decode cX0_hangKey 27 = .ok (.iload 4, 2) := by decide +kernel
theorem dX0_hangKey_29 : decode cX0_hangKey 29 = .ok (.invokevirtual 17, 3) := by decide +kernel
theorem dX0_hangKey_32 : decode cX0_hangKey 32 = .ok (.aload_n 0, 1) := by decide +kernel
theorem dX0_hangKey_33 : decode cX0_hangKey 33 = .ok (.iconst 0, 1) := by decide +kernel
theorem dX0_hangKey_34 : decode cX0_hangKey 34 = .ok (.iload_n 2, 1) := by decide +kernel
theorem dX0_hangKey_35 : decode cX0_hangKey 35 = .ok (.iadd, 1) := by decide +kernel
theorem dX0_hangKey_36 : decode cX0_hangKey 36 = .ok (.iload_n 3, 1) := by decide +kernel
theorem dX0_hangKey_37 : decode cX0_hangKey 37 = .ok (.invokevirtual 17, 3) := by decide +kernel
theorem dX0_hangKey_40 : decode cX0_hangKey 40 = .ok (.aload_n 0, 1) := by decide +kernel
theorem dX0_hangKey_41 : decode cX0_hangKey 41 = .ok (.iload_n 1, 1) := by decide +kernel
theorem dX0_hangKey_42 : decode cX0_hangKey 42 = .ok (.iload_n 2, 1) := by decide +kernel
theorem dX0_hangKey_43 : decode cX0_hangKey 43 = .ok (.invokevirtual 114, 3) := by decide +kernel
theorem dX0_hangKey_46 : decode cX0_hangKey 46 = .ok (.return_, 1) := by decide +kernel
set_option maxRecDepth 20000 in
theorem ggX0_place_X0_read : GoodIn wsX0_place wsX0_read := goodIn_r _ [5, 6, 7, 27, 28, 29, 30, 31, 32] (by decide +kernel) (by decide +kernel)
set_option maxRecDepth 20000 in
theorem gX0_place_X0_read : GoodIn wsX0_place (wsV RX0 47 RX0 yX0_read wsX0_read) := goodIn_app (goodIn_of _ (by decide +kernel)) ggX0_place_X0_read
set_option maxRecDepth 20000 in
theorem ggX0_place_X0_cutTop : GoodIn wsX0_place wsX0_cutTop := goodIn_r _ [11, 12, 13, 4, 14, 1, 2, 3, 5, 6, 7, 15, 16, 17, 18, 27, 28, 29, 30, 31, 32] (by decide +kernel) (by decide +kernel)
set_option maxRecDepth 20000 in
theorem gX0_place_X0_cutTop : GoodIn wsX0_place (wsV RX0 77 RX0 yX0_cutTop wsX0_cutTop) := goodIn_app (goodIn_of _ (by decide +kernel)) ggX0_place_X0_cutTop
set_option maxRecDepth 20000 in
theorem ggX0_place_X0_topAt : GoodIn wsX0_place wsX0_topAt := goodIn_r _ [14] (by decide +kernel) (by decide +kernel)
set_option maxRecDepth 20000 in
theorem gX0_place_X0_topAt : GoodIn wsX0_place (va_wsS RX0 105 yX0_topAt wsX0_topAt) := goodIn_app (goodIn_of _ (by decide +kernel)) ggX0_place_X0_topAt
set_option maxRecDepth 20000 in
theorem ggX0_place_X0_write : GoodIn wsX0_place wsX0_write := goodIn_r _ [18, 6, 7, 27, 28, 29, 30, 31, 32] (by decide +kernel) (by decide +kernel)
set_option maxRecDepth 20000 in
theorem gX0_place_X0_write : GoodIn wsX0_place (wsV RX0 17 RX0 yX0_write wsX0_write) := goodIn_app (goodIn_of _ (by decide +kernel)) ggX0_place_X0_write
set_option maxRecDepth 20000 in
theorem ggX0_place_X0_link : GoodIn wsX0_place wsX0_link := goodIn_r _ [22, 1, 2, 3, 4, 5, 6, 7, 23, 24, 25, 26, 15, 16, 17, 18, 27, 28, 29, 30, 31, 32] (by decide +kernel) (by decide +kernel)
set_option maxRecDepth 20000 in
theorem gX0_place_X0_link : GoodIn wsX0_place (wsV RX0 108 RX0 yX0_link wsX0_link) := goodIn_app (goodIn_of _ (by decide +kernel)) ggX0_place_X0_link
theorem dX0_place_0 : decode cX0_place 0 = .ok (.iload_n 2, 1) := by decide +kernel
theorem dX0_place_1 : decode cX0_place 1 = .ok (.iconst (-1), 1) := by decide +kernel
theorem dX0_place_2 : decode cX0_place 2 = .ok (.if_icmp .ne 4, 3) := by decide +kernel
theorem dX0_place_5 : decode cX0_place 5 = .ok (.return_, 1) := by decide +kernel
theorem dX0_place_6 : decode cX0_place 6 = .ok (.iload_n 2, 1) := by decide +kernel
theorem dX0_place_7 : decode cX0_place 7 = .ok (.istore_n 3, 1) := by decide +kernel
theorem dX0_place_8 : decode cX0_place 8 = .ok (.aload_n 0, 1) := by decide +kernel
theorem dX0_place_9 : decode cX0_place 9 = .ok (.sipush 200, 3) := by decide +kernel
theorem dX0_place_12 : decode cX0_place 12 = .ok (.iload_n 2, 1) := by decide +kernel
theorem dX0_place_13 : decode cX0_place 13 = .ok (.iadd, 1) := by decide +kernel
theorem dX0_place_14 : decode cX0_place 14 = .ok (.invokevirtual 47, 3) := by decide +kernel
theorem dX0_place_17 : decode cX0_place 17 = .ok (.istore 4, 2) := by decide +kernel
theorem dX0_place_19 : decode cX0_place 19 = .ok (.iload 4, 2) := by decide +kernel
theorem dX0_place_21 : decode cX0_place 21 = .ok (.bipush 8, 2) := by decide +kernel
theorem dX0_place_23 : decode cX0_place 23 = .ok (.if_icmp .ge 44, 3) := by decide +kernel
theorem dX0_place_26 : decode cX0_place 26 = .ok (.aload_n 0, 1) := by decide +kernel
theorem dX0_place_27 : decode cX0_place 27 = .ok (.iload_n 1, 1) := by decide +kernel
theorem dX0_place_28 : decode cX0_place 28 = .ok (.iload 4, 2) := by decide +kernel
theorem dX0_place_30 : decode cX0_place 30 = .ok (.invokevirtual 77, 3) := by decide +kernel
theorem dX0_place_33 : decode cX0_place 33 = .ok (.istore 5, 2) := by decide +kernel
theorem dX0_place_35 : decode cX0_place 35 = .ok (.iload 5, 2) := by decide +kernel
theorem dX0_place_37 : decode cX0_place 37 = .ok (.iconst (-1), 1) := by decide +kernel
theorem dX0_place_38 : decode cX0_place 38 = .ok (.if_icmp .ne 15, 3) := by decide +kernel
theorem dX0_place_41 : decode cX0_place 41 = .ok (.aload_n 0, 1) := by decide +kernel
theorem dX0_place_42 : decode cX0_place 42 = .ok (.iload_n 1, 1) := by decide +kernel
theorem dX0_place_43 : decode cX0_place 43 = .ok (.iload 4, 2) := by decide +kernel
theorem dX0_place_45 : decode cX0_place 45 = .ok (.invokestatic 105, 3) := by decide +kernel
theorem dX0_place_48 : decode cX0_place 48 = .ok (.iload_n 3, 1) := by decide +kernel
theorem dX0_place_49 : decode cX0_place 49 = .ok (.invokevirtual 17, 3) := by decide +kernel
theorem dX0_place_52 : decode cX0_place 52 = .ok (.return_, 1) := by decide +kernel
theorem dX0_place_53 : decode cX0_place 53 = .ok (.aload_n 0, 1) := by decide +kernel
theorem dX0_place_54 : decode cX0_place 54 = .ok (.iload_n 3, 1) := by decide +kernel
theorem dX0_place_55 : decode cX0_place 55 = .ok (.iload 5, 2) := by decide +kernel
theorem dX0_place_57 : decode cX0_place 57 = .ok (.invokevirtual 108, 3) := by decide +kernel
theorem dX0_place_60 : decode cX0_place 60 = .ok (.istore_n 3, 1) := by decide +kernel
theorem dX0_place_61 : decode cX0_place 61 = .ok (.iinc 4 1, 3) := by decide +kernel
theorem dX0_place_64 : decode cX0_place 64 = .ok (.goto (-45), 3) := by decide +kernel
theorem dX0_place_67 : decode cX0_place 67 = .ok (.return_, 1) := by decide +kernel
set_option maxRecDepth 20000 in
theorem ggX0_placeChildren_X0_read : GoodIn wsX0_placeChildren wsX0_read := goodIn_r _ [5, 6, 7, 31, 32, 33, 34, 35, 36] (by decide +kernel) (by decide +kernel)
set_option maxRecDepth 20000 in
theorem gX0_placeChildren_X0_read : GoodIn wsX0_placeChildren (wsV RX0 47 RX0 yX0_read wsX0_read) := goodIn_app (goodIn_of _ (by decide +kernel)) ggX0_placeChildren_X0_read
set_option maxRecDepth 20000 in
theorem ggX0_placeChildren_X0_place : GoodIn wsX0_placeChildren wsX0_place := goodIn_r _ [11, 1, 2, 3, 4, 5, 6, 7, 12, 13, 14, 15, 16, 17, 18, 19, 20, 21, 22, 23, 24, 25, 26, 27, 28, 29, 30, 31, 32, 33, 34, 35, 36] (by decide +kernel) (by decide +kernel)
set_option maxRecDepth 20000 in
theorem gX0_placeChildren_X0_place : GoodIn wsX0_placeChildren (wsV RX0 74 RX0 yX0_place wsX0_place) := goodIn_app (goodIn_of _ (by decide +kernel)) ggX0_placeChildren_X0_place
theorem dX0_placeChildren_0 : decode cX0_placeChildren 0 = .ok (.aload_n 0, 1) := by decide +kernel
theorem dX0_placeChildren_1 : decode cX0_placeChildren 1 = .ok (.sipush 400, 3) := by decide +kernel
theorem dX0_placeChildren_4 : decode cX0_placeChildren 4 = .ok (.iload_n 2, 1) := by decide +kernel
theorem dX0_placeChildren_5 : decode cX0_placeChildren 5 = .ok (.iadd, 1) := by decide +kernel
theorem dX0_placeChildren_6 : decode cX0_placeChildren 6 = .ok (.invokevirtual 47, 3) := by decide +kernel
theorem dX0_placeChildren_9 : decode cX0_placeChildren 9 = .ok (.istore_n 3, 1) := by decide +kernel
theorem dX0_placeChildren_10 : decode cX0_placeChildren 10 = .ok (.iconst 0, 1) := by decide +kernel
theorem dX0_placeChildren_11 : decode cX0_placeChildren 11 = .ok (.istore 4, 2) := by decide +kernel
theorem dX0_placeChildren_13 : decode cX0_placeChildren 13 = .ok (.iload 4, 2) := by decide +kernel
theorem dX0_placeChildren_15 : decode cX0_placeChildren 15 = .ok (.sipush 200, 3) := by decide +kernel
theorem dX0_placeChildren_18 : decode cX0_placeChildren 18 = .ok (.if_icmp .ge 34, 3) := by decide +kernel
theorem dX0_placeChildren_21 : decode cX0_placeChildren 21 = .ok (.iload_n 3, 1) := by decide +kernel
theorem dX0_placeChildren_22 : decode cX0_placeChildren 22 = .ok (.iconst (-1), 1) := by decide +kernel
theorem dX0_placeChildren_23 : decode cX0_placeChildren 23 = .ok (.if_icmp .eq 29, 3) := by decide +kernel
theorem dX0_placeChildren_26 : decode cX0_placeChildren 26 = .ok (.aload_n 0, 1) := by decide +kernel
theorem dX0_placeChildren_27 : decode cX0_placeChildren 27 = .ok (.sipush 600, 3) := by decide +kernel
theorem dX0_placeChildren_30 : decode cX0_placeChildren 30 = .ok (.iload_n 3, 1) := by decide +kernel
theorem dX0_placeChildren_31 : decode cX0_placeChildren 31 = .ok (.iadd, 1) := by decide +kernel
theorem dX0_placeChildren_32 : decode cX0_placeChildren 32 = .ok (.invokevirtual 47, 3) := by decide +kernel
theorem dX0_placeChildren_35 : decode cX0_placeChildren 35 = .ok (.istore 5, 2) := by decide +kernel
theorem dX0_placeChildren_37 : decode cX0_placeChildren 37 = .ok (.aload_n 0, 1) := by decide +kernel
theorem dX0_placeChildren_38 : decode cX0_placeChildren 38 = .ok (.iload_n 1, 1) := by decide +kernel
theorem dX0_placeChildren_39 : decode cX0_placeChildren 39 = .ok (.iload_n 3, 1) := by decide +kernel
theorem dX0_placeChildren_40 : decode cX0_placeChildren 40 = .ok (.invokevirtual 74, 3) := by decide +kernel
theorem dX0_placeChildren_43 : decode cX0_placeChildren 43 = .ok (.iload 5, 2) := by decide +kernel
theorem dX0_placeChildren_45 : decode cX0_placeChildren 45 = .ok (.istore_n 3, 1) := by decide +kernel
theorem dX0_placeChildren_46 : decode cX0_placeChildren 46 = .ok (.iinc 4 1, 3) := by decide +kernel
theorem dX0_placeChildren_49 : decode cX0_placeChildren 49 = .ok (.goto (-36), 3) := by decide +kernel
theorem dX0_placeChildren_52 : decode cX0_placeChildren 52 = .ok (.return_, 1) := by decide +kernel
set_option maxRecDepth 20000 in
theorem ggX0_leastRoot_X0_exists : GoodIn wsX0_leastRoot wsX0_exists := goodIn_r _ [5, 6, 20, 21, 22, 23, 24, 25] (by decide +kernel) (by decide +kernel)
set_option maxRecDepth 20000 in
theorem gX0_leastRoot_X0_exists : GoodIn wsX0_leastRoot (wsV RX0 36 RX0 yX0_exists wsX0_exists) := goodIn_app (goodIn_of _ (by decide +kernel)) ggX0_leastRoot_X0_exists
set_option maxRecDepth 20000 in
theorem ggX0_leastRoot_X0_read : GoodIn wsX0_leastRoot wsX0_read := goodIn_r _ [10, 11, 12, 20, 21, 22, 23, 24, 25] (by decide +kernel) (by decide +kernel)
set_option maxRecDepth 20000 in
theorem gX0_leastRoot_X0_read : GoodIn wsX0_leastRoot (wsV RX0 47 RX0 yX0_read wsX0_read) := goodIn_app (goodIn_of _ (by decide +kernel)) ggX0_leastRoot_X0_read
set_option maxRecDepth 20000 in
theorem ggX0_leastRoot_X0_topAt : GoodIn wsX0_leastRoot wsX0_topAt := goodIn_r _ [15] (by decide +kernel) (by decide +kernel)
set_option maxRecDepth 20000 in
theorem gX0_leastRoot_X0_topAt : GoodIn wsX0_leastRoot (va_wsS RX0 105 yX0_topAt wsX0_topAt) := goodIn_app (goodIn_of _ (by decide +kernel)) ggX0_leastRoot_X0_topAt
set_option maxRecDepth 20000 in
theorem ggX0_leastRoot_X0_lesserRoot : GoodIn wsX0_leastRoot wsX0_lesserRoot := goodIn_r _ [19, 7, 8, 9, 4, 10, 11, 12, 20, 21, 22, 23, 24, 25] (by decide +kernel) (by decide +kernel)
set_option maxRecDepth 20000 in
theorem gX0_leastRoot_X0_lesserRoot : GoodIn wsX0_leastRoot (wsV RX0 117 RX0 yX0_lesserRoot wsX0_lesserRoot) := goodIn_app (goodIn_of _ (by decide +kernel)) ggX0_leastRoot_X0_lesserRoot
theorem dX0_leastRoot_0 : decode cX0_leastRoot 0 = .ok (.aload_n 0, 1) := by decide +kernel
theorem dX0_leastRoot_1 : decode cX0_leastRoot 1 = .ok (.iload_n 1, 1) := by decide +kernel
theorem dX0_leastRoot_2 : decode cX0_leastRoot 2 = .ok (.invokevirtual 36, 3) := by decide +kernel
theorem dX0_leastRoot_5 : decode cX0_leastRoot 5 = .ok (.ifCond .ne 5, 3) := by decide +kernel
theorem dX0_leastRoot_8 : decode cX0_leastRoot 8 = .ok (.iconst (-1), 1) := by decide +kernel
theorem dX0_leastRoot_9 : decode cX0_leastRoot 9 = .ok (.ireturn, 1) := by decide +kernel
theorem dX0_leastRoot_10 : decode cX0_leastRoot 10 = .ok (.aload_n 0, 1) := by decide +kernel
theorem dX0_leastRoot_11 : decode cX0_leastRoot 11 = .ok (.sipush 1064, 3) := by decide +kernel
theorem dX0_leastRoot_14 : decode cX0_leastRoot 14 = .ok (.iload_n 1, 1) := by decide +kernel
theorem dX0_leastRoot_15 : decode cX0_leastRoot 15 = .ok (.iadd, 1) := by decide +kernel
theorem dX0_leastRoot_16 : decode cX0_leastRoot 16 = .ok (.invokevirtual 47, 3) := by decide +kernel
theorem dX0_leastRoot_19 : decode cX0_leastRoot 19 = .ok (.istore_n 2, 1) := by decide +kernel
theorem dX0_leastRoot_20 : decode cX0_leastRoot 20 = .ok (.iconst 0, 1) := by decide +kernel
theorem dX0_leastRoot_21 : decode cX0_leastRoot 21 = .ok (.istore_n 3, 1) := by decide +kernel
theorem dX0_leastRoot_22 : decode cX0_leastRoot 22 = .ok (.iload_n 3, 1) := by decide +kernel
theorem dX0_leastRoot_23 : decode cX0_leastRoot 23 = .ok (.bipush 8, 2) := by decide +kernel
theorem dX0_leastRoot_25 : decode cX0_leastRoot 25 = .ok (.if_icmp .ge 24, 3) := by decide +kernel
theorem dX0_leastRoot_28 : decode cX0_leastRoot 28 = .ok (.aload_n 0, 1) := by decide +kernel
theorem dX0_leastRoot_29 : decode cX0_leastRoot 29 = .ok (.iload_n 2, 1) := by decide +kernel
theorem dX0_leastRoot_30 : decode cX0_leastRoot 30 = .ok (.aload_n 0, 1) := by decide +kernel
theorem dX0_leastRoot_31 : decode cX0_leastRoot 31 = .ok (.iload_n 1, 1) := by decide +kernel
theorem dX0_leastRoot_32 : decode cX0_leastRoot 32 = .ok (.iload_n 3, 1) := by decide +kernel
theorem dX0_leastRoot_33 : decode cX0_leastRoot 33 = .ok (.invokestatic 105, 3) := by decide +kernel
theorem dX0_leastRoot_36 : decode cX0_leastRoot 36 = .ok (.invokevirtual 47, 3) := by decide +kernel
theorem dX0_leastRoot_39 : decode cX0_leastRoot 39 = .ok (.invokevirtual 117, 3) := by decide +kernel
theorem dX0_leastRoot_42 : decode cX0_leastRoot 42 = .ok (.istore_n 2, 1) := by decide +kernel
theorem dX0_leastRoot_43 : decode cX0_leastRoot 43 = .ok (.iinc 3 1, 3) := by decide +kernel
theorem dX0_leastRoot_46 : decode cX0_leastRoot 46 = .ok (.goto (-24), 3) := by decide +kernel
theorem dX0_leastRoot_49 : decode cX0_leastRoot 49 = .ok (.iload_n 2, 1) := by decide +kernel
theorem dX0_leastRoot_50 : decode cX0_leastRoot 50 = .ok (.ireturn, 1) := by decide +kernel
set_option maxRecDepth 20000 in
theorem ggX0_lesserRoot_X0_read : GoodIn wsX0_lesserRoot wsX0_read := goodIn_r _ [5, 6, 7, 8, 9, 10, 11, 12, 13] (by decide +kernel) (by decide +kernel)
set_option maxRecDepth 20000 in
theorem gX0_lesserRoot_X0_read : GoodIn wsX0_lesserRoot (wsV RX0 47 RX0 yX0_read wsX0_read) := goodIn_app (goodIn_of _ (by decide +kernel)) ggX0_lesserRoot_X0_read
theorem dX0_lesserRoot_0 : decode cX0_lesserRoot 0 = .ok (.iload_n 1, 1) := by decide +kernel
theorem dX0_lesserRoot_1 : decode cX0_lesserRoot 1 = .ok (.iconst (-1), 1) := by decide +kernel
theorem dX0_lesserRoot_2 : decode cX0_lesserRoot 2 = .ok (.if_icmp .eq 8, 3) := by decide +kernel
theorem dX0_lesserRoot_5 : decode cX0_lesserRoot 5 = .ok (.iload_n 2, 1) := by decide +kernel
theorem dX0_lesserRoot_6 : decode cX0_lesserRoot 6 = .ok (.iconst (-1), 1) := by decide +kernel
theorem dX0_lesserRoot_7 : decode cX0_lesserRoot 7 = .ok (.if_icmp .ne 14, 3) := by decide +kernel
theorem dX0_lesserRoot_10 : decode cX0_lesserRoot 10 = .ok (.iload_n 1, 1) := by decide +kernel
theorem dX0_lesserRoot_11 : decode cX0_lesserRoot 11 = .ok (.iconst (-1), 1) := by decide +kernel
theorem dX0_lesserRoot_12 : decode cX0_lesserRoot 12 = .ok (.if_icmp .ne 7, 3) := by decide +kernel
theorem dX0_lesserRoot_15 : decode cX0_lesserRoot 15 = .ok (.iload_n 2, 1) := by decide +kernel
theorem dX0_lesserRoot_16 : decode cX0_lesserRoot 16 = .ok (.goto 4, 3) := by decide +kernel
theorem dX0_lesserRoot_19 : decode cX0_lesserRoot 19 = .ok (.iload_n 1, 1) := by decide +kernel
theorem dX0_lesserRoot_20 : decode cX0_lesserRoot 20 = .ok (.ireturn, 1) := by decide +kernel
theorem dX0_lesserRoot_21 : decode cX0_lesserRoot 21 = .ok (.aload_n 0, 1) := by decide +kernel
theorem dX0_lesserRoot_22 : decode cX0_lesserRoot 22 = .ok (.iconst 0, 1) := by decide +kernel
theorem dX0_lesserRoot_23 : decode cX0_lesserRoot 23 = .ok (.iload_n 1, 1) := by decide +kernel
theorem dX0_lesserRoot_24 : decode cX0_lesserRoot 24 = .ok (.iadd, 1) := by decide +kernel
theorem dX0_lesserRoot_25 : decode cX0_lesserRoot 25 = .ok (.invokevirtual 47, 3) := by decide +kernel
theorem dX0_lesserRoot_28 : decode cX0_lesserRoot 28 = .ok (.aload_n 0, 1) := by decide +kernel
theorem dX0_lesserRoot_29 : decode cX0_lesserRoot 29 = .ok (.iconst 0, 1) := by decide +kernel
theorem dX0_lesserRoot_30 : decode cX0_lesserRoot 30 = .ok (.iload_n 2, 1) := by decide +kernel
theorem dX0_lesserRoot_31 : decode cX0_lesserRoot 31 = .ok (.iadd, 1) := by decide +kernel
theorem dX0_lesserRoot_32 : decode cX0_lesserRoot 32 = .ok (.invokevirtual 47, 3) := by decide +kernel
theorem dX0_lesserRoot_35 : decode cX0_lesserRoot 35 = .ok (.if_icmp .gt 7, 3) := by decide +kernel
theorem dX0_lesserRoot_38 : decode cX0_lesserRoot 38 = .ok (.iload_n 1, 1) := by decide +kernel
theorem dX0_lesserRoot_39 : decode cX0_lesserRoot 39 = .ok (.goto 4, 3) := by decide +kernel
theorem dX0_lesserRoot_42 : decode cX0_lesserRoot 42 = .ok (.iload_n 2, 1) := by decide +kernel
theorem dX0_lesserRoot_43 : decode cX0_lesserRoot 43 = .ok (.ireturn, 1) := by decide +kernel
set_option maxRecDepth 20000 in
theorem ggX0_cutRoot_X0_cutTwin : GoodIn wsX0_cutRoot wsX0_cutTwin := goodIn_r _ [5, 6, 7, 8, 4, 9, 10, 11, 12, 13, 14, 15, 35, 36, 37, 38, 39, 40] (by decide +kernel) (by decide +kernel)
set_option maxRecDepth 20000 in
theorem gX0_cutRoot_X0_cutTwin : GoodIn wsX0_cutRoot (wsV RX0 71 RX0 yX0_cutTwin wsX0_cutTwin) := goodIn_app (goodIn_of _ (by decide +kernel)) ggX0_cutRoot_X0_cutTwin
set_option maxRecDepth 20000 in
theorem ggX0_cutRoot_X0_read : GoodIn wsX0_cutRoot wsX0_read := goodIn_r _ [9, 10, 11, 35, 36, 37, 38, 39, 40] (by decide +kernel) (by decide +kernel)
set_option maxRecDepth 20000 in
theorem gX0_cutRoot_X0_read : GoodIn wsX0_cutRoot (wsV RX0 47 RX0 yX0_read wsX0_read) := goodIn_app (goodIn_of _ (by decide +kernel)) ggX0_cutRoot_X0_read
set_option maxRecDepth 20000 in
theorem ggX0_cutRoot_X0_cutTop : GoodIn wsX0_cutRoot wsX0_cutTop := goodIn_r _ [19, 20, 21, 4, 22, 6, 7, 8, 9, 10, 11, 12, 13, 14, 15, 35, 36, 37, 38, 39, 40] (by decide +kernel) (by decide +kernel)
set_option maxRecDepth 20000 in
theorem gX0_cutRoot_X0_cutTop : GoodIn wsX0_cutRoot (wsV RX0 77 RX0 yX0_cutTop wsX0_cutTop) := goodIn_app (goodIn_of _ (by decide +kernel)) ggX0_cutRoot_X0_cutTop
set_option maxRecDepth 20000 in
theorem ggX0_cutRoot_X0_place : GoodIn wsX0_cutRoot wsX0_place := goodIn_r _ [26, 6, 7, 8, 4, 9, 10, 11, 16, 17, 18, 19, 20, 21, 22, 12, 13, 14, 15, 27, 28, 29, 30, 31, 32, 33, 34, 35, 36, 37, 38, 39, 40] (by decide +kernel) (by decide +kernel)
set_option maxRecDepth 20000 in
theorem gX0_cutRoot_X0_place : GoodIn wsX0_cutRoot (wsV RX0 74 RX0 yX0_place wsX0_place) := goodIn_app (goodIn_of _ (by decide +kernel)) ggX0_cutRoot_X0_place
theorem dX0_cutRoot_0 : decode cX0_cutRoot 0 = .ok (.aload_n 0, 1) := by decide +kernel
theorem dX0_cutRoot_1 : decode cX0_cutRoot 1 = .ok (.iload_n 1, 1) := by decide +kernel
theorem dX0_cutRoot_2 : decode cX0_cutRoot 2 = .ok (.invokevirtual 71, 3) := by decide +kernel
theorem dX0_cutRoot_5 : decode cX0_cutRoot 5 = .ok (.istore_n 3, 1) := by decide +kernel
theorem dX0_cutRoot_6 : decode cX0_cutRoot 6 = .ok (.iload_n 3, 1) := by decide +kernel
theorem dX0_cutRoot_7 : decode cX0_cutRoot 7 = .ok (.iload_n 2, 1) := by decide +kernel
theorem dX0_cutRoot_8 : decode cX0_cutRoot 8 = .ok (.if_icmp .eq 24, 3) := by decide +kernel
theorem dX0_cutRoot_11 : decode cX0_cutRoot 11 = .ok (.aload_n 0, 1) := by decide +kernel
theorem dX0_cutRoot_12 : decode cX0_cutRoot 12 = .ok (.iload_n 1, 1) := by decide +kernel
theorem dX0_cutRoot_13 : decode cX0_cutRoot 13 = .ok (.aload_n 0, 1) := by decide +kernel
theorem dX0_cutRoot_14 : decode cX0_cutRoot 14 = .ok (.sipush 200, 3) := by decide +kernel
theorem dX0_cutRoot_17 : decode cX0_cutRoot 17 = .ok (.iload_n 2, 1) := by decide +kernel
theorem dX0_cutRoot_18 : decode cX0_cutRoot 18 = .ok (.iadd, 1) := by decide +kernel
theorem dX0_cutRoot_19 : decode cX0_cutRoot 19 = .ok (.invokevirtual 47, 3) := by decide +kernel
theorem dX0_cutRoot_22 : decode cX0_cutRoot 22 = .ok (.invokevirtual 77, 3) := by decide +kernel
theorem dX0_cutRoot_25 : decode cX0_cutRoot 25 = .ok (.pop, 1) := by decide +kernel
theorem dX0_cutRoot_26 : decode cX0_cutRoot 26 = .ok (.aload_n 0, 1) := by decide +kernel
theorem dX0_cutRoot_27 : decode cX0_cutRoot 27 = .ok (.iload_n 1, 1) := by decide +kernel
theorem dX0_cutRoot_28 : decode cX0_cutRoot 28 = .ok (.iload_n 3, 1) := by decide +kernel
theorem dX0_cutRoot_29 : decode cX0_cutRoot 29 = .ok (.invokevirtual 74, 3) := by decide +kernel
theorem dX0_cutRoot_32 : decode cX0_cutRoot 32 = .ok (.return_, 1) := by decide +kernel
set_option maxRecDepth 20000 in
theorem ggX0_listCells_X0_read : GoodIn wsX0_listCells wsX0_read := goodIn_r _ [5, 6, 7, 19, 20, 21, 22, 23, 24] (by decide +kernel) (by decide +kernel)
set_option maxRecDepth 20000 in
theorem gX0_listCells_X0_read : GoodIn wsX0_listCells (wsV RX0 47 RX0 yX0_read wsX0_read) := goodIn_app (goodIn_of _ (by decide +kernel)) ggX0_listCells_X0_read
set_option maxRecDepth 20000 in
theorem ggX0_listCells_X0_listChain : GoodIn wsX0_listCells wsX0_listChain := goodIn_r _ [11, 12, 13, 14, 4, 15, 6, 7, 1, 2, 3, 5, 19, 20, 21, 22, 23, 24] (by decide +kernel) (by decide +kernel)
set_option maxRecDepth 20000 in
theorem gX0_listCells_X0_listChain : GoodIn wsX0_listCells (wsV RX0 120 RX0 yX0_listChain wsX0_listChain) := goodIn_app (goodIn_of _ (by decide +kernel)) ggX0_listCells_X0_listChain
set_option maxRecDepth 20000 in
theorem ggX0_listCells_X0_topAt : GoodIn wsX0_listCells wsX0_topAt := goodIn_r _ [18] (by decide +kernel) (by decide +kernel)
set_option maxRecDepth 20000 in
theorem gX0_listCells_X0_topAt : GoodIn wsX0_listCells (va_wsS RX0 105 yX0_topAt wsX0_topAt) := goodIn_app (goodIn_of _ (by decide +kernel)) ggX0_listCells_X0_topAt
