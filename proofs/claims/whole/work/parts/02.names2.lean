theorem dX0_listCells_0 : decode cX0_listCells 0 = .ok (.aload_n 0, 1) := by decide +kernel
theorem dX0_listCells_1 : decode cX0_listCells 1 = .ok (.iconst 0, 1) := by decide +kernel
theorem dX0_listCells_2 : decode cX0_listCells 2 = .ok (.aload_n 0, 1) := by decide +kernel
theorem dX0_listCells_3 : decode cX0_listCells 3 = .ok (.sipush 1064, 3) := by decide +kernel
theorem dX0_listCells_6 : decode cX0_listCells 6 = .ok (.iload_n 1, 1) := by decide +kernel
theorem dX0_listCells_7 : decode cX0_listCells 7 = .ok (.iadd, 1) := by decide +kernel
theorem dX0_listCells_8 : decode cX0_listCells 8 = .ok (.invokevirtual 47, 3) := by decide +kernel
theorem dX0_listCells_11 : decode cX0_listCells 11 = .ok (.iconst 1, 1) := by decide +kernel
theorem dX0_listCells_12 : decode cX0_listCells 12 = .ok (.invokevirtual 120, 3) := by decide +kernel
theorem dX0_listCells_15 : decode cX0_listCells 15 = .ok (.istore_n 2, 1) := by decide +kernel
theorem dX0_listCells_16 : decode cX0_listCells 16 = .ok (.iconst 0, 1) := by decide +kernel
theorem dX0_listCells_17 : decode cX0_listCells 17 = .ok (.istore_n 3, 1) := by decide +kernel
theorem dX0_listCells_18 : decode cX0_listCells 18 = .ok (.iload_n 3, 1) := by decide +kernel
theorem dX0_listCells_19 : decode cX0_listCells 19 = .ok (.bipush 8, 2) := by decide +kernel
theorem dX0_listCells_21 : decode cX0_listCells 21 = .ok (.if_icmp .ge 25, 3) := by decide +kernel
theorem dX0_listCells_24 : decode cX0_listCells 24 = .ok (.aload_n 0, 1) := by decide +kernel
theorem dX0_listCells_25 : decode cX0_listCells 25 = .ok (.iload_n 2, 1) := by decide +kernel
theorem dX0_listCells_26 : decode cX0_listCells 26 = .ok (.aload_n 0, 1) := by decide +kernel
theorem dX0_listCells_27 : decode cX0_listCells 27 = .ok (.iload_n 1, 1) := by decide +kernel
theorem dX0_listCells_28 : decode cX0_listCells 28 = .ok (.iload_n 3, 1) := by decide +kernel
theorem dX0_listCells_29 : decode cX0_listCells 29 = .ok (.invokestatic 105, 3) := by decide +kernel
theorem dX0_listCells_32 : decode cX0_listCells 32 = .ok (.invokevirtual 47, 3) := by decide +kernel
theorem dX0_listCells_35 : decode cX0_listCells 35 = .ok (.iconst 1, 1) := by decide +kernel
theorem dX0_listCells_36 : decode cX0_listCells 36 = .ok (.invokevirtual 120, 3) := by decide +kernel
theorem dX0_listCells_39 : decode cX0_listCells 39 = .ok (.istore_n 2, 1) := by decide +kernel
theorem dX0_listCells_40 : decode cX0_listCells 40 = .ok (.iinc 3 1, 3) := by decide +kernel
theorem dX0_listCells_43 : decode cX0_listCells 43 = .ok (.goto (-25), 3) := by decide +kernel
theorem dX0_listCells_46 : decode cX0_listCells 46 = .ok (.iconst 0, 1) := by decide +kernel
theorem dX0_listCells_47 : decode cX0_listCells 47 = .ok (.istore_n 3, 1) := by decide +kernel
theorem dX0_listCells_48 : decode cX0_listCells 48 = .ok (.iload_n 3, 1) := by decide +kernel
theorem dX0_listCells_49 : decode cX0_listCells 49 = .ok (.iload_n 2, 1) := by decide +kernel
theorem dX0_listCells_50 : decode cX0_listCells 50 = .ok (.if_icmp .ge 42, 3) := by decide +kernel
theorem dX0_listCells_53 : decode cX0_listCells 53 = .ok (.iload_n 3, 1) := by decide +kernel
theorem dX0_listCells_54 : decode cX0_listCells 54 = .ok (.sipush 200, 3) := by decide +kernel
theorem dX0_listCells_57 : decode cX0_listCells 57 = .ok (.if_icmp .ge 35, 3) := by decide +kernel
theorem dX0_listCells_60 : decode cX0_listCells 60 = .ok (.aload_n 0, 1) := by decide +kernel
theorem dX0_listCells_61 : decode cX0_listCells 61 = .ok (.iload_n 2, 1) := by decide +kernel
theorem dX0_listCells_62 : decode cX0_listCells 62 = .ok (.aload_n 0, 1) := by decide +kernel
theorem dX0_listCells_63 : decode cX0_listCells 63 = .ok (.sipush 400, 3) := by decide +kernel
theorem dX0_listCells_66 : decode cX0_listCells 66 = .ok (.aload_n 0, 1) := by decide +kernel
theorem dX0_listCells_67 : decode cX0_listCells 67 = .ok (.sipush 800, 3) := by decide +kernel
theorem dX0_listCells_70 : decode cX0_listCells 70 = .ok (.iload_n 3, 1) := by decide +kernel
theorem dX0_listCells_71 : decode cX0_listCells 71 = .ok (.iadd, 1) := by decide +kernel
theorem dX0_listCells_72 : decode cX0_listCells 72 = .ok (.invokevirtual 47, 3) := by decide +kernel
theorem dX0_listCells_75 : decode cX0_listCells 75 = .ok (.iadd, 1) := by decide +kernel
theorem dX0_listCells_76 : decode cX0_listCells 76 = .ok (.invokevirtual 47, 3) := by decide +kernel
theorem dX0_listCells_79 : decode cX0_listCells 79 = .ok (.sipush 200, 3) := by decide +kernel
theorem dX0_listCells_82 : decode cX0_listCells 82 = .ok (.invokevirtual 120, 3) := by decide +kernel
theorem dX0_listCells_85 : decode cX0_listCells 85 = .ok (.istore_n 2, 1) := by decide +kernel
theorem dX0_listCells_86 : decode cX0_listCells 86 = .ok (.iinc 3 1, 3) := by decide +kernel
theorem dX0_listCells_89 : decode cX0_listCells 89 = .ok (.goto (-41), 3) := by decide +kernel
theorem dX0_listCells_92 : decode cX0_listCells 92 = .ok (.iload_n 2, 1) := by decide +kernel
theorem dX0_listCells_93 : decode cX0_listCells 93 = .ok (.ireturn, 1) := by decide +kernel
set_option maxRecDepth 20000 in
theorem ggX0_listChain_X0_write : GoodIn wsX0_listChain wsX0_write := goodIn_r _ [5, 6, 7, 12, 13, 14, 15, 16, 17] (by decide +kernel) (by decide +kernel)
set_option maxRecDepth 20000 in
theorem gX0_listChain_X0_write : GoodIn wsX0_listChain (wsV RX0 17 RX0 yX0_write wsX0_write) := goodIn_app (goodIn_of _ (by decide +kernel)) ggX0_listChain_X0_write
set_option maxRecDepth 20000 in
theorem ggX0_listChain_X0_read : GoodIn wsX0_listChain wsX0_read := goodIn_r _ [11, 6, 7, 12, 13, 14, 15, 16, 17] (by decide +kernel) (by decide +kernel)
set_option maxRecDepth 20000 in
theorem gX0_listChain_X0_read : GoodIn wsX0_listChain (wsV RX0 47 RX0 yX0_read wsX0_read) := goodIn_app (goodIn_of _ (by decide +kernel)) ggX0_listChain_X0_read
theorem dX0_listChain_0 : decode cX0_listChain 0 = .ok (.iload_n 1, 1) := by decide +kernel
theorem dX0_listChain_1 : decode cX0_listChain 1 = .ok (.istore 4, 2) := by decide +kernel
theorem dX0_listChain_3 : decode cX0_listChain 3 = .ok (.iload_n 2, 1) := by decide +kernel
theorem dX0_listChain_4 : decode cX0_listChain 4 = .ok (.istore 5, 2) := by decide +kernel
theorem dX0_listChain_6 : decode cX0_listChain 6 = .ok (.iconst 0, 1) := by decide +kernel
theorem dX0_listChain_7 : decode cX0_listChain 7 = .ok (.istore 6, 2) := by decide +kernel
theorem dX0_listChain_9 : decode cX0_listChain 9 = .ok (.iload 6, 2) := by decide +kernel
theorem dX0_listChain_11 : decode cX0_listChain 11 = .ok (.iload_n 3, 1) := by decide +kernel
theorem dX0_listChain_12 : decode cX0_listChain 12 = .ok (.if_icmp .ge 50, 3) := by decide +kernel
theorem dX0_listChain_15 : decode cX0_listChain 15 = .ok (.iload 5, 2) := by decide +kernel
theorem dX0_listChain_17 : decode cX0_listChain 17 = .ok (.iconst (-1), 1) := by decide +kernel
theorem dX0_listChain_18 : decode cX0_listChain 18 = .ok (.if_icmp .eq 44, 3) := by decide +kernel
theorem dX0_listChain_21 : decode cX0_listChain 21 = .ok (.iload 4, 2) := by decide +kernel
theorem dX0_listChain_23 : decode cX0_listChain 23 = .ok (.sipush 200, 3) := by decide +kernel
theorem dX0_listChain_26 : decode cX0_listChain 26 = .ok (.if_icmp .ge 36, 3) := by decide +kernel
theorem dX0_listChain_29 : decode cX0_listChain 29 = .ok (.aload_n 0, 1) := by decide +kernel
theorem dX0_listChain_30 : decode cX0_listChain 30 = .ok (.sipush 800, 3) := by decide +kernel
theorem dX0_listChain_33 : decode cX0_listChain 33 = .ok (.iload 4, 2) := by decide +kernel
theorem dX0_listChain_35 : decode cX0_listChain 35 = .ok (.iadd, 1) := by decide +kernel
theorem dX0_listChain_36 : decode cX0_listChain 36 = .ok (.iload 5, 2) := by decide +kernel
theorem dX0_listChain_38 : decode cX0_listChain 38 = .ok (.invokevirtual 17, 3) := by decide +kernel
theorem dX0_listChain_41 : decode cX0_listChain 41 = .ok (.iinc 4 1, 3) := by decide +kernel
theorem dX0_listChain_44 : decode cX0_listChain 44 = .ok (.aload_n 0, 1) := by decide +kernel
theorem dX0_listChain_45 : decode cX0_listChain 45 = .ok (.sipush 600, 3) := by decide +kernel
theorem dX0_listChain_48 : decode cX0_listChain 48 = .ok (.iload 5, 2) := by decide +kernel
theorem dX0_listChain_50 : decode cX0_listChain 50 = .ok (.iadd, 1) := by decide +kernel
theorem dX0_listChain_51 : decode cX0_listChain 51 = .ok (.invokevirtual 47, 3) := by decide +kernel
theorem dX0_listChain_54 : decode cX0_listChain 54 = .ok (.istore 5, 2) := by decide +kernel
theorem dX0_listChain_56 : decode cX0_listChain 56 = .ok (.iinc 6 1, 3) := by decide +kernel
theorem dX0_listChain_59 : decode cX0_listChain 59 = .ok (.goto (-50), 3) := by decide +kernel
theorem dX0_listChain_62 : decode cX0_listChain 62 = .ok (.iload 4, 2) := by decide +kernel
theorem dX0_listChain_64 : decode cX0_listChain 64 = .ok (.ireturn, 1) := by decide +kernel
set_option maxRecDepth 20000 in
theorem ggX0_listedKey_X0_read : GoodIn wsX0_listedKey wsX0_read := goodIn_r _ [5, 6, 7, 8, 9, 10, 11, 12, 13] (by decide +kernel) (by decide +kernel)
set_option maxRecDepth 20000 in
theorem gX0_listedKey_X0_read : GoodIn wsX0_listedKey (wsV RX0 47 RX0 yX0_read wsX0_read) := goodIn_app (goodIn_of _ (by decide +kernel)) ggX0_listedKey_X0_read
theorem dX0_listedKey_0 : decode cX0_listedKey 0 = .ok (.aload_n 0, 1) := by decide +kernel
theorem dX0_listedKey_1 : decode cX0_listedKey 1 = .ok (.iconst 0, 1) := by decide +kernel
theorem dX0_listedKey_2 : decode cX0_listedKey 2 = .ok (.aload_n 0, 1) := by decide +kernel
theorem dX0_listedKey_3 : decode cX0_listedKey 3 = .ok (.sipush 800, 3) := by decide +kernel
theorem dX0_listedKey_6 : decode cX0_listedKey 6 = .ok (.iload_n 1, 1) := by decide +kernel
theorem dX0_listedKey_7 : decode cX0_listedKey 7 = .ok (.iadd, 1) := by decide +kernel
theorem dX0_listedKey_8 : decode cX0_listedKey 8 = .ok (.invokevirtual 47, 3) := by decide +kernel
theorem dX0_listedKey_11 : decode cX0_listedKey 11 = .ok (.iadd, 1) := by decide +kernel
theorem dX0_listedKey_12 : decode cX0_listedKey 12 = .ok (.invokevirtual 47, 3) := by decide +kernel
theorem dX0_listedKey_15 : decode cX0_listedKey 15 = .ok (.ireturn, 1) := by decide +kernel
set_option maxRecDepth 20000 in
theorem ggX0_kthListed_X0_countUpTo : GoodIn wsX0_kthListed wsX0_countUpTo := goodIn_r _ [7, 8, 9, 10, 6, 11, 12, 13, 14, 15, 16, 17, 18, 19, 20, 21, 22, 23] (by decide +kernel) (by decide +kernel)
set_option maxRecDepth 20000 in
theorem gX0_kthListed_X0_countUpTo : GoodIn wsX0_kthListed (wsV RX0 128 RX0 yX0_countUpTo wsX0_countUpTo) := goodIn_app (goodIn_of _ (by decide +kernel)) ggX0_kthListed_X0_countUpTo
theorem dX0_kthListed_0 : decode cX0_kthListed 0 = .ok (.ldc2_w 124, 3) := by decide +kernel
theorem dX0_kthListed_3 : decode cX0_kthListed 3 = .ok (.lstore_n 3, 1) := by decide +kernel
theorem dX0_kthListed_4 : decode cX0_kthListed 4 = .ok (.ldc2_w 126, 3) := by decide +kernel
theorem dX0_kthListed_7 : decode cX0_kthListed 7 = .ok (.lstore 5, 2) := by decide +kernel
theorem dX0_kthListed_9 : decode cX0_kthListed 9 = .ok (.iconst 0, 1) := by decide +kernel
theorem dX0_kthListed_10 : decode cX0_kthListed 10 = .ok (.istore 7, 2) := by decide +kernel
theorem dX0_kthListed_12 : decode cX0_kthListed 12 = .ok (.iload 7, 2) := by decide +kernel
theorem dX0_kthListed_14 : decode cX0_kthListed 14 = .ok (.bipush 32, 2) := by decide +kernel
theorem dX0_kthListed_16 : decode cX0_kthListed 16 = .ok (.if_icmp .ge 40, 3) := by decide +kernel
theorem dX0_kthListed_19 : decode cX0_kthListed 19 = .ok (.lload_n 3, 1) := by decide +kernel
theorem dX0_kthListed_20 : decode cX0_kthListed 20 = .ok (.lload 5, 2) := by decide +kernel
theorem dX0_kthListed_22 : decode cX0_kthListed 22 = .ok (.ladd, 1) := by decide +kernel
theorem dX0_kthListed_23 : decode cX0_kthListed 23 = .ok (.iconst 1, 1) := by decide +kernel
theorem dX0_kthListed_24 : decode cX0_kthListed 24 = .ok (.lshr, 1) := by decide +kernel
theorem dX0_kthListed_25 : decode cX0_kthListed 25 = .ok (.lstore 8, 2) := by decide +kernel
theorem dX0_kthListed_27 : decode cX0_kthListed 27 = .ok (.aload_n 0, 1) := by decide +kernel
theorem dX0_kthListed_28 : decode cX0_kthListed 28 = .ok (.iload_n 1, 1) := by decide +kernel
theorem dX0_kthListed_29 : decode cX0_kthListed 29 = .ok (.lload 8, 2) := by decide +kernel
theorem dX0_kthListed_31 : decode cX0_kthListed 31 = .ok (.invokevirtual 128, 3) := by decide +kernel
theorem dX0_kthListed_34 : decode cX0_kthListed 34 = .ok (.iload_n 2, 1) := by decide +kernel
theorem dX0_kthListed_35 : decode cX0_kthListed 35 = .ok (.if_icmp .le 10, 3) := by decide +kernel
theorem dX0_kthListed_38 : decode cX0_kthListed 38 = .ok (.lload 8, 2) := by decide +kernel
theorem dX0_kthListed_40 : decode cX0_kthListed 40 = .ok (.lstore 5, 2) := by decide +kernel
theorem dX0_kthListed_42 : decode cX0_kthListed 42 = .ok (.goto 8, 3) := by decide +kernel
theorem dX0_kthListed_45 : decode cX0_kthListed 45 = .ok (.lload 8, 2) := by decide +kernel
theorem dX0_kthListed_47 : decode cX0_kthListed 47 = .ok (.lconst 1, 1) := by decide +kernel
theorem dX0_kthListed_48 : decode cX0_kthListed 48 = .ok (.ladd, 1) := by decide +kernel
theorem dX0_kthListed_49 : decode cX0_kthListed 49 = .ok (.lstore_n 3, 1) := by decide +kernel
theorem dX0_kthListed_50 : decode cX0_kthListed 50 = .ok (.iinc 7 1, 3) := by decide +kernel
theorem dX0_kthListed_53 : decode cX0_kthListed 53 = .ok (.goto (-41), 3) := by decide +kernel
theorem dX0_kthListed_56 : decode cX0_kthListed 56 = .ok (.lload_n 3, 1) := by decide +kernel
theorem dX0_kthListed_57 : decode cX0_kthListed 57 = .ok (.lreturn, 1) := by decide +kernel
set_option maxRecDepth 20000 in
theorem ggX0_countUpTo_X0_listedKey : GoodIn wsX0_countUpTo wsX0_listedKey := goodIn_r _ [5, 6, 7, 8, 4, 9, 10, 11, 12, 13, 14, 15, 16, 17] (by decide +kernel) (by decide +kernel)
set_option maxRecDepth 20000 in
theorem gX0_countUpTo_X0_listedKey : GoodIn wsX0_countUpTo (wsV RX0 90 RX0 yX0_listedKey wsX0_listedKey) := goodIn_app (goodIn_of _ (by decide +kernel)) ggX0_countUpTo_X0_listedKey
theorem dX0_countUpTo_0 : decode cX0_countUpTo 0 = .ok (.iconst 0, 1) := by decide +kernel
theorem dX0_countUpTo_1 : decode cX0_countUpTo 1 = .ok (.istore 4, 2) := by decide +kernel
theorem dX0_countUpTo_3 : decode cX0_countUpTo 3 = .ok (.iconst 0, 1) := by decide +kernel
theorem dX0_countUpTo_4 : decode cX0_countUpTo 4 = .ok (.istore 5, 2) := by decide +kernel
theorem dX0_countUpTo_6 : decode cX0_countUpTo 6 = .ok (.iload 5, 2) := by decide +kernel
theorem dX0_countUpTo_8 : decode cX0_countUpTo 8 = .ok (.iload_n 1, 1) := by decide +kernel
theorem dX0_countUpTo_9 : decode cX0_countUpTo 9 = .ok (.if_icmp .ge 24, 3) := by decide +kernel
theorem dX0_countUpTo_12 : decode cX0_countUpTo 12 = .ok (.aload_n 0, 1) := by decide +kernel
theorem dX0_countUpTo_13 : decode cX0_countUpTo 13 = .ok (.iload 5, 2) := by decide +kernel
theorem dX0_countUpTo_15 : decode cX0_countUpTo 15 = .ok (.invokevirtual 90, 3) := by decide +kernel
theorem dX0_countUpTo_18 : decode cX0_countUpTo 18 = .ok (.i2l, 1) := by decide +kernel
theorem dX0_countUpTo_19 : decode cX0_countUpTo 19 = .ok (.lload_n 2, 1) := by decide +kernel
theorem dX0_countUpTo_20 : decode cX0_countUpTo 20 = .ok (.lcmp, 1) := by decide +kernel
theorem dX0_countUpTo_21 : decode cX0_countUpTo 21 = .ok (.ifCond .gt 6, 3) := by decide +kernel
theorem dX0_countUpTo_24 : decode cX0_countUpTo 24 = .ok (.iinc 4 1, 3) := by decide +kernel
theorem dX0_countUpTo_27 : decode cX0_countUpTo 27 = .ok (.iinc 5 1, 3) := by decide +kernel
theorem dX0_countUpTo_30 : decode cX0_countUpTo 30 = .ok (.goto (-24), 3) := by decide +kernel
theorem dX0_countUpTo_33 : decode cX0_countUpTo 33 = .ok (.iload 4, 2) := by decide +kernel
theorem dX0_countUpTo_35 : decode cX0_countUpTo 35 = .ok (.ireturn, 1) := by decide +kernel
theorem dX1_init_0 : decode cX1_init 0 = .ok (.aload_n 0, 1) := by decide +kernel
theorem dX1_init_1 : decode cX1_init 1 = .ok (.invokespecial 1, 3) := by decide +kernel
theorem dX1_init_4 : decode cX1_init 4 = .ok (.aload_n 0, 1) := by decide +kernel
theorem dX1_init_5 : decode cX1_init 5 = .ok (.sipush 200, 3) := by decide +kernel
theorem dX1_init_8 : decode cX1_init 8 = .ok (.newarray .int, 2) := by decide +kernel
theorem dX1_init_10 : decode cX1_init 10 = .ok (.putfield 7, 3) := by decide +kernel
theorem dX1_init_13 : decode cX1_init 13 = .ok (.aload_n 0, 1) := by decide +kernel
theorem dX1_init_14 : decode cX1_init 14 = .ok (.sipush 200, 3) := by decide +kernel
theorem dX1_init_17 : decode cX1_init 17 = .ok (.newarray .int, 2) := by decide +kernel
theorem dX1_init_19 : decode cX1_init 19 = .ok (.putfield 13, 3) := by decide +kernel
theorem dX1_init_22 : decode cX1_init 22 = .ok (.aload_n 0, 1) := by decide +kernel
theorem dX1_init_23 : decode cX1_init 23 = .ok (.sipush 200, 3) := by decide +kernel
theorem dX1_init_26 : decode cX1_init 26 = .ok (.newarray .boolean, 2) := by decide +kernel
theorem dX1_init_28 : decode cX1_init 28 = .ok (.putfield 16, 3) := by decide +kernel
theorem dX1_init_31 : decode cX1_init 31 = .ok (.return_, 1) := by decide +kernel
theorem dX1_isHeap_0 : decode cX1_isHeap 0 = .ok (.iload_n 1, 1) := by decide +kernel
theorem dX1_isHeap_1 : decode cX1_isHeap 1 = .ok (.ifCond .lt 15, 3) := by decide +kernel
theorem dX1_isHeap_4 : decode cX1_isHeap 4 = .ok (.iload_n 1, 1) := by decide +kernel
theorem dX1_isHeap_5 : decode cX1_isHeap 5 = .ok (.aload_n 0, 1) := by decide +kernel
theorem dX1_isHeap_6 : decode cX1_isHeap 6 = .ok (.getfield 20, 3) := by decide +kernel
theorem dX1_isHeap_9 : decode cX1_isHeap 9 = .ok (.if_icmp .ge 7, 3) := by decide +kernel
theorem dX1_isHeap_12 : decode cX1_isHeap 12 = .ok (.iconst 1, 1) := by decide +kernel
theorem dX1_isHeap_13 : decode cX1_isHeap 13 = .ok (.goto 4, 3) := by decide +kernel
theorem dX1_isHeap_16 : decode cX1_isHeap 16 = .ok (.iconst 0, 1) := by decide +kernel
theorem dX1_isHeap_17 : decode cX1_isHeap 17 = .ok (.ireturn, 1) := by decide +kernel
theorem dX1_heap_0 : decode cX1_heap 0 = .ok (.aload_n 0, 1) := by decide +kernel
theorem dX1_heap_1 : decode cX1_heap 1 = .ok (.getfield 20, 3) := by decide +kernel
theorem dX1_heap_4 : decode cX1_heap 4 = .ok (.bipush 8, 2) := by decide +kernel
theorem dX1_heap_6 : decode cX1_heap 6 = .ok (.if_icmp .ne 5, 3) := by decide +kernel
theorem dX1_heap_9 : decode cX1_heap 9 = .ok (.iconst (-1), 1) := by decide +kernel
theorem dX1_heap_10 : decode cX1_heap 10 = .ok (.ireturn, 1) := by decide +kernel
theorem dX1_heap_11 : decode cX1_heap 11 = .ok (.aload_n 0, 1) := by decide +kernel
theorem dX1_heap_12 : decode cX1_heap 12 = .ok (.dup, 1) := by decide +kernel
theorem dX1_heap_13 : decode cX1_heap 13 = .ok (.getfield 20, 3) := by decide +kernel
theorem dX1_heap_16 : decode cX1_heap 16 = .ok (.iconst 1, 1) := by decide +kernel
theorem dX1_heap_17 : decode cX1_heap 17 = .ok (.iadd, 1) := by decide +kernel
theorem dX1_heap_18 : decode cX1_heap 18 = .ok (.putfield 20, 3) := by decide +kernel
theorem dX1_heap_21 : decode cX1_heap 21 = .ok (.aload_n 0, 1) := by decide +kernel
theorem dX1_heap_22 : decode cX1_heap 22 = .ok (.getfield 20, 3) := by decide +kernel
theorem dX1_heap_25 : decode cX1_heap 25 = .ok (.iconst 1, 1) := by decide +kernel
theorem dX1_heap_26 : decode cX1_heap 26 = .ok (.isub, 1) := by decide +kernel
theorem dX1_heap_27 : decode cX1_heap 27 = .ok (.ireturn, 1) := by decide +kernel
theorem dX1_sizeOf_0 : decode cX1_sizeOf 0 = .ok (.iconst 0, 1) := by decide +kernel
theorem dX1_sizeOf_1 : decode cX1_sizeOf 1 = .ok (.istore_n 2, 1) := by decide +kernel
theorem dX1_sizeOf_2 : decode cX1_sizeOf 2 = .ok (.iconst 0, 1) := by decide +kernel
theorem dX1_sizeOf_3 : decode cX1_sizeOf 3 = .ok (.istore_n 3, 1) := by decide +kernel
theorem dX1_sizeOf_4 : decode cX1_sizeOf 4 = .ok (.iload_n 3, 1) := by decide +kernel
theorem dX1_sizeOf_5 : decode cX1_sizeOf 5 = .ok (.aload_n 0, 1) := by decide +kernel
theorem dX1_sizeOf_6 : decode cX1_sizeOf 6 = .ok (.getfield 24, 3) := by decide +kernel
theorem dX1_sizeOf_9 : decode cX1_sizeOf 9 = .ok (.if_icmp .ge 27, 3) := by decide +kernel
theorem dX1_sizeOf_12 : decode cX1_sizeOf 12 = .ok (.iload_n 2, 1) := by decide +kernel
theorem dX1_sizeOf_13 : decode cX1_sizeOf 13 = .ok (.aload_n 0, 1) := by decide +kernel
theorem dX1_sizeOf_14 : decode cX1_sizeOf 14 = .ok (.getfield 7, 3) := by decide +kernel
theorem dX1_sizeOf_17 : decode cX1_sizeOf 17 = .ok (.iload_n 3, 1) := by decide +kernel
theorem dX1_sizeOf_18 : decode cX1_sizeOf 18 = .ok (.iaload, 1) := by decide +kernel
theorem dX1_sizeOf_19 : decode cX1_sizeOf 19 = .ok (.iload_n 1, 1) := by decide +kernel
theorem dX1_sizeOf_20 : decode cX1_sizeOf 20 = .ok (.if_icmp .ne 7, 3) := by decide +kernel
theorem dX1_sizeOf_23 : decode cX1_sizeOf 23 = .ok (.iconst 1, 1) := by decide +kernel
theorem dX1_sizeOf_24 : decode cX1_sizeOf 24 = .ok (.goto 4, 3) := by decide +kernel
theorem dX1_sizeOf_27 : decode cX1_sizeOf 27 = .ok (.iconst 0, 1) := by decide +kernel
theorem dX1_sizeOf_28 : decode cX1_sizeOf 28 = .ok (.iadd, 1) := by decide +kernel
theorem dX1_sizeOf_29 : decode cX1_sizeOf 29 = .ok (.istore_n 2, 1) := by decide +kernel
theorem dX1_sizeOf_30 : decode cX1_sizeOf 30 = .ok (.iinc 3 1, 3) := by decide +kernel
theorem dX1_sizeOf_33 : decode cX1_sizeOf 33 = .ok (.goto (-29), 3) := by decide +kernel
theorem dX1_sizeOf_36 : decode cX1_sizeOf 36 = .ok (.iload_n 2, 1) := by decide +kernel
theorem dX1_sizeOf_37 : decode cX1_sizeOf 37 = .ok (.ireturn, 1) := by decide +kernel
set_option maxRecDepth 20000 in
theorem ggX1_add_X1_isHeap : GoodIn wsX1_add wsX1_isHeap := goodIn_r _ [8, 9, 14, 15, 16, 17, 18] (by decide +kernel) (by decide +kernel)
set_option maxRecDepth 20000 in
theorem gX1_add_X1_isHeap : GoodIn wsX1_add (wsV RX1 27 RX1 yX1_isHeap wsX1_isHeap) := goodIn_app (goodIn_of _ (by decide +kernel)) ggX1_add_X1_isHeap
set_option maxRecDepth 20000 in
theorem ggX1_add_X1_sizeOf : GoodIn wsX1_add wsX1_sizeOf := goodIn_r _ [13, 1, 2, 14, 15, 16, 17, 18] (by decide +kernel) (by decide +kernel)
set_option maxRecDepth 20000 in
theorem gX1_add_X1_sizeOf : GoodIn wsX1_add (wsV RX1 31 RX1 yX1_sizeOf wsX1_sizeOf) := goodIn_app (goodIn_of _ (by decide +kernel)) ggX1_add_X1_sizeOf
theorem dX1_add_0 : decode cX1_add 0 = .ok (.aload_n 0, 1) := by decide +kernel
theorem dX1_add_1 : decode cX1_add 1 = .ok (.iload_n 1, 1) := by decide +kernel
theorem dX1_add_2 : decode cX1_add 2 = .ok (.invokevirtual 27, 3) := by decide +kernel
theorem dX1_add_5 : decode cX1_add 5 = .ok (.ifCond .ne 5, 3) := by decide +kernel
theorem dX1_add_8 : decode cX1_add 8 = .ok (.iconst (-1), 1) := by decide +kernel
theorem dX1_add_9 : decode cX1_add 9 = .ok (.ireturn, 1) := by decide +kernel
theorem dX1_add_10 : decode cX1_add 10 = .ok (.aload_n 0, 1) := by decide +kernel
theorem dX1_add_11 : decode cX1_add 11 = .ok (.getfield 24, 3) := by decide +kernel
theorem dX1_add_14 : decode cX1_add 14 = .ok (.sipush 200, 3) := by decide +kernel
theorem dX1_add_17 : decode cX1_add 17 = .ok (.if_icmp .ne 6, 3) := by decide +kernel
theorem dX1_add_20 : decode cX1_add 20 = .ok (.bipush (-2), 2) := by decide +kernel
theorem dX1_add_22 : decode cX1_add 22 = .ok (.ireturn, 1) := by decide +kernel
theorem dX1_add_23 : decode cX1_add 23 = .ok (.aload_n 0, 1) := by decide +kernel
theorem dX1_add_24 : decode cX1_add 24 = .ok (.getfield 7, 3) := by decide +kernel
theorem dX1_add_27 : decode cX1_add 27 = .ok (.aload_n 0, 1) := by decide +kernel
theorem dX1_add_28 : decode cX1_add 28 = .ok (.getfield 24, 3) := by decide +kernel
theorem dX1_add_31 : decode cX1_add 31 = .ok (.iload_n 1, 1) := by decide +kernel
theorem dX1_add_32 : decode cX1_add 32 = .ok (.iastore, 1) := by decide +kernel
theorem dX1_add_33 : decode cX1_add 33 = .ok (.aload_n 0, 1) := by decide +kernel
theorem dX1_add_34 : decode cX1_add 34 = .ok (.getfield 13, 3) := by decide +kernel
theorem dX1_add_37 : decode cX1_add 37 = .ok (.aload_n 0, 1) := by decide +kernel
theorem dX1_add_38 : decode cX1_add 38 = .ok (.getfield 24, 3) := by decide +kernel
theorem dX1_add_41 : decode cX1_add 41 = .ok (.iload_n 2, 1) := by decide +kernel
theorem dX1_add_42 : decode cX1_add 42 = .ok (.iastore, 1) := by decide +kernel
theorem dX1_add_43 : decode cX1_add 43 = .ok (.aload_n 0, 1) := by decide +kernel
theorem dX1_add_44 : decode cX1_add 44 = .ok (.dup, 1) := by decide +kernel
theorem dX1_add_45 : decode cX1_add 45 = .ok (.getfield 24, 3) := by decide +kernel
theorem dX1_add_48 : decode cX1_add 48 = .ok (.iconst 1, 1) := by decide +kernel
theorem dX1_add_49 : decode cX1_add 49 = .ok (.iadd, 1) := by decide +kernel
theorem dX1_add_50 : decode cX1_add 50 = .ok (.putfield 24, 3) := by decide +kernel
theorem dX1_add_53 : decode cX1_add 53 = .ok (.aload_n 0, 1) := by decide +kernel
theorem dX1_add_54 : decode cX1_add 54 = .ok (.iload_n 1, 1) := by decide +kernel
theorem dX1_add_55 : decode cX1_add 55 = .ok (.invokevirtual 31, 3) := by decide +kernel
theorem dX1_add_58 : decode cX1_add 58 = .ok (.ireturn, 1) := by decide +kernel
theorem dX1_placeOf_0 : decode cX1_placeOf 0 = .ok (.iconst (-1), 1) := by decide +kernel
theorem dX1_placeOf_1 : decode cX1_placeOf 1 = .ok (.istore_n 2, 1) := by decide +kernel
theorem dX1_placeOf_2 : decode cX1_placeOf 2 = .ok (.iconst 0, 1) := by decide +kernel
theorem dX1_placeOf_3 : decode cX1_placeOf 3 = .ok (.istore_n 3, 1) := by decide +kernel
theorem dX1_placeOf_4 : decode cX1_placeOf 4 = .ok (.iload_n 3, 1) := by decide +kernel
theorem dX1_placeOf_5 : decode cX1_placeOf 5 = .ok (.aload_n 0, 1) := by decide +kernel
theorem dX1_placeOf_6 : decode cX1_placeOf 6 = .ok (.getfield 24, 3) := by decide +kernel
theorem dX1_placeOf_9 : decode cX1_placeOf 9 = .ok (.if_icmp .ge 53, 3) := by decide +kernel
theorem dX1_placeOf_12 : decode cX1_placeOf 12 = .ok (.aload_n 0, 1) := by decide +kernel
theorem dX1_placeOf_13 : decode cX1_placeOf 13 = .ok (.getfield 7, 3) := by decide +kernel
theorem dX1_placeOf_16 : decode cX1_placeOf 16 = .ok (.iload_n 3, 1) := by decide +kernel
theorem dX1_placeOf_17 : decode cX1_placeOf 17 = .ok (.iaload, 1) := by decide +kernel
theorem dX1_placeOf_18 : decode cX1_placeOf 18 = .ok (.iload_n 1, 1) := by decide +kernel
theorem dX1_placeOf_19 : decode cX1_placeOf 19 = .ok (.if_icmp .ne 35, 3) := by decide +kernel
theorem dX1_placeOf_22 : decode cX1_placeOf 22 = .ok (.aload_n 0, 1) := by decide +kernel
theorem dX1_placeOf_23 : decode cX1_placeOf 23 = .ok (.getfield 16, 3) := by decide +kernel
theorem dX1_placeOf_26 : decode cX1_placeOf 26 = .ok (.iload_n 3, 1) := by decide +kernel
theorem dX1_placeOf_27 : decode cX1_placeOf 27 = .ok (.baload, 1) := by decide +kernel
theorem dX1_placeOf_28 : decode cX1_placeOf 28 = .ok (.ifCond .ne 26, 3) := by decide +kernel
theorem dX1_placeOf_31 : decode cX1_placeOf 31 = .ok (.iload_n 2, 1) := by decide +kernel
theorem dX1_placeOf_32 : decode cX1_placeOf 32 = .ok (.ifCond .lt 18, 3) := by decide +kernel
theorem dX1_placeOf_35 : decode cX1_placeOf 35 = .ok (.aload_n 0, 1) := by decide +kernel
theorem dX1_placeOf_36 : decode cX1_placeOf 36 = .ok (.getfield 13, 3) := by decide +kernel
theorem dX1_placeOf_39 : decode cX1_placeOf 39 = .ok (.iload_n 3, 1) := by decide +kernel
theorem dX1_placeOf_40 : decode cX1_placeOf 40 = .ok (.iaload, 1) := by decide +kernel
theorem dX1_placeOf_41 : decode cX1_placeOf 41 = .ok (.aload_n 0, 1) := by decide +kernel
theorem dX1_placeOf_42 : decode cX1_placeOf 42 = .ok (.getfield 13, 3) := by decide +kernel
theorem dX1_placeOf_45 : decode cX1_placeOf 45 = .ok (.iload_n 2, 1) := by decide +kernel
theorem dX1_placeOf_46 : decode cX1_placeOf 46 = .ok (.iaload, 1) := by decide +kernel
theorem dX1_placeOf_47 : decode cX1_placeOf 47 = .ok (.if_icmp .ge 7, 3) := by decide +kernel
theorem dX1_placeOf_50 : decode cX1_placeOf 50 = .ok (.iload_n 3, 1) := by decide +kernel
theorem dX1_placeOf_51 : decode cX1_placeOf 51 = .ok (.goto 4, 3) := by decide +kernel
theorem dX1_placeOf_54 : decode cX1_placeOf 54 = .ok (.iload_n 2, 1) := by decide +kernel
theorem dX1_placeOf_55 : decode cX1_placeOf 55 = .ok (.istore_n 2, 1) := by decide +kernel
theorem dX1_placeOf_56 : decode cX1_placeOf 56 = .ok (.iinc 3 1, 3) := by decide +kernel
theorem dX1_placeOf_59 : decode cX1_placeOf 59 = .ok (.goto (-55), 3) := by decide +kernel
theorem dX1_placeOf_62 : decode cX1_placeOf 62 = .ok (.iload_n 2, 1) := by decide +kernel
theorem dX1_placeOf_63 : decode cX1_placeOf 63 = .ok (.ireturn, 1) := by decide +kernel
theorem dX1_untell_0 : decode cX1_untell 0 = .ok (.iconst 0, 1) := by decide +kernel
theorem dX1_untell_1 : decode cX1_untell 1 = .ok (.istore_n 1, 1) := by decide +kernel
theorem dX1_untell_2 : decode cX1_untell 2 = .ok (.iload_n 1, 1) := by decide +kernel
theorem dX1_untell_3 : decode cX1_untell 3 = .ok (.sipush 200, 3) := by decide +kernel
theorem dX1_untell_6 : decode cX1_untell 6 = .ok (.if_icmp .ge 16, 3) := by decide +kernel
theorem dX1_untell_9 : decode cX1_untell 9 = .ok (.aload_n 0, 1) := by decide +kernel
theorem dX1_untell_10 : decode cX1_untell 10 = .ok (.getfield 16, 3) := by decide +kernel
theorem dX1_untell_13 : decode cX1_untell 13 = .ok (.iload_n 1, 1) := by decide +kernel
theorem dX1_untell_14 : decode cX1_untell 14 = .ok (.iconst 0, 1) := by decide +kernel
theorem dX1_untell_15 : decode cX1_untell 15 = .ok (.bastore, 1) := by decide +kernel
theorem dX1_untell_16 : decode cX1_untell 16 = .ok (.iinc 1 1, 3) := by decide +kernel
theorem dX1_untell_19 : decode cX1_untell 19 = .ok (.goto (-17), 3) := by decide +kernel
theorem dX1_untell_22 : decode cX1_untell 22 = .ok (.return_, 1) := by decide +kernel
set_option maxRecDepth 20000 in
theorem ggX1_least_X1_untell : GoodIn wsX1_least wsX1_untell := goodIn_r _ [7, 8, 20, 21, 22, 23, 24] (by decide +kernel) (by decide +kernel)
set_option maxRecDepth 20000 in
theorem gX1_least_X1_untell : GoodIn wsX1_least (wsV RX1 35 RX1 yX1_untell wsX1_untell) := goodIn_app (goodIn_of _ (by decide +kernel)) ggX1_least_X1_untell
set_option maxRecDepth 20000 in
theorem ggX1_least_X1_isHeap : GoodIn wsX1_least wsX1_isHeap := goodIn_r _ [12, 13, 20, 21, 22, 23, 24] (by decide +kernel) (by decide +kernel)
set_option maxRecDepth 20000 in
theorem gX1_least_X1_isHeap : GoodIn wsX1_least (wsV RX1 27 RX1 yX1_isHeap wsX1_isHeap) := goodIn_app (goodIn_of _ (by decide +kernel)) ggX1_least_X1_isHeap
set_option maxRecDepth 20000 in
theorem ggX1_least_X1_placeOf : GoodIn wsX1_least wsX1_placeOf := goodIn_r _ [17, 18, 19, 8, 2, 20, 21, 22, 23, 24] (by decide +kernel) (by decide +kernel)
set_option maxRecDepth 20000 in
theorem gX1_least_X1_placeOf : GoodIn wsX1_least (wsV RX1 38 RX1 yX1_placeOf wsX1_placeOf) := goodIn_app (goodIn_of _ (by decide +kernel)) ggX1_least_X1_placeOf
theorem dX1_least_0 : decode cX1_least 0 = .ok (.aload_n 0, 1) := by decide +kernel
theorem dX1_least_1 : decode cX1_least 1 = .ok (.invokevirtual 35, 3) := by decide +kernel
theorem dX1_least_4 : decode cX1_least 4 = .ok (.aload_n 0, 1) := by decide +kernel
theorem dX1_least_5 : decode cX1_least 5 = .ok (.iload_n 1, 1) := by decide +kernel
theorem dX1_least_6 : decode cX1_least 6 = .ok (.invokevirtual 27, 3) := by decide +kernel
theorem dX1_least_9 : decode cX1_least 9 = .ok (.ifCond .eq 11, 3) := by decide +kernel
theorem dX1_least_12 : decode cX1_least 12 = .ok (.aload_n 0, 1) := by decide +kernel
theorem dX1_least_13 : decode cX1_least 13 = .ok (.iload_n 1, 1) := by decide +kernel
theorem dX1_least_14 : decode cX1_least 14 = .ok (.invokevirtual 38, 3) := by decide +kernel
theorem dX1_least_17 : decode cX1_least 17 = .ok (.goto 4, 3) := by decide +kernel
theorem dX1_least_20 : decode cX1_least 20 = .ok (.iconst (-1), 1) := by decide +kernel
theorem dX1_least_21 : decode cX1_least 21 = .ok (.istore_n 2, 1) := by decide +kernel
theorem dX1_least_22 : decode cX1_least 22 = .ok (.iload_n 2, 1) := by decide +kernel
theorem dX1_least_23 : decode cX1_least 23 = .ok (.ifCond .ge 9, 3) := by decide +kernel
theorem dX1_least_26 : decode cX1_least 26 = .ok (.ldc2_w 41, 3) := by decide +kernel
theorem dX1_least_29 : decode cX1_least 29 = .ok (.goto 10, 3) := by decide +kernel
theorem dX1_least_32 : decode cX1_least 32 = .ok (.aload_n 0, 1) := by decide +kernel
theorem dX1_least_33 : decode cX1_least 33 = .ok (.getfield 13, 3) := by decide +kernel
theorem dX1_least_36 : decode cX1_least 36 = .ok (.iload_n 2, 1) := by decide +kernel
theorem dX1_least_37 : decode cX1_least 37 = .ok (.iaload, 1) := by decide +kernel
theorem dX1_least_38 : decode cX1_least 38 = .ok (.i2l, 1) := by decide +kernel
theorem dX1_least_39 : decode cX1_least 39 = .ok (.lreturn, 1) := by decide +kernel
set_option maxRecDepth 20000 in
theorem ggX1_take_X1_untell : GoodIn wsX1_take wsX1_untell := goodIn_r _ [9, 10, 20, 21, 22, 23, 24] (by decide +kernel) (by decide +kernel)
set_option maxRecDepth 20000 in
theorem gX1_take_X1_untell : GoodIn wsX1_take (wsV RX1 35 RX1 yX1_untell wsX1_untell) := goodIn_app (goodIn_of _ (by decide +kernel)) ggX1_take_X1_untell
set_option maxRecDepth 20000 in
theorem ggX1_take_X1_isHeap : GoodIn wsX1_take wsX1_isHeap := goodIn_r _ [14, 15, 20, 21, 22, 23, 24] (by decide +kernel) (by decide +kernel)
set_option maxRecDepth 20000 in
theorem gX1_take_X1_isHeap : GoodIn wsX1_take (wsV RX1 27 RX1 yX1_isHeap wsX1_isHeap) := goodIn_app (goodIn_of _ (by decide +kernel)) ggX1_take_X1_isHeap
set_option maxRecDepth 20000 in
theorem ggX1_take_X1_placeOf : GoodIn wsX1_take wsX1_placeOf := goodIn_r _ [19, 3, 4, 10, 2, 20, 21, 22, 23, 24] (by decide +kernel) (by decide +kernel)
set_option maxRecDepth 20000 in
theorem gX1_take_X1_placeOf : GoodIn wsX1_take (wsV RX1 38 RX1 yX1_placeOf wsX1_placeOf) := goodIn_app (goodIn_of _ (by decide +kernel)) ggX1_take_X1_placeOf
theorem dX1_take_0 : decode cX1_take 0 = .ok (.aload_n 0, 1) := by decide +kernel
theorem dX1_take_1 : decode cX1_take 1 = .ok (.invokevirtual 35, 3) := by decide +kernel
theorem dX1_take_4 : decode cX1_take 4 = .ok (.aload_n 0, 1) := by decide +kernel
theorem dX1_take_5 : decode cX1_take 5 = .ok (.iload_n 1, 1) := by decide +kernel
theorem dX1_take_6 : decode cX1_take 6 = .ok (.invokevirtual 27, 3) := by decide +kernel
theorem dX1_take_9 : decode cX1_take 9 = .ok (.ifCond .eq 11, 3) := by decide +kernel
theorem dX1_take_12 : decode cX1_take 12 = .ok (.aload_n 0, 1) := by decide +kernel
theorem dX1_take_13 : decode cX1_take 13 = .ok (.iload_n 1, 1) := by decide +kernel
theorem dX1_take_14 : decode cX1_take 14 = .ok (.invokevirtual 38, 3) := by decide +kernel
theorem dX1_take_17 : decode cX1_take 17 = .ok (.goto 4, 3) := by decide +kernel
theorem dX1_take_20 : decode cX1_take 20 = .ok (.iconst (-1), 1) := by decide +kernel
theorem dX1_take_21 : decode cX1_take 21 = .ok (.istore_n 2, 1) := by decide +kernel
theorem dX1_take_22 : decode cX1_take 22 = .ok (.iload_n 2, 1) := by decide +kernel
theorem dX1_take_23 : decode cX1_take 23 = .ok (.ifCond .ge 7, 3) := by decide +kernel
theorem dX1_take_26 : decode cX1_take 26 = .ok (.ldc2_w 41, 3) := by decide +kernel
theorem dX1_take_29 : decode cX1_take 29 = .ok (.lreturn, 1) := by decide +kernel
theorem dX1_take_30 : decode cX1_take 30 = .ok (.aload_n 0, 1) := by decide +kernel
theorem dX1_take_31 : decode cX1_take 31 = .ok (.getfield 13, 3) := by decide +kernel
theorem dX1_take_34 : decode cX1_take 34 = .ok (.iload_n 2, 1) := by decide +kernel
theorem dX1_take_35 : decode cX1_take 35 = .ok (.iaload, 1) := by decide +kernel
theorem dX1_take_36 : decode cX1_take 36 = .ok (.i2l, 1) := by decide +kernel
theorem dX1_take_37 : decode cX1_take 37 = .ok (.lstore_n 3, 1) := by decide +kernel
theorem dX1_take_38 : decode cX1_take 38 = .ok (.aload_n 0, 1) := by decide +kernel
theorem dX1_take_39 : decode cX1_take 39 = .ok (.dup, 1) := by decide +kernel
theorem dX1_take_40 : decode cX1_take 40 = .ok (.getfield 24, 3) := by decide +kernel
theorem dX1_take_43 : decode cX1_take 43 = .ok (.iconst 1, 1) := by decide +kernel
theorem dX1_take_44 : decode cX1_take 44 = .ok (.isub, 1) := by decide +kernel
theorem dX1_take_45 : decode cX1_take 45 = .ok (.putfield 24, 3) := by decide +kernel
theorem dX1_take_48 : decode cX1_take 48 = .ok (.aload_n 0, 1) := by decide +kernel
theorem dX1_take_49 : decode cX1_take 49 = .ok (.getfield 7, 3) := by decide +kernel
theorem dX1_take_52 : decode cX1_take 52 = .ok (.iload_n 2, 1) := by decide +kernel
theorem dX1_take_53 : decode cX1_take 53 = .ok (.aload_n 0, 1) := by decide +kernel
theorem dX1_take_54 : decode cX1_take 54 = .ok (.getfield 7, 3) := by decide +kernel
theorem dX1_take_57 : decode cX1_take 57 = .ok (.aload_n 0, 1) := by decide +kernel
theorem dX1_take_58 : decode cX1_take 58 = .ok (.getfield 24, 3) := by decide +kernel
theorem dX1_take_61 : decode cX1_take 61 = .ok (.iaload, 1) := by decide +kernel
theorem dX1_take_62 : decode cX1_take 62 = .ok (.iastore, 1) := by decide +kernel
theorem dX1_take_63 : decode cX1_take 63 = .ok (.aload_n 0, 1) := by decide +kernel
theorem dX1_take_64 : decode cX1_take 64 = .ok (.getfield 13, 3) := by decide +kernel
theorem dX1_take_67 : decode cX1_take 67 = .ok (.iload_n 2, 1) := by decide +kernel
theorem dX1_take_68 : decode cX1_take 68 = .ok (.aload_n 0, 1) := by decide +kernel
theorem dX1_take_69 : decode cX1_take 69 = .ok (.getfield 13, 3) := by decide +kernel
theorem dX1_take_72 : decode cX1_take 72 = .ok (.aload_n 0, 1) := by decide +kernel
theorem dX1_take_73 : decode cX1_take 73 = .ok (.getfield 24, 3) := by decide +kernel
theorem dX1_take_76 : decode cX1_take 76 = .ok (.iaload, 1) := by decide +kernel
theorem dX1_take_77 : decode cX1_take 77 = .ok (.iastore, 1) := by decide +kernel
theorem dX1_take_78 : decode cX1_take 78 = .ok (.lload_n 3, 1) := by decide +kernel
theorem dX1_take_79 : decode cX1_take 79 = .ok (.lreturn, 1) := by decide +kernel
set_option maxRecDepth 20000 in
theorem ggX1_meld_X1_isHeap : GoodIn wsX1_meld wsX1_isHeap := goodIn_r _ [7, 8, 13, 14, 15, 16, 17] (by decide +kernel) (by decide +kernel)
set_option maxRecDepth 20000 in
theorem gX1_meld_X1_isHeap : GoodIn wsX1_meld (wsV RX1 27 RX1 yX1_isHeap wsX1_isHeap) := goodIn_app (goodIn_of _ (by decide +kernel)) ggX1_meld_X1_isHeap
set_option maxRecDepth 20000 in
theorem ggX1_meld_X1_sizeOf : GoodIn wsX1_meld wsX1_sizeOf := goodIn_r _ [12, 1, 2, 13, 14, 15, 16, 17] (by decide +kernel) (by decide +kernel)
set_option maxRecDepth 20000 in
theorem gX1_meld_X1_sizeOf : GoodIn wsX1_meld (wsV RX1 31 RX1 yX1_sizeOf wsX1_sizeOf) := goodIn_app (goodIn_of _ (by decide +kernel)) ggX1_meld_X1_sizeOf
theorem dX1_meld_0 : decode cX1_meld 0 = .ok (.aload_n 0, 1) := by decide +kernel
theorem dX1_meld_1 : decode cX1_meld 1 = .ok (.iload_n 1, 1) := by decide +kernel
theorem dX1_meld_2 : decode cX1_meld 2 = .ok (.invokevirtual 27, 3) := by decide +kernel
theorem dX1_meld_5 : decode cX1_meld 5 = .ok (.ifCond .eq 16, 3) := by decide +kernel
theorem dX1_meld_8 : decode cX1_meld 8 = .ok (.aload_n 0, 1) := by decide +kernel
theorem dX1_meld_9 : decode cX1_meld 9 = .ok (.iload_n 2, 1) := by decide +kernel
theorem dX1_meld_10 : decode cX1_meld 10 = .ok (.invokevirtual 27, 3) := by decide +kernel
theorem dX1_meld_13 : decode cX1_meld 13 = .ok (.ifCond .eq 8, 3) := by decide +kernel
theorem dX1_meld_16 : decode cX1_meld 16 = .ok (.iload_n 1, 1) := by decide +kernel
theorem dX1_meld_17 : decode cX1_meld 17 = .ok (.iload_n 2, 1) := by decide +kernel
theorem dX1_meld_18 : decode cX1_meld 18 = .ok (.if_icmp .ne 5, 3) := by decide +kernel
theorem dX1_meld_21 : decode cX1_meld 21 = .ok (.iconst (-1), 1) := by decide +kernel
theorem dX1_meld_22 : decode cX1_meld 22 = .ok (.ireturn, 1) := by decide +kernel
theorem dX1_meld_23 : decode cX1_meld 23 = .ok (.iconst 0, 1) := by decide +kernel
theorem dX1_meld_24 : decode cX1_meld 24 = .ok (.istore_n 3, 1) := by decide +kernel
theorem dX1_meld_25 : decode cX1_meld 25 = .ok (.iload_n 3, 1) := by decide +kernel
theorem dX1_meld_26 : decode cX1_meld 26 = .ok (.aload_n 0, 1) := by decide +kernel
theorem dX1_meld_27 : decode cX1_meld 27 = .ok (.getfield 24, 3) := by decide +kernel
theorem dX1_meld_30 : decode cX1_meld 30 = .ok (.if_icmp .ge 35, 3) := by decide +kernel
theorem dX1_meld_33 : decode cX1_meld 33 = .ok (.aload_n 0, 1) := by decide +kernel
theorem dX1_meld_34 : decode cX1_meld 34 = .ok (.getfield 7, 3) := by decide +kernel
theorem dX1_meld_37 : decode cX1_meld 37 = .ok (.iload_n 3, 1) := by decide +kernel
theorem dX1_meld_38 : decode cX1_meld 38 = .ok (.aload_n 0, 1) := by decide +kernel
theorem dX1_meld_39 : decode cX1_meld 39 = .ok (.getfield 7, 3) := by decide +kernel
theorem dX1_meld_42 : decode cX1_meld 42 = .ok (.iload_n 3, 1) := by decide +kernel
theorem dX1_meld_43 : decode cX1_meld 43 = .ok (.iaload, 1) := by decide +kernel
theorem dX1_meld_44 : decode cX1_meld 44 = .ok (.iload_n 2, 1) := by decide +kernel
theorem dX1_meld_45 : decode cX1_meld 45 = .ok (.if_icmp .ne 7, 3) := by decide +kernel
theorem dX1_meld_48 : decode cX1_meld 48 = .ok (.iload_n 1, 1) := by decide +kernel
theorem dX1_meld_49 : decode cX1_meld 49 = .ok (.goto 9, 3) := by decide +kernel
theorem dX1_meld_52 : decode cX1_meld 52 = .ok (.aload_n 0, 1) := by decide +kernel
theorem dX1_meld_53 : decode cX1_meld 53 = .ok (.getfield 7, 3) := by decide +kernel
theorem dX1_meld_56 : decode cX1_meld 56 = .ok (.iload_n 3, 1) := by decide +kernel
theorem dX1_meld_57 : decode cX1_meld 57 = .ok (.iaload, 1) := by decide +kernel
theorem dX1_meld_58 : decode cX1_meld 58 = .ok (.iastore, 1) := by decide +kernel
theorem dX1_meld_59 : decode cX1_meld 59 = .ok (.iinc 3 1, 3) := by decide +kernel
theorem dX1_meld_62 : decode cX1_meld 62 = .ok (.goto (-37), 3) := by decide +kernel
theorem dX1_meld_65 : decode cX1_meld 65 = .ok (.aload_n 0, 1) := by decide +kernel
theorem dX1_meld_66 : decode cX1_meld 66 = .ok (.iload_n 1, 1) := by decide +kernel
theorem dX1_meld_67 : decode cX1_meld 67 = .ok (.invokevirtual 31, 3) := by decide +kernel
theorem dX1_meld_70 : decode cX1_meld 70 = .ok (.ireturn, 1) := by decide +kernel
set_option maxRecDepth 20000 in
theorem ggX1_size_X1_isHeap : GoodIn wsX1_size wsX1_isHeap := goodIn_r _ [5, 6, 13, 14, 15, 16, 17] (by decide +kernel) (by decide +kernel)
set_option maxRecDepth 20000 in
theorem gX1_size_X1_isHeap : GoodIn wsX1_size (wsV RX1 27 RX1 yX1_isHeap wsX1_isHeap) := goodIn_app (goodIn_of _ (by decide +kernel)) ggX1_size_X1_isHeap
set_option maxRecDepth 20000 in
theorem ggX1_size_X1_sizeOf : GoodIn wsX1_size wsX1_sizeOf := goodIn_r _ [10, 11, 12, 13, 14, 15, 16, 17] (by decide +kernel) (by decide +kernel)
set_option maxRecDepth 20000 in
theorem gX1_size_X1_sizeOf : GoodIn wsX1_size (wsV RX1 31 RX1 yX1_sizeOf wsX1_sizeOf) := goodIn_app (goodIn_of _ (by decide +kernel)) ggX1_size_X1_sizeOf
theorem dX1_size_0 : decode cX1_size 0 = .ok (.aload_n 0, 1) := by decide +kernel
theorem dX1_size_1 : decode cX1_size 1 = .ok (.iload_n 1, 1) := by decide +kernel
theorem dX1_size_2 : decode cX1_size 2 = .ok (.invokevirtual 27, 3) := by decide +kernel
theorem dX1_size_5 : decode cX1_size 5 = .ok (.ifCond .eq 11, 3) := by decide +kernel
theorem dX1_size_8 : decode cX1_size 8 = .ok (.aload_n 0, 1) := by decide +kernel
theorem dX1_size_9 : decode cX1_size 9 = .ok (.iload_n 1, 1) := by decide +kernel
theorem dX1_size_10 : decode cX1_size 10 = .ok (.invokevirtual 31, 3) := by decide +kernel
theorem dX1_size_13 : decode cX1_size 13 = .ok (.goto 4, 3) := by decide +kernel
theorem dX1_size_16 : decode cX1_size 16 = .ok (.iconst (-1), 1) := by decide +kernel
theorem dX1_size_17 : decode cX1_size 17 = .ok (.ireturn, 1) := by decide +kernel
set_option maxRecDepth 20000 in
theorem ggX1_key_X1_isHeap : GoodIn wsX1_key wsX1_isHeap := goodIn_r _ [8, 9, 24, 25, 26, 27, 28] (by decide +kernel) (by decide +kernel)
set_option maxRecDepth 20000 in
theorem gX1_key_X1_isHeap : GoodIn wsX1_key (wsV RX1 27 RX1 yX1_isHeap wsX1_isHeap) := goodIn_app (goodIn_of _ (by decide +kernel)) ggX1_key_X1_isHeap
set_option maxRecDepth 20000 in
theorem ggX1_key_X1_sizeOf : GoodIn wsX1_key wsX1_sizeOf := goodIn_r _ [13, 14, 15, 24, 25, 26, 27, 28] (by decide +kernel) (by decide +kernel)
set_option maxRecDepth 20000 in
theorem gX1_key_X1_sizeOf : GoodIn wsX1_key (wsV RX1 31 RX1 yX1_sizeOf wsX1_sizeOf) := goodIn_app (goodIn_of _ (by decide +kernel)) ggX1_key_X1_sizeOf
set_option maxRecDepth 20000 in
theorem ggX1_key_X1_untell : GoodIn wsX1_key wsX1_untell := goodIn_r _ [19, 2, 24, 25, 26, 27, 28] (by decide +kernel) (by decide +kernel)
set_option maxRecDepth 20000 in
theorem gX1_key_X1_untell : GoodIn wsX1_key (wsV RX1 35 RX1 yX1_untell wsX1_untell) := goodIn_app (goodIn_of _ (by decide +kernel)) ggX1_key_X1_untell
set_option maxRecDepth 20000 in
theorem ggX1_key_X1_placeOf : GoodIn wsX1_key wsX1_placeOf := goodIn_r _ [23, 14, 15, 2, 3, 24, 25, 26, 27, 28] (by decide +kernel) (by decide +kernel)
set_option maxRecDepth 20000 in
theorem gX1_key_X1_placeOf : GoodIn wsX1_key (wsV RX1 38 RX1 yX1_placeOf wsX1_placeOf) := goodIn_app (goodIn_of _ (by decide +kernel)) ggX1_key_X1_placeOf
theorem dX1_key_0 : decode cX1_key 0 = .ok (.aload_n 0, 1) := by decide +kernel
theorem dX1_key_1 : decode cX1_key 1 = .ok (.iload_n 1, 1) := by decide +kernel
theorem dX1_key_2 : decode cX1_key 2 = .ok (.invokevirtual 27, 3) := by decide +kernel
theorem dX1_key_5 : decode cX1_key 5 = .ok (.ifCond .eq 16, 3) := by decide +kernel
theorem dX1_key_8 : decode cX1_key 8 = .ok (.iload_n 2, 1) := by decide +kernel
theorem dX1_key_9 : decode cX1_key 9 = .ok (.ifCond .lt 12, 3) := by decide +kernel
theorem dX1_key_12 : decode cX1_key 12 = .ok (.iload_n 2, 1) := by decide +kernel
theorem dX1_key_13 : decode cX1_key 13 = .ok (.aload_n 0, 1) := by decide +kernel
theorem dX1_key_14 : decode cX1_key 14 = .ok (.iload_n 1, 1) := by decide +kernel
theorem dX1_key_15 : decode cX1_key 15 = .ok (.invokevirtual 31, 3) := by decide +kernel
theorem dX1_key_18 : decode cX1_key 18 = .ok (.if_icmp .lt 7, 3) := by decide +kernel
theorem dX1_key_21 : decode cX1_key 21 = .ok (.ldc2_w 41, 3) := by decide +kernel
theorem dX1_key_24 : decode cX1_key 24 = .ok (.lreturn, 1) := by decide +kernel
theorem dX1_key_25 : decode cX1_key 25 = .ok (.aload_n 0, 1) := by decide +kernel
theorem dX1_key_26 : decode cX1_key 26 = .ok (.invokevirtual 35, 3) := by decide +kernel
theorem dX1_key_29 : decode cX1_key 29 = .ok (.iconst 0, 1) := by decide +kernel
theorem dX1_key_30 : decode cX1_key 30 = .ok (.istore_n 3, 1) := by decide +kernel
theorem dX1_key_31 : decode cX1_key 31 = .ok (.iload_n 3, 1) := by decide +kernel
theorem dX1_key_32 : decode cX1_key 32 = .ok (.iload_n 2, 1) := by decide +kernel
theorem dX1_key_33 : decode cX1_key 33 = .ok (.if_icmp .ge 20, 3) := by decide +kernel
theorem dX1_key_36 : decode cX1_key 36 = .ok (.aload_n 0, 1) := by decide +kernel
theorem dX1_key_37 : decode cX1_key 37 = .ok (.getfield 16, 3) := by decide +kernel
theorem dX1_key_40 : decode cX1_key 40 = .ok (.aload_n 0, 1) := by decide +kernel
theorem dX1_key_41 : decode cX1_key 41 = .ok (.iload_n 1, 1) := by decide +kernel
theorem dX1_key_42 : decode cX1_key 42 = .ok (.invokevirtual 38, 3) := by decide +kernel
theorem dX1_key_45 : decode cX1_key 45 = .ok (.iconst 1, 1) := by decide +kernel
theorem dX1_key_46 : decode cX1_key 46 = .ok (.bastore, 1) := by decide +kernel
theorem dX1_key_47 : decode cX1_key 47 = .ok (.iinc 3 1, 3) := by decide +kernel
theorem dX1_key_50 : decode cX1_key 50 = .ok (.goto (-19), 3) := by decide +kernel
theorem dX1_key_53 : decode cX1_key 53 = .ok (.aload_n 0, 1) := by decide +kernel
theorem dX1_key_54 : decode cX1_key 54 = .ok (.getfield 13, 3) := by decide +kernel
theorem dX1_key_57 : decode cX1_key 57 = .ok (.aload_n 0, 1) := by decide +kernel
theorem dX1_key_58 : decode cX1_key 58 = .ok (.iload_n 1, 1) := by decide +kernel
theorem dX1_key_59 : decode cX1_key 59 = .ok (.invokevirtual 38, 3) := by decide +kernel
theorem dX1_key_62 : decode cX1_key 62 = .ok (.iaload, 1) := by decide +kernel
theorem dX1_key_63 : decode cX1_key 63 = .ok (.i2l, 1) := by decide +kernel
theorem dX1_key_64 : decode cX1_key 64 = .ok (.lreturn, 1) := by decide +kernel
set_option maxRecDepth 20000 in
theorem ggX1_sum_X1_isHeap : GoodIn wsX1_sum wsX1_isHeap := goodIn_r _ [8, 9, 10, 11, 12, 13, 14] (by decide +kernel) (by decide +kernel)
set_option maxRecDepth 20000 in
theorem gX1_sum_X1_isHeap : GoodIn wsX1_sum (wsV RX1 27 RX1 yX1_isHeap wsX1_isHeap) := goodIn_app (goodIn_of _ (by decide +kernel)) ggX1_sum_X1_isHeap
theorem dX1_sum_0 : decode cX1_sum 0 = .ok (.lconst 0, 1) := by decide +kernel
theorem dX1_sum_1 : decode cX1_sum 1 = .ok (.lstore_n 2, 1) := by decide +kernel
theorem dX1_sum_2 : decode cX1_sum 2 = .ok (.iconst 0, 1) := by decide +kernel
theorem dX1_sum_3 : decode cX1_sum 3 = .ok (.istore 4, 2) := by decide +kernel
theorem dX1_sum_5 : decode cX1_sum 5 = .ok (.iload 4, 2) := by decide +kernel
theorem dX1_sum_7 : decode cX1_sum 7 = .ok (.aload_n 0, 1) := by decide +kernel
theorem dX1_sum_8 : decode cX1_sum 8 = .ok (.getfield 24, 3) := by decide +kernel
theorem dX1_sum_11 : decode cX1_sum 11 = .ok (.if_icmp .ge 43, 3) := by decide +kernel
theorem dX1_sum_14 : decode cX1_sum 14 = .ok (.lload_n 2, 1) := by decide +kernel
theorem dX1_sum_15 : decode cX1_sum 15 = .ok (.aload_n 0, 1) := by decide +kernel
theorem dX1_sum_16 : decode cX1_sum 16 = .ok (.iload_n 1, 1) := by decide +kernel
theorem dX1_sum_17 : decode cX1_sum 17 = .ok (.invokevirtual 27, 3) := by decide +kernel
theorem dX1_sum_20 : decode cX1_sum 20 = .ok (.ifCond .eq 25, 3) := by decide +kernel
theorem dX1_sum_23 : decode cX1_sum 23 = .ok (.aload_n 0, 1) := by decide +kernel
theorem dX1_sum_24 : decode cX1_sum 24 = .ok (.getfield 7, 3) := by decide +kernel
theorem dX1_sum_27 : decode cX1_sum 27 = .ok (.iload 4, 2) := by decide +kernel
theorem dX1_sum_29 : decode cX1_sum 29 = .ok (.iaload, 1) := by decide +kernel
theorem dX1_sum_30 : decode cX1_sum 30 = .ok (.iload_n 1, 1) := by decide +kernel
theorem dX1_sum_31 : decode cX1_sum 31 = .ok (.if_icmp .ne 14, 3) := by decide +kernel
theorem dX1_sum_34 : decode cX1_sum 34 = .ok (.aload_n 0, 1) := by decide +kernel
theorem dX1_sum_35 : decode cX1_sum 35 = .ok (.getfield 13, 3) := by decide +kernel
theorem dX1_sum_38 : decode cX1_sum 38 = .ok (.iload 4, 2) := by decide +kernel
theorem dX1_sum_40 : decode cX1_sum 40 = .ok (.iaload, 1) := by decide +kernel
theorem dX1_sum_41 : decode cX1_sum 41 = .ok (.i2l, 1) := by decide +kernel
theorem dX1_sum_42 : decode cX1_sum 42 = .ok (.goto 4, 3) := by decide +kernel
theorem dX1_sum_45 : decode cX1_sum 45 = .ok (.lconst 0, 1) := by decide +kernel
theorem dX1_sum_46 : decode cX1_sum 46 = .ok (.ladd, 1) := by decide +kernel
theorem dX1_sum_47 : decode cX1_sum 47 = .ok (.lstore_n 2, 1) := by decide +kernel
theorem dX1_sum_48 : decode cX1_sum 48 = .ok (.iinc 4 1, 3) := by decide +kernel
theorem dX1_sum_51 : decode cX1_sum 51 = .ok (.goto (-46), 3) := by decide +kernel
theorem dX1_sum_54 : decode cX1_sum 54 = .ok (.lload_n 2, 1) := by decide +kernel
theorem dX1_sum_55 : decode cX1_sum 55 = .ok (.lreturn, 1) := by decide +kernel
theorem dX1_free_0 : decode cX1_free 0 = .ok (.sipush 200, 3) := by decide +kernel
theorem dX1_free_3 : decode cX1_free 3 = .ok (.aload_n 0, 1) := by decide +kernel
theorem dX1_free_4 : decode cX1_free 4 = .ok (.getfield 24, 3) := by decide +kernel
theorem dX1_free_7 : decode cX1_free 7 = .ok (.isub, 1) := by decide +kernel
theorem dX1_free_8 : decode cX1_free 8 = .ok (.ireturn, 1) := by decide +kernel
theorem dX1_few_0 : decode cX1_few 0 = .ok (.iconst 1, 1) := by decide +kernel
theorem dX1_few_1 : decode cX1_few 1 = .ok (.ireturn, 1) := by decide +kernel
set_option maxRecDepth 20000 in
theorem ggL_law_X0_init : GoodIn wsL_law wsX0_init := goodIn_r _ [8, 9, 10, 11, 12, 13, 14, 15, 16, 17, 18, 2, 19, 20, 21, 22, 23, 24, 25, 26, 27, 28, 29, 30, 240, 241, 242, 243, 244, 245] (by decide +kernel) (by decide +kernel)
set_option maxRecDepth 20000 in
theorem gL_law_X0_init : GoodIn wsL_law (wsX0_init) := ggL_law_X0_init
set_option maxRecDepth 20000 in
theorem ggL_law_X1_init : GoodIn wsL_law wsX1_init := goodIn_r _ [33, 34, 10, 11, 12, 35, 36, 37, 38, 246, 247, 248, 249, 250] (by decide +kernel) (by decide +kernel)
set_option maxRecDepth 20000 in
theorem gL_law_X1_init : GoodIn wsL_law (wsX1_init) := ggL_law_X1_init
set_option maxRecDepth 20000 in
theorem ggL_law_X0_heap : GoodIn wsL_law wsX0_heap := goodIn_r _ [42, 15, 43, 26, 27, 28, 2, 29, 20, 30, 240, 241, 242, 243, 244, 245] (by decide +kernel) (by decide +kernel)
set_option maxRecDepth 20000 in
theorem gL_law_X0_heap : GoodIn wsL_law (wsV RL 13 RX0 yX0_heap wsX0_heap) := goodIn_app (goodIn_of _ (by decide +kernel)) ggL_law_X0_heap
set_option maxRecDepth 20000 in
theorem ggL_law_X1_heap : GoodIn wsL_law wsX1_heap := goodIn_r _ [47, 48, 246, 247, 248, 249, 250] (by decide +kernel) (by decide +kernel)
set_option maxRecDepth 20000 in
theorem gL_law_X1_heap : GoodIn wsL_law (wsV RL 17 RX1 yX1_heap wsX1_heap) := goodIn_app (goodIn_of _ (by decide +kernel)) ggL_law_X1_heap
set_option maxRecDepth 20000 in
theorem ggL_law_X0_add : GoodIn wsL_law wsX0_add := goodIn_r _ [52, 14, 26, 27, 28, 2, 29, 20, 30, 53, 54, 55, 56, 43, 57, 58, 59, 60, 25, 61, 62, 63, 64, 13, 16, 17, 18, 19, 65, 66, 67, 68, 69, 70, 71, 72, 73, 74, 75, 76, 77, 78, 79, 80, 81, 82, 83, 84, 85, 86, 87, 88, 89, 90, 91, 92, 93, 94, 95, 240, 241, 242, 243, 244, 245] (by decide +kernel) (by decide +kernel)
set_option maxRecDepth 20000 in
theorem gL_law_X0_add : GoodIn wsL_law (wsV RL 18 RX0 yX0_add wsX0_add) := goodIn_app (goodIn_of _ (by decide +kernel)) ggL_law_X0_add
set_option maxRecDepth 20000 in
theorem ggL_law_X1_add : GoodIn wsL_law wsX1_add := goodIn_r _ [99, 100, 35, 36, 101, 102, 103, 5, 104, 48, 105, 106, 107, 108, 246, 247, 248, 249, 250] (by decide +kernel) (by decide +kernel)
set_option maxRecDepth 20000 in
theorem gL_law_X1_add : GoodIn wsL_law (wsV RL 22 RX1 yX1_add wsX1_add) := goodIn_app (goodIn_of _ (by decide +kernel)) ggL_law_X1_add
set_option maxRecDepth 20000 in
theorem ggL_law_X0_least : GoodIn wsL_law wsX0_least := goodIn_r _ [112, 113, 114, 115, 116, 2, 117, 20, 30, 118, 119, 120, 121, 53, 54, 55, 56, 43, 61, 62, 63, 64, 13, 122, 123, 124, 125, 126, 127, 128, 77, 78, 79, 129, 130, 131, 132, 240, 241, 242, 243, 244, 245] (by decide +kernel) (by decide +kernel)
set_option maxRecDepth 20000 in
theorem gL_law_X0_least : GoodIn wsL_law (wsV RL 23 RX0 yX0_least wsX0_least) := goodIn_app (goodIn_of _ (by decide +kernel)) ggL_law_X0_least
set_option maxRecDepth 20000 in
theorem ggL_law_X1_least : GoodIn wsL_law wsX1_least := goodIn_r _ [136, 137, 36, 138, 139, 140, 5, 141, 38, 101, 102, 103, 104, 48, 142, 143, 144, 145, 100, 35, 246, 247, 248, 249, 250] (by decide +kernel) (by decide +kernel)
set_option maxRecDepth 20000 in
theorem gL_law_X1_least : GoodIn wsL_law (wsV RL 27 RX1 yX1_least wsX1_least) := goodIn_app (goodIn_of _ (by decide +kernel)) ggL_law_X1_least
set_option maxRecDepth 20000 in
theorem ggL_law_X0_take : GoodIn wsL_law wsX0_take := goodIn_r _ [149, 113, 114, 115, 116, 2, 117, 20, 30, 118, 119, 120, 121, 53, 54, 55, 56, 43, 61, 62, 63, 64, 13, 122, 123, 124, 125, 126, 127, 128, 77, 78, 79, 129, 130, 131, 132, 150, 151, 152, 153, 69, 70, 71, 72, 16, 17, 18, 19, 73, 74, 75, 76, 154, 155, 156, 157, 80, 81, 82, 83, 84, 85, 86, 87, 158, 159, 160, 161, 21, 22, 23, 24, 14, 25, 92, 93, 94, 95, 240, 241, 242, 243, 244, 245] (by decide +kernel) (by decide +kernel)
set_option maxRecDepth 20000 in
theorem gL_law_X0_take : GoodIn wsL_law (wsV RL 28 RX0 yX0_take wsX0_take) := goodIn_app (goodIn_of _ (by decide +kernel)) ggL_law_X0_take
set_option maxRecDepth 20000 in
theorem ggL_law_X1_take : GoodIn wsL_law wsX1_take := goodIn_r _ [165, 137, 36, 100, 35, 138, 139, 140, 5, 141, 38, 101, 102, 103, 104, 48, 142, 143, 144, 145, 246, 247, 248, 249, 250] (by decide +kernel) (by decide +kernel)
set_option maxRecDepth 20000 in
theorem gL_law_X1_take : GoodIn wsL_law (wsV RL 31 RX1 yX1_take wsX1_take) := goodIn_app (goodIn_of _ (by decide +kernel)) ggL_law_X1_take
set_option maxRecDepth 20000 in
theorem ggL_law_X0_meld : GoodIn wsL_law wsX0_meld := goodIn_r _ [169, 170, 171, 172, 2, 173, 20, 30, 118, 119, 120, 121, 53, 54, 55, 56, 43, 61, 62, 63, 64, 13, 122, 123, 124, 69, 70, 71, 72, 16, 17, 18, 19, 154, 155, 156, 157, 73, 74, 75, 76, 77, 78, 79, 80, 81, 82, 83, 84, 85, 86, 87, 92, 93, 94, 95, 240, 241, 242, 243, 244, 245] (by decide +kernel) (by decide +kernel)
set_option maxRecDepth 20000 in
theorem gL_law_X0_meld : GoodIn wsL_law (wsV RL 32 RX0 yX0_meld wsX0_meld) := goodIn_app (goodIn_of _ (by decide +kernel)) ggL_law_X0_meld
set_option maxRecDepth 20000 in
theorem ggL_law_X1_meld : GoodIn wsL_law wsX1_meld := goodIn_r _ [177, 100, 35, 101, 102, 103, 5, 104, 48, 105, 106, 107, 108, 246, 247, 248, 249, 250] (by decide +kernel) (by decide +kernel)
set_option maxRecDepth 20000 in
theorem gL_law_X1_meld : GoodIn wsL_law (wsV RL 35 RX1 yX1_meld wsX1_meld) := goodIn_app (goodIn_of _ (by decide +kernel)) ggL_law_X1_meld
set_option maxRecDepth 20000 in
theorem ggL_law_X0_size : GoodIn wsL_law wsX0_size := goodIn_r _ [181, 15, 26, 27, 28, 2, 29, 20, 30, 53, 54, 55, 56, 43, 61, 62, 63, 64, 13, 240, 241, 242, 243, 244, 245] (by decide +kernel) (by decide +kernel)
set_option maxRecDepth 20000 in
theorem gL_law_X0_size : GoodIn wsL_law (wsV RL 36 RX0 yX0_size wsX0_size) := goodIn_app (goodIn_of _ (by decide +kernel)) ggL_law_X0_size
set_option maxRecDepth 20000 in
theorem ggL_law_X1_size : GoodIn wsL_law wsX1_size := goodIn_r _ [185, 101, 102, 103, 5, 104, 48, 105, 106, 107, 108, 100, 35, 246, 247, 248, 249, 250] (by decide +kernel) (by decide +kernel)
set_option maxRecDepth 20000 in
theorem gL_law_X1_size : GoodIn wsL_law (wsV RL 40 RX1 yX1_size wsX1_size) := goodIn_app (goodIn_of _ (by decide +kernel)) ggL_law_X1_size
set_option maxRecDepth 20000 in
theorem ggL_law_X0_key : GoodIn wsL_law wsX0_key := goodIn_r _ [189, 15, 113, 26, 27, 28, 2, 29, 20, 30, 118, 119, 120, 121, 53, 54, 55, 56, 43, 61, 62, 63, 64, 13, 190, 191, 192, 193, 194, 195, 196, 197, 16, 17, 18, 19, 77, 78, 79, 198, 199, 200, 201, 202, 203, 204, 205, 206, 207, 208, 209, 210, 211, 240, 241, 242, 243, 244, 245] (by decide +kernel) (by decide +kernel)
set_option maxRecDepth 20000 in
theorem gL_law_X0_key : GoodIn wsL_law (wsV RL 41 RX0 yX0_key wsX0_key) := goodIn_app (goodIn_of _ (by decide +kernel)) ggL_law_X0_key
set_option maxRecDepth 20000 in
theorem ggL_law_X1_key : GoodIn wsL_law wsX1_key := goodIn_r _ [215, 137, 38, 36, 101, 102, 103, 5, 104, 48, 105, 106, 107, 108, 100, 35, 138, 139, 140, 141, 142, 143, 144, 145, 246, 247, 248, 249, 250] (by decide +kernel) (by decide +kernel)
set_option maxRecDepth 20000 in
theorem gL_law_X1_key : GoodIn wsL_law (wsV RL 45 RX1 yX1_key wsX1_key) := goodIn_app (goodIn_of _ (by decide +kernel)) ggL_law_X1_key
set_option maxRecDepth 20000 in
theorem ggL_law_X0_sum : GoodIn wsL_law wsX0_sum := goodIn_r _ [219, 15, 26, 27, 28, 2, 29, 20, 30, 53, 54, 55, 56, 43, 190, 191, 192, 193, 61, 62, 63, 64, 13, 194, 195, 196, 197, 16, 17, 18, 19, 77, 78, 79, 208, 209, 210, 211, 240, 241, 242, 243, 244, 245] (by decide +kernel) (by decide +kernel)
set_option maxRecDepth 20000 in
theorem gL_law_X0_sum : GoodIn wsL_law (wsV RL 46 RX0 yX0_sum wsX0_sum) := goodIn_app (goodIn_of _ (by decide +kernel)) ggL_law_X0_sum
set_option maxRecDepth 20000 in
theorem ggL_law_X1_sum : GoodIn wsL_law wsX1_sum := goodIn_r _ [223, 100, 35, 36, 101, 102, 103, 5, 104, 48, 246, 247, 248, 249, 250] (by decide +kernel) (by decide +kernel)
set_option maxRecDepth 20000 in
theorem gL_law_X1_sum : GoodIn wsL_law (wsV RL 49 RX1 yX1_sum wsX1_sum) := goodIn_app (goodIn_of _ (by decide +kernel)) ggL_law_X1_sum
set_option maxRecDepth 20000 in
theorem ggL_law_X0_free : GoodIn wsL_law wsX0_free := goodIn_r _ [227, 15, 25, 26, 27, 28, 2, 29, 20, 30, 240, 241, 242, 243, 244, 245] (by decide +kernel) (by decide +kernel)
set_option maxRecDepth 20000 in
theorem gL_law_X0_free : GoodIn wsL_law (wsV RL 50 RX0 yX0_free wsX0_free) := goodIn_app (goodIn_of _ (by decide +kernel)) ggL_law_X0_free
set_option maxRecDepth 20000 in
theorem ggL_law_X1_free : GoodIn wsL_law wsX1_free := goodIn_r _ [231, 100, 246, 247, 248, 249, 250] (by decide +kernel) (by decide +kernel)
set_option maxRecDepth 20000 in
theorem gL_law_X1_free : GoodIn wsL_law (wsV RL 53 RX1 yX1_free wsX1_free) := goodIn_app (goodIn_of _ (by decide +kernel)) ggL_law_X1_free
set_option maxRecDepth 20000 in
theorem ggL_law_X0_few : GoodIn wsL_law wsX0_few := goodIn_r _ [235, 20, 30, 15, 26, 27, 28, 2, 29, 240, 241, 242, 243, 244, 245] (by decide +kernel) (by decide +kernel)
set_option maxRecDepth 20000 in
theorem gL_law_X0_few : GoodIn wsL_law (wsV RL 54 RX0 yX0_few wsX0_few) := goodIn_app (goodIn_of _ (by decide +kernel)) ggL_law_X0_few
set_option maxRecDepth 20000 in
theorem ggL_law_X1_few : GoodIn wsL_law wsX1_few := goodIn_r _ [239] (by decide +kernel) (by decide +kernel)
set_option maxRecDepth 20000 in
theorem gL_law_X1_few : GoodIn wsL_law (wsV RL 58 RX1 yX1_few wsX1_few) := goodIn_app (goodIn_of _ (by decide +kernel)) ggL_law_X1_few
theorem dL_law_0 : decode cL_law 0 = .ok (.new 7, 3) := by decide +kernel
theorem dL_law_3 : decode cL_law 3 = .ok (.dup, 1) := by decide +kernel
theorem dL_law_4 : decode cL_law 4 = .ok (.invokespecial 9, 3) := by decide +kernel
theorem dL_law_7 : decode cL_law 7 = .ok (.astore_n 1, 1) := by decide +kernel
theorem dL_law_8 : decode cL_law 8 = .ok (.new 10, 3) := by decide +kernel
theorem dL_law_11 : decode cL_law 11 = .ok (.dup, 1) := by decide +kernel
theorem dL_law_12 : decode cL_law 12 = .ok (.invokespecial 12, 3) := by decide +kernel
theorem dL_law_15 : decode cL_law 15 = .ok (.astore_n 2, 1) := by decide +kernel
theorem dL_law_16 : decode cL_law 16 = .ok (.iconst 0, 1) := by decide +kernel
theorem dL_law_17 : decode cL_law 17 = .ok (.istore_n 3, 1) := by decide +kernel
theorem dL_law_18 : decode cL_law 18 = .ok (.iload_n 3, 1) := by decide +kernel
theorem dL_law_19 : decode cL_law 19 = .ok (.aload_n 0, 1) := by decide +kernel
theorem dL_law_20 : decode cL_law 20 = .ok (.arraylength, 1) := by decide +kernel
theorem dL_law_21 : decode cL_law 21 = .ok (.iconst 3, 1) := by decide +kernel
theorem dL_law_22 : decode cL_law 22 = .ok (.isub, 1) := by decide +kernel
theorem dL_law_23 : decode cL_law 23 = .ok (.if_icmp .gt 305, 3) := by decide +kernel
theorem dL_law_26 : decode cL_law 26 = .ok (.aload_n 0, 1) := by decide +kernel
theorem dL_law_27 : decode cL_law 27 = .ok (.iload_n 3, 1) := by decide +kernel
theorem dL_law_28 : decode cL_law 28 = .ok (.iaload, 1) := by decide +kernel
theorem dL_law_29 : decode cL_law 29 = .ok (.bipush 15, 2) := by decide +kernel
theorem dL_law_31 : decode cL_law 31 = .ok (.iand, 1) := by decide +kernel
theorem dL_law_32 : decode cL_law 32 = .ok (.tableswitch 290 0 9 #[56, 69, 102, 126, 150, 183, 206, 240, 264, 277], 56) := by decide +kernel
theorem dL_law_88 : decode cL_law 88 = .ok (.aload_n 1, 1) := by decide +kernel
theorem dL_law_89 : decode cL_law 89 = .ok (.invokevirtual 13, 3) := by decide +kernel
theorem dL_law_92 : decode cL_law 92 = .ok (.aload_n 2, 1) := by decide +kernel
theorem dL_law_93 : decode cL_law 93 = .ok (.invokevirtual 17, 3) := by decide +kernel
theorem dL_law_96 : decode cL_law 96 = .ok (.if_icmp .eq 226, 3) := by decide +kernel
theorem dL_law_99 : decode cL_law 99 = .ok (.iconst 0, 1) := by decide +kernel
theorem dL_law_100 : decode cL_law 100 = .ok (.ireturn, 1) := by decide +kernel
theorem dL_law_101 : decode cL_law 101 = .ok (.aload_n 1, 1) := by decide +kernel
theorem dL_law_102 : decode cL_law 102 = .ok (.aload_n 0, 1) := by decide +kernel
