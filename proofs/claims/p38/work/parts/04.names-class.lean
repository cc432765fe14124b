set_option maxRecDepth 20000 in
theorem ggX0_init_X3_put : GoodIn wsX0_init wsX3_put := goodIn_r _ [12] (by decide +kernel) (by decide +kernel)
set_option maxRecDepth 20000 in
theorem gX0_init_X3_put_n26 : GoodIn wsX0_init (wsX3_put) := ggX0_init_X3_put
theorem dX0_init_0 : decode cX0_init 0 = .ok (.aload_n 0, 1) := by decide +kernel
theorem dX0_init_1 : decode cX0_init 1 = .ok (.invokespecial 3, 3) := by decide +kernel
theorem dX0_init_4 : decode cX0_init 4 = .ok (.aload_n 0, 1) := by decide +kernel
theorem dX0_init_5 : decode cX0_init 5 = .ok (.bipush 10, 2) := by decide +kernel
theorem dX0_init_7 : decode cX0_init 7 = .ok (.newarray .int, 2) := by decide +kernel
theorem dX0_init_9 : decode cX0_init 9 = .ok (.putfield 9, 3) := by decide +kernel
theorem dX0_init_12 : decode cX0_init 12 = .ok (.aload_n 0, 1) := by decide +kernel
theorem dX0_init_13 : decode cX0_init 13 = .ok (.bipush 10, 2) := by decide +kernel
theorem dX0_init_15 : decode cX0_init 15 = .ok (.newarray .int, 2) := by decide +kernel
theorem dX0_init_17 : decode cX0_init 17 = .ok (.putfield 15, 3) := by decide +kernel
theorem dX0_init_20 : decode cX0_init 20 = .ok (.aload_n 0, 1) := by decide +kernel
theorem dX0_init_21 : decode cX0_init 21 = .ok (.sipush 1024, 3) := by decide +kernel
theorem dX0_init_24 : decode cX0_init 24 = .ok (.newarray .int, 2) := by decide +kernel
theorem dX0_init_26 : decode cX0_init 26 = .ok (.putfield 18, 3) := by decide +kernel
theorem dX0_init_29 : decode cX0_init 29 = .ok (.aload_n 0, 1) := by decide +kernel
theorem dX0_init_30 : decode cX0_init 30 = .ok (.iconst 0, 1) := by decide +kernel
theorem dX0_init_31 : decode cX0_init 31 = .ok (.putfield 21, 3) := by decide +kernel
theorem dX0_init_34 : decode cX0_init 34 = .ok (.aload_n 0, 1) := by decide +kernel
theorem dX0_init_35 : decode cX0_init 35 = .ok (.getfield 18, 3) := by decide +kernel
theorem dX0_init_38 : decode cX0_init 38 = .ok (.iconst 0, 1) := by decide +kernel
theorem dX0_init_39 : decode cX0_init 39 = .ok (.ldc 25, 2) := by decide +kernel
theorem dX0_init_41 : decode cX0_init 41 = .ok (.invokestatic 26, 3) := by decide +kernel
theorem dX0_init_44 : decode cX0_init 44 = .ok (.return_, 1) := by decide +kernel
theorem dX0_count_0 : decode cX0_count 0 = .ok (.aload_n 0, 1) := by decide +kernel
theorem dX0_count_1 : decode cX0_count 1 = .ok (.getfield 21, 3) := by decide +kernel
theorem dX0_count_4 : decode cX0_count 4 = .ok (.ireturn, 1) := by decide +kernel
theorem dX0_countSets_0 : decode cX0_countSets 0 = .ok (.iconst 1, 1) := by decide +kernel
theorem dX0_countSets_1 : decode cX0_countSets 1 = .ok (.aload_n 0, 1) := by decide +kernel
theorem dX0_countSets_2 : decode cX0_countSets 2 = .ok (.getfield 21, 3) := by decide +kernel
theorem dX0_countSets_5 : decode cX0_countSets 5 = .ok (.ishl, 1) := by decide +kernel
theorem dX0_countSets_6 : decode cX0_countSets 6 = .ok (.ireturn, 1) := by decide +kernel
theorem dX0_isFull_0 : decode cX0_isFull 0 = .ok (.aload_n 0, 1) := by decide +kernel
theorem dX0_isFull_1 : decode cX0_isFull 1 = .ok (.getfield 21, 3) := by decide +kernel
theorem dX0_isFull_4 : decode cX0_isFull 4 = .ok (.bipush 10, 2) := by decide +kernel
theorem dX0_isFull_6 : decode cX0_isFull 6 = .ok (.if_icmp .lt 7, 3) := by decide +kernel
theorem dX0_isFull_9 : decode cX0_isFull 9 = .ok (.iconst 1, 1) := by decide +kernel
theorem dX0_isFull_10 : decode cX0_isFull 10 = .ok (.goto 4, 3) := by decide +kernel
theorem dX0_isFull_13 : decode cX0_isFull 13 = .ok (.iconst 0, 1) := by decide +kernel
theorem dX0_isFull_14 : decode cX0_isFull 14 = .ok (.ireturn, 1) := by decide +kernel
set_option maxRecDepth 20000 in
theorem ggX0_sentenceAt_X3_at : GoodIn wsX0_sentenceAt wsX3_at := goodIn_r _ [4] (by decide +kernel) (by decide +kernel)
set_option maxRecDepth 20000 in
theorem gX0_sentenceAt_X3_at_n30 : GoodIn wsX0_sentenceAt (wsX3_at) := ggX0_sentenceAt_X3_at
theorem dX0_sentenceAt_0 : decode cX0_sentenceAt 0 = .ok (.aload_n 0, 1) := by decide +kernel
theorem dX0_sentenceAt_1 : decode cX0_sentenceAt 1 = .ok (.getfield 9, 3) := by decide +kernel
theorem dX0_sentenceAt_4 : decode cX0_sentenceAt 4 = .ok (.iload_n 1, 1) := by decide +kernel
theorem dX0_sentenceAt_5 : decode cX0_sentenceAt 5 = .ok (.invokestatic 30, 3) := by decide +kernel
theorem dX0_sentenceAt_8 : decode cX0_sentenceAt 8 = .ok (.ireturn, 1) := by decide +kernel
set_option maxRecDepth 20000 in
theorem ggX0_rankAt_X3_at : GoodIn wsX0_rankAt wsX3_at := goodIn_r _ [4] (by decide +kernel) (by decide +kernel)
set_option maxRecDepth 20000 in
theorem gX0_rankAt_X3_at_n30 : GoodIn wsX0_rankAt (wsX3_at) := ggX0_rankAt_X3_at
theorem dX0_rankAt_0 : decode cX0_rankAt 0 = .ok (.aload_n 0, 1) := by decide +kernel
theorem dX0_rankAt_1 : decode cX0_rankAt 1 = .ok (.getfield 15, 3) := by decide +kernel
theorem dX0_rankAt_4 : decode cX0_rankAt 4 = .ok (.iload_n 1, 1) := by decide +kernel
theorem dX0_rankAt_5 : decode cX0_rankAt 5 = .ok (.invokestatic 30, 3) := by decide +kernel
theorem dX0_rankAt_8 : decode cX0_rankAt 8 = .ok (.ireturn, 1) := by decide +kernel
set_option maxRecDepth 20000 in
theorem ggX0_include_X0_isFull : GoodIn wsX0_include wsX0_isFull := goodIn_r _ [9, 2, 19, 20, 21, 22] (by decide +kernel) (by decide +kernel)
set_option maxRecDepth 20000 in
theorem gX0_include_X0_isFull : GoodIn wsX0_include (wsV RX0 34 RX0 yX0_isFull wsX0_isFull) := goodIn_app (goodIn_of _ (by decide +kernel)) ggX0_include_X0_isFull
set_option maxRecDepth 20000 in
theorem ggX0_include_X3_put : GoodIn wsX0_include wsX3_put := goodIn_r _ [12] (by decide +kernel) (by decide +kernel)
set_option maxRecDepth 20000 in
theorem gX0_include_X3_put_n26 : GoodIn wsX0_include (wsX3_put) := ggX0_include_X3_put
set_option maxRecDepth 20000 in
theorem ggX0_include_X0_countSets : GoodIn wsX0_include wsX0_countSets := goodIn_r _ [16, 2, 19, 20, 21, 22] (by decide +kernel) (by decide +kernel)
set_option maxRecDepth 20000 in
theorem gX0_include_X0_countSets : GoodIn wsX0_include (wsV RX0 38 RX0 yX0_countSets wsX0_countSets) := goodIn_app (goodIn_of _ (by decide +kernel)) ggX0_include_X0_countSets
set_option maxRecDepth 20000 in
theorem ggX0_include_X3_at : GoodIn wsX0_include wsX3_at := goodIn_r _ [18] (by decide +kernel) (by decide +kernel)
set_option maxRecDepth 20000 in
theorem gX0_include_X3_at_n30 : GoodIn wsX0_include (wsX3_at) := ggX0_include_X3_at
theorem dX0_include_0 : decode cX0_include 0 = .ok (.aload_n 0, 1) := by decide +kernel
theorem dX0_include_1 : decode cX0_include 1 = .ok (.invokevirtual 34, 3) := by decide +kernel
theorem dX0_include_4 : decode cX0_include 4 = .ok (.ifCond .eq 4, 3) := by decide +kernel
theorem dX0_include_7 : decode cX0_include 7 = .ok (.return_, 1) := by decide +kernel
theorem dX0_include_8 : decode cX0_include 8 = .ok (.aload_n 0, 1) := by decide +kernel
theorem dX0_include_9 : decode cX0_include 9 = .ok (.getfield 9, 3) := by decide +kernel
theorem dX0_include_12 : decode cX0_include 12 = .ok (.aload_n 0, 1) := by decide +kernel
theorem dX0_include_13 : decode cX0_include 13 = .ok (.getfield 21, 3) := by decide +kernel
theorem dX0_include_16 : decode cX0_include 16 = .ok (.iload_n 1, 1) := by decide +kernel
theorem dX0_include_17 : decode cX0_include 17 = .ok (.invokestatic 26, 3) := by decide +kernel
theorem dX0_include_20 : decode cX0_include 20 = .ok (.aload_n 0, 1) := by decide +kernel
theorem dX0_include_21 : decode cX0_include 21 = .ok (.getfield 15, 3) := by decide +kernel
theorem dX0_include_24 : decode cX0_include 24 = .ok (.aload_n 0, 1) := by decide +kernel
theorem dX0_include_25 : decode cX0_include 25 = .ok (.getfield 21, 3) := by decide +kernel
theorem dX0_include_28 : decode cX0_include 28 = .ok (.iload_n 2, 1) := by decide +kernel
theorem dX0_include_29 : decode cX0_include 29 = .ok (.invokestatic 26, 3) := by decide +kernel
theorem dX0_include_32 : decode cX0_include 32 = .ok (.aload_n 0, 1) := by decide +kernel
theorem dX0_include_33 : decode cX0_include 33 = .ok (.invokevirtual 38, 3) := by decide +kernel
theorem dX0_include_36 : decode cX0_include 36 = .ok (.istore_n 3, 1) := by decide +kernel
theorem dX0_include_37 : decode cX0_include 37 = .ok (.iconst 0, 1) := by decide +kernel
theorem dX0_include_38 : decode cX0_include 38 = .ok (.istore 4, 2) := by decide +kernel
theorem dX0_include_40 : decode cX0_include 40 = .ok (.iload 4, 2) := by decide +kernel
theorem dX0_include_42 : decode cX0_include 42 = .ok (.iload_n 3, 1) := by decide +kernel
theorem dX0_include_43 : decode cX0_include 43 = .ok (.if_icmp .ge 31, 3) := by decide +kernel
theorem dX0_include_46 : decode cX0_include 46 = .ok (.aload_n 0, 1) := by decide +kernel
theorem dX0_include_47 : decode cX0_include 47 = .ok (.getfield 18, 3) := by decide +kernel
theorem dX0_include_50 : decode cX0_include 50 = .ok (.iload_n 3, 1) := by decide +kernel
theorem dX0_include_51 : decode cX0_include 51 = .ok (.iload 4, 2) := by decide +kernel
theorem dX0_include_53 : decode cX0_include 53 = .ok (.iadd, 1) := by decide +kernel
theorem dX0_include_54 : decode cX0_include 54 = .ok (.aload_n 0, 1) := by decide +kernel
theorem dX0_include_55 : decode cX0_include 55 = .ok (.getfield 18, 3) := by decide +kernel
theorem dX0_include_58 : decode cX0_include 58 = .ok (.iload 4, 2) := by decide +kernel
theorem dX0_include_60 : decode cX0_include 60 = .ok (.invokestatic 30, 3) := by decide +kernel
theorem dX0_include_63 : decode cX0_include 63 = .ok (.iload_n 1, 1) := by decide +kernel
theorem dX0_include_64 : decode cX0_include 64 = .ok (.iand, 1) := by decide +kernel
theorem dX0_include_65 : decode cX0_include 65 = .ok (.invokestatic 26, 3) := by decide +kernel
theorem dX0_include_68 : decode cX0_include 68 = .ok (.iinc 4 1, 3) := by decide +kernel
theorem dX0_include_71 : decode cX0_include 71 = .ok (.goto (-31), 3) := by decide +kernel
theorem dX0_include_74 : decode cX0_include 74 = .ok (.aload_n 0, 1) := by decide +kernel
theorem dX0_include_75 : decode cX0_include 75 = .ok (.dup, 1) := by decide +kernel
theorem dX0_include_76 : decode cX0_include 76 = .ok (.getfield 21, 3) := by decide +kernel
theorem dX0_include_79 : decode cX0_include 79 = .ok (.iconst 1, 1) := by decide +kernel
theorem dX0_include_80 : decode cX0_include 80 = .ok (.iadd, 1) := by decide +kernel
theorem dX0_include_81 : decode cX0_include 81 = .ok (.putfield 21, 3) := by decide +kernel
theorem dX0_include_84 : decode cX0_include 84 = .ok (.return_, 1) := by decide +kernel
set_option maxRecDepth 20000 in
theorem ggX0_meetOf_X3_at : GoodIn wsX0_meetOf wsX3_at := goodIn_r _ [4] (by decide +kernel) (by decide +kernel)
set_option maxRecDepth 20000 in
theorem gX0_meetOf_X3_at_n30 : GoodIn wsX0_meetOf (wsX3_at) := ggX0_meetOf_X3_at
theorem dX0_meetOf_0 : decode cX0_meetOf 0 = .ok (.aload_n 0, 1) := by decide +kernel
theorem dX0_meetOf_1 : decode cX0_meetOf 1 = .ok (.getfield 18, 3) := by decide +kernel
theorem dX0_meetOf_4 : decode cX0_meetOf 4 = .ok (.iload_n 1, 1) := by decide +kernel
theorem dX0_meetOf_5 : decode cX0_meetOf 5 = .ok (.invokestatic 30, 3) := by decide +kernel
theorem dX0_meetOf_8 : decode cX0_meetOf 8 = .ok (.ireturn, 1) := by decide +kernel
set_option maxRecDepth 20000 in
theorem ggX0_reaches_X3_at : GoodIn wsX0_reaches wsX3_at := goodIn_r _ [4] (by decide +kernel) (by decide +kernel)
set_option maxRecDepth 20000 in
theorem gX0_reaches_X3_at_n30 : GoodIn wsX0_reaches (wsX3_at) := ggX0_reaches_X3_at
set_option maxRecDepth 20000 in
theorem ggX0_reaches_X3_not : GoodIn wsX0_reaches wsX3_not := goodIn_r _ [6, 7] (by decide +kernel) (by decide +kernel)
set_option maxRecDepth 20000 in
theorem gX0_reaches_X3_not_n56 : GoodIn wsX0_reaches (wsX3_not) := ggX0_reaches_X3_not
theorem dX0_reaches_0 : decode cX0_reaches 0 = .ok (.aload_n 0, 1) := by decide +kernel
theorem dX0_reaches_1 : decode cX0_reaches 1 = .ok (.getfield 18, 3) := by decide +kernel
theorem dX0_reaches_4 : decode cX0_reaches 4 = .ok (.iload_n 1, 1) := by decide +kernel
theorem dX0_reaches_5 : decode cX0_reaches 5 = .ok (.invokestatic 30, 3) := by decide +kernel
theorem dX0_reaches_8 : decode cX0_reaches 8 = .ok (.iload_n 2, 1) := by decide +kernel
theorem dX0_reaches_9 : decode cX0_reaches 9 = .ok (.invokestatic 56, 3) := by decide +kernel
theorem dX0_reaches_12 : decode cX0_reaches 12 = .ok (.iand, 1) := by decide +kernel
theorem dX0_reaches_13 : decode cX0_reaches 13 = .ok (.ifCond .ne 7, 3) := by decide +kernel
theorem dX0_reaches_16 : decode cX0_reaches 16 = .ok (.iconst 1, 1) := by decide +kernel
theorem dX0_reaches_17 : decode cX0_reaches 17 = .ok (.goto 4, 3) := by decide +kernel
theorem dX0_reaches_20 : decode cX0_reaches 20 = .ok (.iconst 0, 1) := by decide +kernel
theorem dX0_reaches_21 : decode cX0_reaches 21 = .ok (.ireturn, 1) := by decide +kernel
set_option maxRecDepth 20000 in
theorem ggX0_isKernelFor_X0_reaches : GoodIn wsX0_isKernelFor wsX0_reaches := goodIn_r _ [6, 7, 8, 9, 10, 11, 12, 13, 16, 17, 18, 19] (by decide +kernel) (by decide +kernel)
set_option maxRecDepth 20000 in
theorem gX0_isKernelFor_X0_reaches : GoodIn wsX0_isKernelFor (wsV RX0 60 RX0 yX0_reaches wsX0_reaches) := goodIn_app (goodIn_of _ (by decide +kernel)) ggX0_isKernelFor_X0_reaches
set_option maxRecDepth 20000 in
theorem ggX0_isKernelFor_X3_has : GoodIn wsX0_isKernelFor wsX3_has := goodIn_r _ [15] (by decide +kernel) (by decide +kernel)
set_option maxRecDepth 20000 in
theorem gX0_isKernelFor_X3_has_n48 : GoodIn wsX0_isKernelFor (wsX3_has) := ggX0_isKernelFor_X3_has
theorem dX0_isKernelFor_0 : decode cX0_isKernelFor 0 = .ok (.aload_n 0, 1) := by decide +kernel
theorem dX0_isKernelFor_1 : decode cX0_isKernelFor 1 = .ok (.iload_n 1, 1) := by decide +kernel
theorem dX0_isKernelFor_2 : decode cX0_isKernelFor 2 = .ok (.iload_n 2, 1) := by decide +kernel
theorem dX0_isKernelFor_3 : decode cX0_isKernelFor 3 = .ok (.invokevirtual 60, 3) := by decide +kernel
theorem dX0_isKernelFor_6 : decode cX0_isKernelFor 6 = .ok (.ifCond .ne 5, 3) := by decide +kernel
theorem dX0_isKernelFor_9 : decode cX0_isKernelFor 9 = .ok (.iconst 0, 1) := by decide +kernel
theorem dX0_isKernelFor_10 : decode cX0_isKernelFor 10 = .ok (.ireturn, 1) := by decide +kernel
theorem dX0_isKernelFor_11 : decode cX0_isKernelFor 11 = .ok (.iconst 0, 1) := by decide +kernel
theorem dX0_isKernelFor_12 : decode cX0_isKernelFor 12 = .ok (.istore_n 3, 1) := by decide +kernel
theorem dX0_isKernelFor_13 : decode cX0_isKernelFor 13 = .ok (.iload_n 3, 1) := by decide +kernel
theorem dX0_isKernelFor_14 : decode cX0_isKernelFor 14 = .ok (.aload_n 0, 1) := by decide +kernel
theorem dX0_isKernelFor_15 : decode cX0_isKernelFor 15 = .ok (.getfield 21, 3) := by decide +kernel
theorem dX0_isKernelFor_18 : decode cX0_isKernelFor 18 = .ok (.if_icmp .ge 32, 3) := by decide +kernel
theorem dX0_isKernelFor_21 : decode cX0_isKernelFor 21 = .ok (.iload_n 1, 1) := by decide +kernel
theorem dX0_isKernelFor_22 : decode cX0_isKernelFor 22 = .ok (.iload_n 3, 1) := by decide +kernel
theorem dX0_isKernelFor_23 : decode cX0_isKernelFor 23 = .ok (.invokestatic 48, 3) := by decide +kernel
theorem dX0_isKernelFor_26 : decode cX0_isKernelFor 26 = .ok (.ifCond .eq 18, 3) := by decide +kernel
theorem dX0_isKernelFor_29 : decode cX0_isKernelFor 29 = .ok (.aload_n 0, 1) := by decide +kernel
theorem dX0_isKernelFor_30 : decode cX0_isKernelFor 30 = .ok (.iload_n 1, 1) := by decide +kernel
theorem dX0_isKernelFor_31 : decode cX0_isKernelFor 31 = .ok (.iconst 1, 1) := by decide +kernel
theorem dX0_isKernelFor_32 : decode cX0_isKernelFor 32 = .ok (.iload_n 3, 1) := by decide +kernel
theorem dX0_isKernelFor_33 : decode cX0_isKernelFor 33 = .ok (.ishl, 1) := by decide +kernel
theorem dX0_isKernelFor_34 : decode cX0_isKernelFor 34 = .ok (.ixor, 1) := by decide +kernel
theorem dX0_isKernelFor_35 : decode cX0_isKernelFor 35 = .ok (.iload_n 2, 1) := by decide +kernel
theorem dX0_isKernelFor_36 : decode cX0_isKernelFor 36 = .ok (.invokevirtual 60, 3) := by decide +kernel
theorem dX0_isKernelFor_39 : decode cX0_isKernelFor 39 = .ok (.ifCond .eq 5, 3) := by decide +kernel
theorem dX0_isKernelFor_42 : decode cX0_isKernelFor 42 = .ok (.iconst 0, 1) := by decide +kernel
theorem dX0_isKernelFor_43 : decode cX0_isKernelFor 43 = .ok (.ireturn, 1) := by decide +kernel
theorem dX0_isKernelFor_44 : decode cX0_isKernelFor 44 = .ok (.iinc 3 1, 3) := by decide +kernel
theorem dX0_isKernelFor_47 : decode cX0_isKernelFor 47 = .ok (.goto (-34), 3) := by decide +kernel
theorem dX0_isKernelFor_50 : decode cX0_isKernelFor 50 = .ok (.iconst 1, 1) := by decide +kernel
theorem dX0_isKernelFor_51 : decode cX0_isKernelFor 51 = .ok (.ireturn, 1) := by decide +kernel
set_option maxRecDepth 20000 in
theorem ggX0_isRemainderFor_X0_reaches : GoodIn wsX0_isRemainderFor wsX0_reaches := goodIn_r _ [6, 7, 8, 9, 10, 11, 12, 13, 16, 17, 18, 19] (by decide +kernel) (by decide +kernel)
set_option maxRecDepth 20000 in
theorem gX0_isRemainderFor_X0_reaches : GoodIn wsX0_isRemainderFor (wsV RX0 60 RX0 yX0_reaches wsX0_reaches) := goodIn_app (goodIn_of _ (by decide +kernel)) ggX0_isRemainderFor_X0_reaches
set_option maxRecDepth 20000 in
theorem ggX0_isRemainderFor_X3_has : GoodIn wsX0_isRemainderFor wsX3_has := goodIn_r _ [15] (by decide +kernel) (by decide +kernel)
set_option maxRecDepth 20000 in
theorem gX0_isRemainderFor_X3_has_n48 : GoodIn wsX0_isRemainderFor (wsX3_has) := ggX0_isRemainderFor_X3_has
theorem dX0_isRemainderFor_0 : decode cX0_isRemainderFor 0 = .ok (.aload_n 0, 1) := by decide +kernel
theorem dX0_isRemainderFor_1 : decode cX0_isRemainderFor 1 = .ok (.iload_n 1, 1) := by decide +kernel
theorem dX0_isRemainderFor_2 : decode cX0_isRemainderFor 2 = .ok (.iload_n 2, 1) := by decide +kernel
theorem dX0_isRemainderFor_3 : decode cX0_isRemainderFor 3 = .ok (.invokevirtual 60, 3) := by decide +kernel
theorem dX0_isRemainderFor_6 : decode cX0_isRemainderFor 6 = .ok (.ifCond .eq 5, 3) := by decide +kernel
theorem dX0_isRemainderFor_9 : decode cX0_isRemainderFor 9 = .ok (.iconst 0, 1) := by decide +kernel
theorem dX0_isRemainderFor_10 : decode cX0_isRemainderFor 10 = .ok (.ireturn, 1) := by decide +kernel
theorem dX0_isRemainderFor_11 : decode cX0_isRemainderFor 11 = .ok (.iconst 0, 1) := by decide +kernel
theorem dX0_isRemainderFor_12 : decode cX0_isRemainderFor 12 = .ok (.istore_n 3, 1) := by decide +kernel
theorem dX0_isRemainderFor_13 : decode cX0_isRemainderFor 13 = .ok (.iload_n 3, 1) := by decide +kernel
theorem dX0_isRemainderFor_14 : decode cX0_isRemainderFor 14 = .ok (.aload_n 0, 1) := by decide +kernel
theorem dX0_isRemainderFor_15 : decode cX0_isRemainderFor 15 = .ok (.getfield 21, 3) := by decide +kernel
theorem dX0_isRemainderFor_18 : decode cX0_isRemainderFor 18 = .ok (.if_icmp .ge 32, 3) := by decide +kernel
theorem dX0_isRemainderFor_21 : decode cX0_isRemainderFor 21 = .ok (.iload_n 1, 1) := by decide +kernel
theorem dX0_isRemainderFor_22 : decode cX0_isRemainderFor 22 = .ok (.iload_n 3, 1) := by decide +kernel
theorem dX0_isRemainderFor_23 : decode cX0_isRemainderFor 23 = .ok (.invokestatic 48, 3) := by decide +kernel
theorem dX0_isRemainderFor_26 : decode cX0_isRemainderFor 26 = .ok (.ifCond .ne 18, 3) := by decide +kernel
theorem dX0_isRemainderFor_29 : decode cX0_isRemainderFor 29 = .ok (.aload_n 0, 1) := by decide +kernel
theorem dX0_isRemainderFor_30 : decode cX0_isRemainderFor 30 = .ok (.iload_n 1, 1) := by decide +kernel
theorem dX0_isRemainderFor_31 : decode cX0_isRemainderFor 31 = .ok (.iconst 1, 1) := by decide +kernel
theorem dX0_isRemainderFor_32 : decode cX0_isRemainderFor 32 = .ok (.iload_n 3, 1) := by decide +kernel
theorem dX0_isRemainderFor_33 : decode cX0_isRemainderFor 33 = .ok (.ishl, 1) := by decide +kernel
theorem dX0_isRemainderFor_34 : decode cX0_isRemainderFor 34 = .ok (.ior, 1) := by decide +kernel
theorem dX0_isRemainderFor_35 : decode cX0_isRemainderFor 35 = .ok (.iload_n 2, 1) := by decide +kernel
theorem dX0_isRemainderFor_36 : decode cX0_isRemainderFor 36 = .ok (.invokevirtual 60, 3) := by decide +kernel
theorem dX0_isRemainderFor_39 : decode cX0_isRemainderFor 39 = .ok (.ifCond .ne 5, 3) := by decide +kernel
theorem dX0_isRemainderFor_42 : decode cX0_isRemainderFor 42 = .ok (.iconst 0, 1) := by decide +kernel
theorem dX0_isRemainderFor_43 : decode cX0_isRemainderFor 43 = .ok (.ireturn, 1) := by decide +kernel
theorem dX0_isRemainderFor_44 : decode cX0_isRemainderFor 44 = .ok (.iinc 3 1, 3) := by decide +kernel
theorem dX0_isRemainderFor_47 : decode cX0_isRemainderFor 47 = .ok (.goto (-34), 3) := by decide +kernel
theorem dX0_isRemainderFor_50 : decode cX0_isRemainderFor 50 = .ok (.iconst 1, 1) := by decide +kernel
theorem dX0_isRemainderFor_51 : decode cX0_isRemainderFor 51 = .ok (.ireturn, 1) := by decide +kernel
set_option maxRecDepth 20000 in
theorem ggX0_isFound_X0_isKernelFor : GoodIn wsX0_isFound wsX0_isKernelFor := goodIn_r _ [5, 6, 7, 8, 9, 4, 10, 11, 12, 13, 14, 15, 16, 17, 18, 19, 24, 25, 26, 27] (by decide +kernel) (by decide +kernel)
set_option maxRecDepth 20000 in
theorem gX0_isFound_X0_isKernelFor : GoodIn wsX0_isFound (wsV RX0 63 RX0 yX0_isKernelFor wsX0_isKernelFor) := goodIn_app (goodIn_of _ (by decide +kernel)) ggX0_isFound_X0_isKernelFor
set_option maxRecDepth 20000 in
theorem ggX0_isFound_X0_isRemainderFor : GoodIn wsX0_isFound wsX0_isRemainderFor := goodIn_r _ [23, 6, 7, 8, 9, 4, 10, 11, 12, 13, 14, 15, 16, 17, 18, 19, 24, 25, 26, 27] (by decide +kernel) (by decide +kernel)
set_option maxRecDepth 20000 in
theorem gX0_isFound_X0_isRemainderFor : GoodIn wsX0_isFound (wsV RX0 66 RX0 yX0_isRemainderFor wsX0_isRemainderFor) := goodIn_app (goodIn_of _ (by decide +kernel)) ggX0_isFound_X0_isRemainderFor
theorem dX0_isFound_0 : decode cX0_isFound 0 = .ok (.iload_n 1, 1) := by decide +kernel
theorem dX0_isFound_1 : decode cX0_isFound 1 = .ok (.ifCond .eq 12, 3) := by decide +kernel
theorem dX0_isFound_4 : decode cX0_isFound 4 = .ok (.aload_n 0, 1) := by decide +kernel
theorem dX0_isFound_5 : decode cX0_isFound 5 = .ok (.iload_n 2, 1) := by decide +kernel
theorem dX0_isFound_6 : decode cX0_isFound 6 = .ok (.iload_n 3, 1) := by decide +kernel
theorem dX0_isFound_7 : decode cX0_isFound 7 = .ok (.invokevirtual 63, 3) := by decide +kernel
theorem dX0_isFound_10 : decode cX0_isFound 10 = .ok (.goto 9, 3) := by decide +kernel
theorem dX0_isFound_13 : decode cX0_isFound 13 = .ok (.aload_n 0, 1) := by decide +kernel
theorem dX0_isFound_14 : decode cX0_isFound 14 = .ok (.iload_n 2, 1) := by decide +kernel
theorem dX0_isFound_15 : decode cX0_isFound 15 = .ok (.iload_n 3, 1) := by decide +kernel
theorem dX0_isFound_16 : decode cX0_isFound 16 = .ok (.invokevirtual 66, 3) := by decide +kernel
theorem dX0_isFound_19 : decode cX0_isFound 19 = .ok (.ireturn, 1) := by decide +kernel
set_option maxRecDepth 20000 in
theorem ggX0_countFound_X0_countSets : GoodIn wsX0_countFound wsX0_countSets := goodIn_r _ [5, 6, 32, 33, 34, 35] (by decide +kernel) (by decide +kernel)
set_option maxRecDepth 20000 in
theorem gX0_countFound_X0_countSets : GoodIn wsX0_countFound (wsV RX0 38 RX0 yX0_countSets wsX0_countSets) := goodIn_app (goodIn_of _ (by decide +kernel)) ggX0_countFound_X0_countSets
set_option maxRecDepth 20000 in
theorem ggX0_countFound_X0_isFound : GoodIn wsX0_countFound wsX0_isFound := goodIn_r _ [10, 11, 12, 13, 4, 14, 6, 15, 16, 17, 18, 19, 20, 21, 22, 23, 24, 25, 26, 27, 28, 29, 30, 31, 32, 33, 34, 35] (by decide +kernel) (by decide +kernel)
set_option maxRecDepth 20000 in
theorem gX0_countFound_X0_isFound : GoodIn wsX0_countFound (wsV RX0 69 RX0 yX0_isFound wsX0_isFound) := goodIn_app (goodIn_of _ (by decide +kernel)) ggX0_countFound_X0_isFound
theorem dX0_countFound_0 : decode cX0_countFound 0 = .ok (.aload_n 0, 1) := by decide +kernel
theorem dX0_countFound_1 : decode cX0_countFound 1 = .ok (.invokevirtual 38, 3) := by decide +kernel
theorem dX0_countFound_4 : decode cX0_countFound 4 = .ok (.istore_n 3, 1) := by decide +kernel
theorem dX0_countFound_5 : decode cX0_countFound 5 = .ok (.iconst 0, 1) := by decide +kernel
theorem dX0_countFound_6 : decode cX0_countFound 6 = .ok (.istore 4, 2) := by decide +kernel
theorem dX0_countFound_8 : decode cX0_countFound 8 = .ok (.iconst 0, 1) := by decide +kernel
theorem dX0_countFound_9 : decode cX0_countFound 9 = .ok (.istore 5, 2) := by decide +kernel
theorem dX0_countFound_11 : decode cX0_countFound 11 = .ok (.iload 5, 2) := by decide +kernel
theorem dX0_countFound_13 : decode cX0_countFound 13 = .ok (.iload_n 3, 1) := by decide +kernel
theorem dX0_countFound_14 : decode cX0_countFound 14 = .ok (.if_icmp .ge 23, 3) := by decide +kernel
theorem dX0_countFound_17 : decode cX0_countFound 17 = .ok (.aload_n 0, 1) := by decide +kernel
theorem dX0_countFound_18 : decode cX0_countFound 18 = .ok (.iload_n 1, 1) := by decide +kernel
theorem dX0_countFound_19 : decode cX0_countFound 19 = .ok (.iload 5, 2) := by decide +kernel
theorem dX0_countFound_21 : decode cX0_countFound 21 = .ok (.iload_n 2, 1) := by decide +kernel
theorem dX0_countFound_22 : decode cX0_countFound 22 = .ok (.invokevirtual 69, 3) := by decide +kernel
theorem dX0_countFound_25 : decode cX0_countFound 25 = .ok (.ifCond .eq 6, 3) := by decide +kernel
theorem dX0_countFound_28 : decode cX0_countFound 28 = .ok (.iinc 4 1, 3) := by decide +kernel
theorem dX0_countFound_31 : decode cX0_countFound 31 = .ok (.iinc 5 1, 3) := by decide +kernel
theorem dX0_countFound_34 : decode cX0_countFound 34 = .ok (.goto (-23), 3) := by decide +kernel
theorem dX0_countFound_37 : decode cX0_countFound 37 = .ok (.iload 4, 2) := by decide +kernel
theorem dX0_countFound_39 : decode cX0_countFound 39 = .ok (.ireturn, 1) := by decide +kernel
set_option maxRecDepth 20000 in
theorem ggX0_findAt_X0_countSets : GoodIn wsX0_findAt wsX0_countSets := goodIn_r _ [5, 6, 32, 33, 34, 35] (by decide +kernel) (by decide +kernel)
set_option maxRecDepth 20000 in
theorem gX0_findAt_X0_countSets : GoodIn wsX0_findAt (wsV RX0 38 RX0 yX0_countSets wsX0_countSets) := goodIn_app (goodIn_of _ (by decide +kernel)) ggX0_findAt_X0_countSets
set_option maxRecDepth 20000 in
theorem ggX0_findAt_X0_isFound : GoodIn wsX0_findAt wsX0_isFound := goodIn_r _ [10, 11, 12, 13, 4, 14, 6, 15, 16, 17, 18, 19, 20, 21, 22, 23, 24, 25, 26, 27, 28, 29, 30, 31, 32, 33, 34, 35] (by decide +kernel) (by decide +kernel)
set_option maxRecDepth 20000 in
theorem gX0_findAt_X0_isFound : GoodIn wsX0_findAt (wsV RX0 69 RX0 yX0_isFound wsX0_isFound) := goodIn_app (goodIn_of _ (by decide +kernel)) ggX0_findAt_X0_isFound
theorem dX0_findAt_0 : decode cX0_findAt 0 = .ok (.aload_n 0, 1) := by decide +kernel
theorem dX0_findAt_1 : decode cX0_findAt 1 = .ok (.invokevirtual 38, 3) := by decide +kernel
theorem dX0_findAt_4 : decode cX0_findAt 4 = .ok (.istore 4, 2) := by decide +kernel
theorem dX0_findAt_6 : decode cX0_findAt 6 = .ok (.iconst 0, 1) := by decide +kernel
theorem dX0_findAt_7 : decode cX0_findAt 7 = .ok (.istore 5, 2) := by decide +kernel
theorem dX0_findAt_9 : decode cX0_findAt 9 = .ok (.iconst 0, 1) := by decide +kernel
theorem dX0_findAt_10 : decode cX0_findAt 10 = .ok (.istore 6, 2) := by decide +kernel
theorem dX0_findAt_12 : decode cX0_findAt 12 = .ok (.iload 6, 2) := by decide +kernel
theorem dX0_findAt_14 : decode cX0_findAt 14 = .ok (.iload 4, 2) := by decide +kernel
theorem dX0_findAt_16 : decode cX0_findAt 16 = .ok (.if_icmp .ge 32, 3) := by decide +kernel
theorem dX0_findAt_19 : decode cX0_findAt 19 = .ok (.aload_n 0, 1) := by decide +kernel
theorem dX0_findAt_20 : decode cX0_findAt 20 = .ok (.iload_n 1, 1) := by decide +kernel
theorem dX0_findAt_21 : decode cX0_findAt 21 = .ok (.iload 6, 2) := by decide +kernel
theorem dX0_findAt_23 : decode cX0_findAt 23 = .ok (.iload_n 2, 1) := by decide +kernel
theorem dX0_findAt_24 : decode cX0_findAt 24 = .ok (.invokevirtual 69, 3) := by decide +kernel
theorem dX0_findAt_27 : decode cX0_findAt 27 = .ok (.ifCond .eq 15, 3) := by decide +kernel
theorem dX0_findAt_30 : decode cX0_findAt 30 = .ok (.iload 5, 2) := by decide +kernel
theorem dX0_findAt_32 : decode cX0_findAt 32 = .ok (.iload_n 3, 1) := by decide +kernel
theorem dX0_findAt_33 : decode cX0_findAt 33 = .ok (.if_icmp .ne 6, 3) := by decide +kernel
theorem dX0_findAt_36 : decode cX0_findAt 36 = .ok (.iload 6, 2) := by decide +kernel
theorem dX0_findAt_38 : decode cX0_findAt 38 = .ok (.ireturn, 1) := by decide +kernel
theorem dX0_findAt_39 : decode cX0_findAt 39 = .ok (.iinc 5 1, 3) := by decide +kernel
theorem dX0_findAt_42 : decode cX0_findAt 42 = .ok (.iinc 6 1, 3) := by decide +kernel
theorem dX0_findAt_45 : decode cX0_findAt 45 = .ok (.goto (-33), 3) := by decide +kernel
theorem dX0_findAt_48 : decode cX0_findAt 48 = .ok (.iconst (-1), 1) := by decide +kernel
theorem dX0_findAt_49 : decode cX0_findAt 49 = .ok (.ireturn, 1) := by decide +kernel
set_option maxRecDepth 20000 in
theorem ggX0_heaviestRemainder_X0_countSets : GoodIn wsX0_heaviestRemainder wsX0_countSets := goodIn_r _ [5, 6, 33, 34, 35, 36] (by decide +kernel) (by decide +kernel)
set_option maxRecDepth 20000 in
theorem gX0_heaviestRemainder_X0_countSets : GoodIn wsX0_heaviestRemainder (wsV RX0 38 RX0 yX0_countSets wsX0_countSets) := goodIn_app (goodIn_of _ (by decide +kernel)) ggX0_heaviestRemainder_X0_countSets
set_option maxRecDepth 20000 in
theorem ggX0_heaviestRemainder_X0_isRemainderFor : GoodIn wsX0_heaviestRemainder wsX0_isRemainderFor := goodIn_r _ [10, 6, 11, 12, 13, 4, 14, 15, 16, 17, 18, 19, 20, 21, 22, 23, 33, 34, 35, 36] (by decide +kernel) (by decide +kernel)
set_option maxRecDepth 20000 in
theorem gX0_heaviestRemainder_X0_isRemainderFor : GoodIn wsX0_heaviestRemainder (wsV RX0 66 RX0 yX0_isRemainderFor wsX0_isRemainderFor) := goodIn_app (goodIn_of _ (by decide +kernel)) ggX0_heaviestRemainder_X0_isRemainderFor
set_option maxRecDepth 20000 in
theorem ggX0_heaviestRemainder_X0_weight : GoodIn wsX0_heaviestRemainder wsX0_weight := goodIn_r _ [27, 6, 22, 17, 23, 28, 29, 30, 4, 31, 32, 16, 18, 33, 34, 35, 36] (by decide +kernel) (by decide +kernel)
set_option maxRecDepth 20000 in
theorem gX0_heaviestRemainder_X0_weight : GoodIn wsX0_heaviestRemainder (wsV RX0 73 RX0 yX0_weight wsX0_weight) := goodIn_app (goodIn_of _ (by decide +kernel)) ggX0_heaviestRemainder_X0_weight
theorem dX0_heaviestRemainder_0 : decode cX0_heaviestRemainder 0 = .ok (.aload_n 0, 1) := by decide +kernel
theorem dX0_heaviestRemainder_1 : decode cX0_heaviestRemainder 1 = .ok (.invokevirtual 38, 3) := by decide +kernel
theorem dX0_heaviestRemainder_4 : decode cX0_heaviestRemainder 4 = .ok (.istore_n 2, 1) := by decide +kernel
theorem dX0_heaviestRemainder_5 : decode cX0_heaviestRemainder 5 = .ok (.iconst (-1), 1) := by decide +kernel
theorem dX0_heaviestRemainder_6 : decode cX0_heaviestRemainder 6 = .ok (.istore_n 3, 1) := by decide +kernel
theorem dX0_heaviestRemainder_7 : decode cX0_heaviestRemainder 7 = .ok (.iconst 0, 1) := by decide +kernel
theorem dX0_heaviestRemainder_8 : decode cX0_heaviestRemainder 8 = .ok (.istore 4, 2) := by decide +kernel
theorem dX0_heaviestRemainder_10 : decode cX0_heaviestRemainder 10 = .ok (.iload 4, 2) := by decide +kernel
theorem dX0_heaviestRemainder_12 : decode cX0_heaviestRemainder 12 = .ok (.iload_n 2, 1) := by decide +kernel
theorem dX0_heaviestRemainder_13 : decode cX0_heaviestRemainder 13 = .ok (.if_icmp .ge 41, 3) := by decide +kernel
theorem dX0_heaviestRemainder_16 : decode cX0_heaviestRemainder 16 = .ok (.aload_n 0, 1) := by decide +kernel
theorem dX0_heaviestRemainder_17 : decode cX0_heaviestRemainder 17 = .ok (.iload 4, 2) := by decide +kernel
theorem dX0_heaviestRemainder_19 : decode cX0_heaviestRemainder 19 = .ok (.iload_n 1, 1) := by decide +kernel
theorem dX0_heaviestRemainder_20 : decode cX0_heaviestRemainder 20 = .ok (.invokevirtual 66, 3) := by decide +kernel
theorem dX0_heaviestRemainder_23 : decode cX0_heaviestRemainder 23 = .ok (.ifCond .eq 25, 3) := by decide +kernel
theorem dX0_heaviestRemainder_26 : decode cX0_heaviestRemainder 26 = .ok (.iload_n 3, 1) := by decide +kernel
theorem dX0_heaviestRemainder_27 : decode cX0_heaviestRemainder 27 = .ok (.ifCond .lt 18, 3) := by decide +kernel
theorem dX0_heaviestRemainder_30 : decode cX0_heaviestRemainder 30 = .ok (.aload_n 0, 1) := by decide +kernel
theorem dX0_heaviestRemainder_31 : decode cX0_heaviestRemainder 31 = .ok (.iload 4, 2) := by decide +kernel
theorem dX0_heaviestRemainder_33 : decode cX0_heaviestRemainder 33 = .ok (.invokevirtual 73, 3) := by decide +kernel
theorem dX0_heaviestRemainder_36 : decode cX0_heaviestRemainder 36 = .ok (.aload_n 0, 1) := by decide +kernel
theorem dX0_heaviestRemainder_37 : decode cX0_heaviestRemainder 37 = .ok (.iload_n 3, 1) := by decide +kernel
theorem dX0_heaviestRemainder_38 : decode cX0_heaviestRemainder 38 = .ok (.invokevirtual 73, 3) := by decide +kernel
theorem dX0_heaviestRemainder_41 : decode cX0_heaviestRemainder 41 = .ok (.lcmp, 1) := by decide +kernel
theorem dX0_heaviestRemainder_42 : decode cX0_heaviestRemainder 42 = .ok (.ifCond .le 6, 3) := by decide +kernel
theorem dX0_heaviestRemainder_45 : decode cX0_heaviestRemainder 45 = .ok (.iload 4, 2) := by decide +kernel
theorem dX0_heaviestRemainder_47 : decode cX0_heaviestRemainder 47 = .ok (.istore_n 3, 1) := by decide +kernel
theorem dX0_heaviestRemainder_48 : decode cX0_heaviestRemainder 48 = .ok (.iinc 4 1, 3) := by decide +kernel
theorem dX0_heaviestRemainder_51 : decode cX0_heaviestRemainder 51 = .ok (.goto (-41), 3) := by decide +kernel
theorem dX0_heaviestRemainder_54 : decode cX0_heaviestRemainder 54 = .ok (.iload_n 3, 1) := by decide +kernel
theorem dX0_heaviestRemainder_55 : decode cX0_heaviestRemainder 55 = .ok (.ireturn, 1) := by decide +kernel
set_option maxRecDepth 20000 in
theorem ggX0_weight_X3_has : GoodIn wsX0_weight wsX3_has := goodIn_r _ [4] (by decide +kernel) (by decide +kernel)
set_option maxRecDepth 20000 in
theorem gX0_weight_X3_has_n48 : GoodIn wsX0_weight (wsX3_has) := ggX0_weight_X3_has
set_option maxRecDepth 20000 in
theorem ggX0_weight_X0_rankAt : GoodIn wsX0_weight wsX0_rankAt := goodIn_r _ [9, 10, 11, 3, 12, 13, 14, 15, 16] (by decide +kernel) (by decide +kernel)
set_option maxRecDepth 20000 in
theorem gX0_weight_X0_rankAt : GoodIn wsX0_weight (wsV RX0 77 RX0 yX0_rankAt wsX0_rankAt) := goodIn_app (goodIn_of _ (by decide +kernel)) ggX0_weight_X0_rankAt
theorem dX0_weight_0 : decode cX0_weight 0 = .ok (.lconst 0, 1) := by decide +kernel
theorem dX0_weight_1 : decode cX0_weight 1 = .ok (.lstore_n 2, 1) := by decide +kernel
theorem dX0_weight_2 : decode cX0_weight 2 = .ok (.iconst 0, 1) := by decide +kernel
theorem dX0_weight_3 : decode cX0_weight 3 = .ok (.istore 4, 2) := by decide +kernel
theorem dX0_weight_5 : decode cX0_weight 5 = .ok (.iload 4, 2) := by decide +kernel
theorem dX0_weight_7 : decode cX0_weight 7 = .ok (.aload_n 0, 1) := by decide +kernel
theorem dX0_weight_8 : decode cX0_weight 8 = .ok (.getfield 21, 3) := by decide +kernel
theorem dX0_weight_11 : decode cX0_weight 11 = .ok (.if_icmp .ge 31, 3) := by decide +kernel
theorem dX0_weight_14 : decode cX0_weight 14 = .ok (.iload_n 1, 1) := by decide +kernel
theorem dX0_weight_15 : decode cX0_weight 15 = .ok (.iload 4, 2) := by decide +kernel
theorem dX0_weight_17 : decode cX0_weight 17 = .ok (.invokestatic 48, 3) := by decide +kernel
theorem dX0_weight_20 : decode cX0_weight 20 = .ok (.ifCond .eq 16, 3) := by decide +kernel
theorem dX0_weight_23 : decode cX0_weight 23 = .ok (.lload_n 2, 1) := by decide +kernel
theorem dX0_weight_24 : decode cX0_weight 24 = .ok (.lconst 1, 1) := by decide +kernel
theorem dX0_weight_25 : decode cX0_weight 25 = .ok (.iconst 4, 1) := by decide +kernel
theorem dX0_weight_26 : decode cX0_weight 26 = .ok (.aload_n 0, 1) := by decide +kernel
theorem dX0_weight_27 : decode cX0_weight 27 = .ok (.iload 4, 2) := by decide +kernel
theorem dX0_weight_29 : decode cX0_weight 29 = .ok (.invokevirtual 77, 3) := by decide +kernel
theorem dX0_weight_32 : decode cX0_weight 32 = .ok (.imul, 1) := by decide +kernel
theorem dX0_weight_33 : decode cX0_weight 33 = .ok (.lshl, 1) := by decide +kernel
theorem dX0_weight_34 : decode cX0_weight 34 = .ok (.ladd, 1) := by decide +kernel
theorem dX0_weight_35 : decode cX0_weight 35 = .ok (.lstore_n 2, 1) := by decide +kernel
theorem dX0_weight_36 : decode cX0_weight 36 = .ok (.iinc 4 1, 3) := by decide +kernel
theorem dX0_weight_39 : decode cX0_weight 39 = .ok (.goto (-34), 3) := by decide +kernel
theorem dX0_weight_42 : decode cX0_weight 42 = .ok (.lload_n 2, 1) := by decide +kernel
theorem dX0_weight_43 : decode cX0_weight 43 = .ok (.lreturn, 1) := by decide +kernel
set_option maxRecDepth 20000 in
theorem ggX0_cutFor_X0_countSets : GoodIn wsX0_cutFor wsX0_countSets := goodIn_r _ [5, 6, 41, 42, 43, 44] (by decide +kernel) (by decide +kernel)
set_option maxRecDepth 20000 in
theorem gX0_cutFor_X0_countSets : GoodIn wsX0_cutFor (wsV RX0 38 RX0 yX0_countSets wsX0_countSets) := goodIn_app (goodIn_of _ (by decide +kernel)) ggX0_cutFor_X0_countSets
set_option maxRecDepth 20000 in
theorem ggX0_cutFor_X0_isKernelFor : GoodIn wsX0_cutFor wsX0_isKernelFor := goodIn_r _ [10, 6, 11, 12, 13, 4, 14, 15, 16, 17, 18, 19, 20, 21, 22, 23, 41, 42, 43, 44] (by decide +kernel) (by decide +kernel)
set_option maxRecDepth 20000 in
theorem gX0_cutFor_X0_isKernelFor : GoodIn wsX0_cutFor (wsV RX0 63 RX0 yX0_isKernelFor wsX0_isKernelFor) := goodIn_app (goodIn_of _ (by decide +kernel)) ggX0_cutFor_X0_isKernelFor
set_option maxRecDepth 20000 in
theorem ggX0_cutFor_X0_leastRanked : GoodIn wsX0_cutFor wsX0_leastRanked := goodIn_r _ [27, 6, 28, 29, 30, 31, 22, 17, 23, 32, 33, 34, 4, 35, 36, 16, 18, 37, 38, 39, 40, 41, 42, 43, 44] (by decide +kernel) (by decide +kernel)
set_option maxRecDepth 20000 in
theorem gX0_cutFor_X0_leastRanked : GoodIn wsX0_cutFor (wsV RX0 80 RX0 yX0_leastRanked wsX0_leastRanked) := goodIn_app (goodIn_of _ (by decide +kernel)) ggX0_cutFor_X0_leastRanked
theorem dX0_cutFor_0 : decode cX0_cutFor 0 = .ok (.aload_n 0, 1) := by decide +kernel
theorem dX0_cutFor_1 : decode cX0_cutFor 1 = .ok (.invokevirtual 38, 3) := by decide +kernel
theorem dX0_cutFor_4 : decode cX0_cutFor 4 = .ok (.istore_n 2, 1) := by decide +kernel
theorem dX0_cutFor_5 : decode cX0_cutFor 5 = .ok (.iconst 0, 1) := by decide +kernel
theorem dX0_cutFor_6 : decode cX0_cutFor 6 = .ok (.istore_n 3, 1) := by decide +kernel
theorem dX0_cutFor_7 : decode cX0_cutFor 7 = .ok (.iconst 0, 1) := by decide +kernel
theorem dX0_cutFor_8 : decode cX0_cutFor 8 = .ok (.istore 4, 2) := by decide +kernel
theorem dX0_cutFor_10 : decode cX0_cutFor 10 = .ok (.iload 4, 2) := by decide +kernel
theorem dX0_cutFor_12 : decode cX0_cutFor 12 = .ok (.iload_n 2, 1) := by decide +kernel
theorem dX0_cutFor_13 : decode cX0_cutFor 13 = .ok (.if_icmp .ge 28, 3) := by decide +kernel
theorem dX0_cutFor_16 : decode cX0_cutFor 16 = .ok (.aload_n 0, 1) := by decide +kernel
theorem dX0_cutFor_17 : decode cX0_cutFor 17 = .ok (.iload 4, 2) := by decide +kernel
theorem dX0_cutFor_19 : decode cX0_cutFor 19 = .ok (.iload_n 1, 1) := by decide +kernel
theorem dX0_cutFor_20 : decode cX0_cutFor 20 = .ok (.invokevirtual 63, 3) := by decide +kernel
theorem dX0_cutFor_23 : decode cX0_cutFor 23 = .ok (.ifCond .eq 12, 3) := by decide +kernel
theorem dX0_cutFor_26 : decode cX0_cutFor 26 = .ok (.iload_n 3, 1) := by decide +kernel
theorem dX0_cutFor_27 : decode cX0_cutFor 27 = .ok (.aload_n 0, 1) := by decide +kernel
theorem dX0_cutFor_28 : decode cX0_cutFor 28 = .ok (.iload 4, 2) := by decide +kernel
theorem dX0_cutFor_30 : decode cX0_cutFor 30 = .ok (.invokevirtual 80, 3) := by decide +kernel
theorem dX0_cutFor_33 : decode cX0_cutFor 33 = .ok (.ior, 1) := by decide +kernel
theorem dX0_cutFor_34 : decode cX0_cutFor 34 = .ok (.istore_n 3, 1) := by decide +kernel
theorem dX0_cutFor_35 : decode cX0_cutFor 35 = .ok (.iinc 4 1, 3) := by decide +kernel
theorem dX0_cutFor_38 : decode cX0_cutFor 38 = .ok (.goto (-28), 3) := by decide +kernel
theorem dX0_cutFor_41 : decode cX0_cutFor 41 = .ok (.iload_n 3, 1) := by decide +kernel
theorem dX0_cutFor_42 : decode cX0_cutFor 42 = .ok (.ireturn, 1) := by decide +kernel
set_option maxRecDepth 20000 in
theorem ggX0_leastRanked_X3_has : GoodIn wsX0_leastRanked wsX3_has := goodIn_r _ [8] (by decide +kernel) (by decide +kernel)
set_option maxRecDepth 20000 in
theorem gX0_leastRanked_X3_has_n48 : GoodIn wsX0_leastRanked (wsX3_has) := ggX0_leastRanked_X3_has
set_option maxRecDepth 20000 in
theorem ggX0_leastRanked_X0_rankAt : GoodIn wsX0_leastRanked wsX0_rankAt := goodIn_r _ [13, 14, 15, 7, 16, 21, 22, 23, 24] (by decide +kernel) (by decide +kernel)
set_option maxRecDepth 20000 in
theorem gX0_leastRanked_X0_rankAt : GoodIn wsX0_leastRanked (wsV RX0 77 RX0 yX0_rankAt wsX0_rankAt) := goodIn_app (goodIn_of _ (by decide +kernel)) ggX0_leastRanked_X0_rankAt
set_option maxRecDepth 20000 in
theorem ggX0_leastRanked_X0_rankedFrom : GoodIn wsX0_leastRanked wsX0_rankedFrom := goodIn_r _ [20, 1, 9, 10, 11, 12, 13, 14, 15, 7, 16, 21, 22, 23, 24] (by decide +kernel) (by decide +kernel)
set_option maxRecDepth 20000 in
theorem gX0_leastRanked_X0_rankedFrom : GoodIn wsX0_leastRanked (wsV RX0 86 RX0 yX0_rankedFrom wsX0_rankedFrom) := goodIn_app (goodIn_of _ (by decide +kernel)) ggX0_leastRanked_X0_rankedFrom
theorem dX0_leastRanked_0 : decode cX0_leastRanked 0 = .ok (.bipush 9, 2) := by decide +kernel
theorem dX0_leastRanked_2 : decode cX0_leastRanked 2 = .ok (.istore_n 2, 1) := by decide +kernel
theorem dX0_leastRanked_3 : decode cX0_leastRanked 3 = .ok (.iconst 0, 1) := by decide +kernel
theorem dX0_leastRanked_4 : decode cX0_leastRanked 4 = .ok (.istore_n 3, 1) := by decide +kernel
theorem dX0_leastRanked_5 : decode cX0_leastRanked 5 = .ok (.iload_n 3, 1) := by decide +kernel
theorem dX0_leastRanked_6 : decode cX0_leastRanked 6 = .ok (.aload_n 0, 1) := by decide +kernel
theorem dX0_leastRanked_7 : decode cX0_leastRanked 7 = .ok (.getfield 21, 3) := by decide +kernel
theorem dX0_leastRanked_10 : decode cX0_leastRanked 10 = .ok (.if_icmp .ge 27, 3) := by decide +kernel
theorem dX0_leastRanked_13 : decode cX0_leastRanked 13 = .ok (.iload_n 1, 1) := by decide +kernel
theorem dX0_leastRanked_14 : decode cX0_leastRanked 14 = .ok (.iload_n 3, 1) := by decide +kernel
theorem dX0_leastRanked_15 : decode cX0_leastRanked 15 = .ok (.invokestatic 48, 3) := by decide +kernel
theorem dX0_leastRanked_18 : decode cX0_leastRanked 18 = .ok (.ifCond .eq 13, 3) := by decide +kernel
theorem dX0_leastRanked_21 : decode cX0_leastRanked 21 = .ok (.iload_n 2, 1) := by decide +kernel
theorem dX0_leastRanked_22 : decode cX0_leastRanked 22 = .ok (.aload_n 0, 1) := by decide +kernel
theorem dX0_leastRanked_23 : decode cX0_leastRanked 23 = .ok (.iload_n 3, 1) := by decide +kernel
theorem dX0_leastRanked_24 : decode cX0_leastRanked 24 = .ok (.invokevirtual 77, 3) := by decide +kernel
theorem dX0_leastRanked_27 : decode cX0_leastRanked 27 = .ok (.invokestatic 83, 3) := by decide +kernel
theorem dX0_leastRanked_30 : decode cX0_leastRanked 30 = .ok (.istore_n 2, 1) := by decide +kernel
theorem dX0_leastRanked_31 : decode cX0_leastRanked 31 = .ok (.iinc 3 1, 3) := by decide +kernel
theorem dX0_leastRanked_34 : decode cX0_leastRanked 34 = .ok (.goto (-29), 3) := by decide +kernel
theorem dX0_leastRanked_37 : decode cX0_leastRanked 37 = .ok (.iload_n 1, 1) := by decide +kernel
theorem dX0_leastRanked_38 : decode cX0_leastRanked 38 = .ok (.aload_n 0, 1) := by decide +kernel
theorem dX0_leastRanked_39 : decode cX0_leastRanked 39 = .ok (.iload_n 2, 1) := by decide +kernel
theorem dX0_leastRanked_40 : decode cX0_leastRanked 40 = .ok (.iconst 1, 1) := by decide +kernel
theorem dX0_leastRanked_41 : decode cX0_leastRanked 41 = .ok (.iadd, 1) := by decide +kernel
theorem dX0_leastRanked_42 : decode cX0_leastRanked 42 = .ok (.invokevirtual 86, 3) := by decide +kernel
theorem dX0_leastRanked_45 : decode cX0_leastRanked 45 = .ok (.iconst (-1), 1) := by decide +kernel
theorem dX0_leastRanked_46 : decode cX0_leastRanked 46 = .ok (.ixor, 1) := by decide +kernel
theorem dX0_leastRanked_47 : decode cX0_leastRanked 47 = .ok (.iand, 1) := by decide +kernel
theorem dX0_leastRanked_48 : decode cX0_leastRanked 48 = .ok (.ireturn, 1) := by decide +kernel
set_option maxRecDepth 20000 in
theorem ggX0_rankedFrom_X0_rankAt : GoodIn wsX0_rankedFrom wsX0_rankAt := goodIn_r _ [6, 7, 8, 9, 10, 11, 12, 13, 14] (by decide +kernel) (by decide +kernel)
set_option maxRecDepth 20000 in
theorem gX0_rankedFrom_X0_rankAt : GoodIn wsX0_rankedFrom (wsV RX0 77 RX0 yX0_rankAt wsX0_rankAt) := goodIn_app (goodIn_of _ (by decide +kernel)) ggX0_rankedFrom_X0_rankAt
theorem dX0_rankedFrom_0 : decode cX0_rankedFrom 0 = .ok (.iconst 0, 1) := by decide +kernel
theorem dX0_rankedFrom_1 : decode cX0_rankedFrom 1 = .ok (.istore_n 2, 1) := by decide +kernel
theorem dX0_rankedFrom_2 : decode cX0_rankedFrom 2 = .ok (.iconst 0, 1) := by decide +kernel
theorem dX0_rankedFrom_3 : decode cX0_rankedFrom 3 = .ok (.istore_n 3, 1) := by decide +kernel
theorem dX0_rankedFrom_4 : decode cX0_rankedFrom 4 = .ok (.iload_n 3, 1) := by decide +kernel
theorem dX0_rankedFrom_5 : decode cX0_rankedFrom 5 = .ok (.aload_n 0, 1) := by decide +kernel
theorem dX0_rankedFrom_6 : decode cX0_rankedFrom 6 = .ok (.getfield 21, 3) := by decide +kernel
theorem dX0_rankedFrom_9 : decode cX0_rankedFrom 9 = .ok (.if_icmp .ge 24, 3) := by decide +kernel
theorem dX0_rankedFrom_12 : decode cX0_rankedFrom 12 = .ok (.aload_n 0, 1) := by decide +kernel
theorem dX0_rankedFrom_13 : decode cX0_rankedFrom 13 = .ok (.iload_n 3, 1) := by decide +kernel
theorem dX0_rankedFrom_14 : decode cX0_rankedFrom 14 = .ok (.invokevirtual 77, 3) := by decide +kernel
theorem dX0_rankedFrom_17 : decode cX0_rankedFrom 17 = .ok (.iload_n 1, 1) := by decide +kernel
theorem dX0_rankedFrom_18 : decode cX0_rankedFrom 18 = .ok (.if_icmp .lt 9, 3) := by decide +kernel
theorem dX0_rankedFrom_21 : decode cX0_rankedFrom 21 = .ok (.iload_n 2, 1) := by decide +kernel
theorem dX0_rankedFrom_22 : decode cX0_rankedFrom 22 = .ok (.iconst 1, 1) := by decide +kernel
theorem dX0_rankedFrom_23 : decode cX0_rankedFrom 23 = .ok (.iload_n 3, 1) := by decide +kernel
theorem dX0_rankedFrom_24 : decode cX0_rankedFrom 24 = .ok (.ishl, 1) := by decide +kernel
theorem dX0_rankedFrom_25 : decode cX0_rankedFrom 25 = .ok (.ior, 1) := by decide +kernel
theorem dX0_rankedFrom_26 : decode cX0_rankedFrom 26 = .ok (.istore_n 2, 1) := by decide +kernel
theorem dX0_rankedFrom_27 : decode cX0_rankedFrom 27 = .ok (.iinc 3 1, 3) := by decide +kernel
theorem dX0_rankedFrom_30 : decode cX0_rankedFrom 30 = .ok (.goto (-26), 3) := by decide +kernel
theorem dX0_rankedFrom_33 : decode cX0_rankedFrom 33 = .ok (.iload_n 2, 1) := by decide +kernel
theorem dX0_rankedFrom_34 : decode cX0_rankedFrom 34 = .ok (.ireturn, 1) := by decide +kernel
set_option maxRecDepth 20000 in
theorem ggX0_degreeOf_X0_rankedFrom : GoodIn wsX0_degreeOf wsX0_rankedFrom := goodIn_r _ [6, 7, 8, 9, 10, 5, 11, 12, 13, 14, 15, 24, 25, 26, 27] (by decide +kernel) (by decide +kernel)
set_option maxRecDepth 20000 in
theorem gX0_degreeOf_X0_rankedFrom : GoodIn wsX0_degreeOf (wsV RX0 86 RX0 yX0_rankedFrom wsX0_rankedFrom) := goodIn_app (goodIn_of _ (by decide +kernel)) ggX0_degreeOf_X0_rankedFrom
set_option maxRecDepth 20000 in
theorem ggX0_degreeOf_X0_reaches : GoodIn wsX0_degreeOf wsX0_reaches := goodIn_r _ [19, 20, 13, 14, 15, 21, 22, 23, 24, 25, 26, 27] (by decide +kernel) (by decide +kernel)
set_option maxRecDepth 20000 in
theorem gX0_degreeOf_X0_reaches : GoodIn wsX0_degreeOf (wsV RX0 60 RX0 yX0_reaches wsX0_reaches) := goodIn_app (goodIn_of _ (by decide +kernel)) ggX0_degreeOf_X0_reaches
theorem dX0_degreeOf_0 : decode cX0_degreeOf 0 = .ok (.iload_n 1, 1) := by decide +kernel
theorem dX0_degreeOf_1 : decode cX0_degreeOf 1 = .ok (.ldc 25, 2) := by decide +kernel
theorem dX0_degreeOf_3 : decode cX0_degreeOf 3 = .ok (.if_icmp .ne 6, 3) := by decide +kernel
theorem dX0_degreeOf_6 : decode cX0_degreeOf 6 = .ok (.bipush 10, 2) := by decide +kernel
theorem dX0_degreeOf_8 : decode cX0_degreeOf 8 = .ok (.ireturn, 1) := by decide +kernel
theorem dX0_degreeOf_9 : decode cX0_degreeOf 9 = .ok (.bipush 9, 2) := by decide +kernel
theorem dX0_degreeOf_11 : decode cX0_degreeOf 11 = .ok (.istore_n 2, 1) := by decide +kernel
theorem dX0_degreeOf_12 : decode cX0_degreeOf 12 = .ok (.iload_n 2, 1) := by decide +kernel
theorem dX0_degreeOf_13 : decode cX0_degreeOf 13 = .ok (.iconst 1, 1) := by decide +kernel
theorem dX0_degreeOf_14 : decode cX0_degreeOf 14 = .ok (.if_icmp .lt 24, 3) := by decide +kernel
theorem dX0_degreeOf_17 : decode cX0_degreeOf 17 = .ok (.aload_n 0, 1) := by decide +kernel
theorem dX0_degreeOf_18 : decode cX0_degreeOf 18 = .ok (.aload_n 0, 1) := by decide +kernel
theorem dX0_degreeOf_19 : decode cX0_degreeOf 19 = .ok (.iload_n 2, 1) := by decide +kernel
theorem dX0_degreeOf_20 : decode cX0_degreeOf 20 = .ok (.invokevirtual 86, 3) := by decide +kernel
theorem dX0_degreeOf_23 : decode cX0_degreeOf 23 = .ok (.iload_n 1, 1) := by decide +kernel
theorem dX0_degreeOf_24 : decode cX0_degreeOf 24 = .ok (.invokevirtual 60, 3) := by decide +kernel
theorem dX0_degreeOf_27 : decode cX0_degreeOf 27 = .ok (.ifCond .eq 5, 3) := by decide +kernel
theorem dX0_degreeOf_30 : decode cX0_degreeOf 30 = .ok (.iload_n 2, 1) := by decide +kernel
theorem dX0_degreeOf_31 : decode cX0_degreeOf 31 = .ok (.ireturn, 1) := by decide +kernel
theorem dX0_degreeOf_32 : decode cX0_degreeOf 32 = .ok (.iinc 2 (-1), 3) := by decide +kernel
theorem dX0_degreeOf_35 : decode cX0_degreeOf 35 = .ok (.goto (-23), 3) := by decide +kernel
theorem dX0_degreeOf_38 : decode cX0_degreeOf 38 = .ok (.iconst 0, 1) := by decide +kernel
theorem dX0_degreeOf_39 : decode cX0_degreeOf 39 = .ok (.ireturn, 1) := by decide +kernel
set_option maxRecDepth 20000 in
theorem ggX0_believedWorlds_X0_degreeOf : GoodIn wsX0_believedWorlds wsX0_degreeOf := goodIn_r _ [5, 6, 7, 8, 9, 4, 10, 11, 12, 13, 14, 15, 16, 17, 18, 19, 20, 21, 22, 23, 24, 25, 26, 27, 32, 33, 34, 35] (by decide +kernel) (by decide +kernel)
set_option maxRecDepth 20000 in
theorem gX0_believedWorlds_X0_degreeOf : GoodIn wsX0_believedWorlds (wsV RX0 89 RX0 yX0_degreeOf wsX0_degreeOf) := goodIn_app (goodIn_of _ (by decide +kernel)) ggX0_believedWorlds_X0_degreeOf
set_option maxRecDepth 20000 in
theorem ggX0_believedWorlds_X0_rankedFrom : GoodIn wsX0_believedWorlds wsX0_rankedFrom := goodIn_r _ [10, 11, 12, 13, 14, 4, 15, 16, 17, 18, 19, 32, 33, 34, 35] (by decide +kernel) (by decide +kernel)
set_option maxRecDepth 20000 in
theorem gX0_believedWorlds_X0_rankedFrom : GoodIn wsX0_believedWorlds (wsV RX0 86 RX0 yX0_rankedFrom wsX0_rankedFrom) := goodIn_app (goodIn_of _ (by decide +kernel)) ggX0_believedWorlds_X0_rankedFrom
set_option maxRecDepth 20000 in
theorem ggX0_believedWorlds_X0_meetOf : GoodIn wsX0_believedWorlds wsX0_meetOf := goodIn_r _ [31, 24, 17, 18, 19, 32, 33, 34, 35] (by decide +kernel) (by decide +kernel)
set_option maxRecDepth 20000 in
theorem gX0_believedWorlds_X0_meetOf : GoodIn wsX0_believedWorlds (wsV RX0 92 RX0 yX0_meetOf wsX0_meetOf) := goodIn_app (goodIn_of _ (by decide +kernel)) ggX0_believedWorlds_X0_meetOf
theorem dX0_believedWorlds_0 : decode cX0_believedWorlds 0 = .ok (.aload_n 0, 1) := by decide +kernel
theorem dX0_believedWorlds_1 : decode cX0_believedWorlds 1 = .ok (.aload_n 0, 1) := by decide +kernel
theorem dX0_believedWorlds_2 : decode cX0_believedWorlds 2 = .ok (.aload_n 0, 1) := by decide +kernel
theorem dX0_believedWorlds_3 : decode cX0_believedWorlds 3 = .ok (.iconst 0, 1) := by decide +kernel
theorem dX0_believedWorlds_4 : decode cX0_believedWorlds 4 = .ok (.invokevirtual 89, 3) := by decide +kernel
theorem dX0_believedWorlds_7 : decode cX0_believedWorlds 7 = .ok (.iconst 1, 1) := by decide +kernel
theorem dX0_believedWorlds_8 : decode cX0_believedWorlds 8 = .ok (.iadd, 1) := by decide +kernel
theorem dX0_believedWorlds_9 : decode cX0_believedWorlds 9 = .ok (.invokevirtual 86, 3) := by decide +kernel
theorem dX0_believedWorlds_12 : decode cX0_believedWorlds 12 = .ok (.invokevirtual 92, 3) := by decide +kernel
theorem dX0_believedWorlds_15 : decode cX0_believedWorlds 15 = .ok (.ireturn, 1) := by decide +kernel
set_option maxRecDepth 20000 in
theorem ggX0_greatestRankFalseIn_X0_sentenceAt : GoodIn wsX0_greatestRankFalseIn wsX0_sentenceAt := goodIn_r _ [10, 11, 12, 13, 14, 22, 23, 24, 25] (by decide +kernel) (by decide +kernel)
set_option maxRecDepth 20000 in
theorem gX0_greatestRankFalseIn_X0_sentenceAt : GoodIn wsX0_greatestRankFalseIn (wsV RX0 95 RX0 yX0_sentenceAt wsX0_sentenceAt) := goodIn_app (goodIn_of _ (by decide +kernel)) ggX0_greatestRankFalseIn_X0_sentenceAt
set_option maxRecDepth 20000 in
theorem ggX0_greatestRankFalseIn_X3_has : GoodIn wsX0_greatestRankFalseIn wsX3_has := goodIn_r _ [16] (by decide +kernel) (by decide +kernel)
set_option maxRecDepth 20000 in
theorem gX0_greatestRankFalseIn_X3_has_n48 : GoodIn wsX0_greatestRankFalseIn (wsX3_has) := ggX0_greatestRankFalseIn_X3_has
set_option maxRecDepth 20000 in
theorem ggX0_greatestRankFalseIn_X0_rankAt : GoodIn wsX0_greatestRankFalseIn wsX0_rankAt := goodIn_r _ [20, 21, 12, 13, 14, 22, 23, 24, 25] (by decide +kernel) (by decide +kernel)
set_option maxRecDepth 20000 in
theorem gX0_greatestRankFalseIn_X0_rankAt : GoodIn wsX0_greatestRankFalseIn (wsV RX0 77 RX0 yX0_rankAt wsX0_rankAt) := goodIn_app (goodIn_of _ (by decide +kernel)) ggX0_greatestRankFalseIn_X0_rankAt
theorem dX0_greatestRankFalseIn_0 : decode cX0_greatestRankFalseIn 0 = .ok (.iconst 0, 1) := by decide +kernel
theorem dX0_greatestRankFalseIn_1 : decode cX0_greatestRankFalseIn 1 = .ok (.istore_n 2, 1) := by decide +kernel
theorem dX0_greatestRankFalseIn_2 : decode cX0_greatestRankFalseIn 2 = .ok (.iconst 0, 1) := by decide +kernel
theorem dX0_greatestRankFalseIn_3 : decode cX0_greatestRankFalseIn 3 = .ok (.istore_n 3, 1) := by decide +kernel
theorem dX0_greatestRankFalseIn_4 : decode cX0_greatestRankFalseIn 4 = .ok (.iload_n 3, 1) := by decide +kernel
theorem dX0_greatestRankFalseIn_5 : decode cX0_greatestRankFalseIn 5 = .ok (.aload_n 0, 1) := by decide +kernel
theorem dX0_greatestRankFalseIn_6 : decode cX0_greatestRankFalseIn 6 = .ok (.getfield 21, 3) := by decide +kernel
theorem dX0_greatestRankFalseIn_9 : decode cX0_greatestRankFalseIn 9 = .ok (.if_icmp .ge 31, 3) := by decide +kernel
theorem dX0_greatestRankFalseIn_12 : decode cX0_greatestRankFalseIn 12 = .ok (.aload_n 0, 1) := by decide +kernel
theorem dX0_greatestRankFalseIn_13 : decode cX0_greatestRankFalseIn 13 = .ok (.iload_n 3, 1) := by decide +kernel
theorem dX0_greatestRankFalseIn_14 : decode cX0_greatestRankFalseIn 14 = .ok (.invokevirtual 95, 3) := by decide +kernel
theorem dX0_greatestRankFalseIn_17 : decode cX0_greatestRankFalseIn 17 = .ok (.iload_n 1, 1) := by decide +kernel
theorem dX0_greatestRankFalseIn_18 : decode cX0_greatestRankFalseIn 18 = .ok (.invokestatic 48, 3) := by decide +kernel
theorem dX0_greatestRankFalseIn_21 : decode cX0_greatestRankFalseIn 21 = .ok (.ifCond .ne 13, 3) := by decide +kernel
theorem dX0_greatestRankFalseIn_24 : decode cX0_greatestRankFalseIn 24 = .ok (.iload_n 2, 1) := by decide +kernel
theorem dX0_greatestRankFalseIn_25 : decode cX0_greatestRankFalseIn 25 = .ok (.aload_n 0, 1) := by decide +kernel
theorem dX0_greatestRankFalseIn_26 : decode cX0_greatestRankFalseIn 26 = .ok (.iload_n 3, 1) := by decide +kernel
theorem dX0_greatestRankFalseIn_27 : decode cX0_greatestRankFalseIn 27 = .ok (.invokevirtual 77, 3) := by decide +kernel
theorem dX0_greatestRankFalseIn_30 : decode cX0_greatestRankFalseIn 30 = .ok (.invokestatic 42, 3) := by decide +kernel
theorem dX0_greatestRankFalseIn_33 : decode cX0_greatestRankFalseIn 33 = .ok (.istore_n 2, 1) := by decide +kernel
theorem dX0_greatestRankFalseIn_34 : decode cX0_greatestRankFalseIn 34 = .ok (.iinc 3 1, 3) := by decide +kernel
theorem dX0_greatestRankFalseIn_37 : decode cX0_greatestRankFalseIn 37 = .ok (.goto (-33), 3) := by decide +kernel
theorem dX0_greatestRankFalseIn_40 : decode cX0_greatestRankFalseIn 40 = .ok (.iload_n 2, 1) := by decide +kernel
theorem dX0_greatestRankFalseIn_41 : decode cX0_greatestRankFalseIn 41 = .ok (.ireturn, 1) := by decide +kernel
theorem dX1_init_0 : decode cX1_init 0 = .ok (.aload_n 0, 1) := by decide +kernel
theorem dX1_init_1 : decode cX1_init 1 = .ok (.invokespecial 3, 3) := by decide +kernel
theorem dX1_init_4 : decode cX1_init 4 = .ok (.aload_n 0, 1) := by decide +kernel
theorem dX1_init_5 : decode cX1_init 5 = .ok (.bipush 16, 2) := by decide +kernel
theorem dX1_init_7 : decode cX1_init 7 = .ok (.newarray .int, 2) := by decide +kernel
theorem dX1_init_9 : decode cX1_init 9 = .ok (.putfield 9, 3) := by decide +kernel
theorem dX1_init_12 : decode cX1_init 12 = .ok (.aload_n 0, 1) := by decide +kernel
theorem dX1_init_13 : decode cX1_init 13 = .ok (.bipush 16, 2) := by decide +kernel
theorem dX1_init_15 : decode cX1_init 15 = .ok (.newarray .int, 2) := by decide +kernel
theorem dX1_init_17 : decode cX1_init 17 = .ok (.putfield 15, 3) := by decide +kernel
theorem dX1_init_20 : decode cX1_init 20 = .ok (.return_, 1) := by decide +kernel
set_option maxRecDepth 20000 in
theorem ggX1_open_X1_worldsAt : GoodIn wsX1_open wsX1_worldsAt := goodIn_r _ [6, 7, 8, 9, 10, 11, 12] (by decide +kernel) (by decide +kernel)
set_option maxRecDepth 20000 in
theorem gX1_open_X1_worldsAt : GoodIn wsX1_open (wsV RX1 23 RX1 yX1_worldsAt wsX1_worldsAt) := goodIn_app (goodIn_of _ (by decide +kernel)) ggX1_open_X1_worldsAt
theorem dX1_open_0 : decode cX1_open 0 = .ok (.aload_n 0, 1) := by decide +kernel
theorem dX1_open_1 : decode cX1_open 1 = .ok (.ldc 22, 2) := by decide +kernel
theorem dX1_open_3 : decode cX1_open 3 = .ok (.iconst 0, 1) := by decide +kernel
theorem dX1_open_4 : decode cX1_open 4 = .ok (.invokevirtual 23, 3) := by decide +kernel
theorem dX1_open_7 : decode cX1_open 7 = .ok (.ireturn, 1) := by decide +kernel
set_option maxRecDepth 20000 in
theorem ggX1_leastLevel_X3_has : GoodIn wsX1_leastLevel wsX3_has := goodIn_r _ [4] (by decide +kernel) (by decide +kernel)
set_option maxRecDepth 20000 in
theorem gX1_leastLevel_X3_has_n27 : GoodIn wsX1_leastLevel (wsX3_has) := ggX1_leastLevel_X3_has
theorem dX1_leastLevel_0 : decode cX1_leastLevel 0 = .ok (.iconst (-1), 1) := by decide +kernel
theorem dX1_leastLevel_1 : decode cX1_leastLevel 1 = .ok (.istore_n 2, 1) := by decide +kernel
theorem dX1_leastLevel_2 : decode cX1_leastLevel 2 = .ok (.iconst 0, 1) := by decide +kernel
theorem dX1_leastLevel_3 : decode cX1_leastLevel 3 = .ok (.istore_n 3, 1) := by decide +kernel
theorem dX1_leastLevel_4 : decode cX1_leastLevel 4 = .ok (.iload_n 3, 1) := by decide +kernel
theorem dX1_leastLevel_5 : decode cX1_leastLevel 5 = .ok (.aload_n 0, 1) := by decide +kernel
theorem dX1_leastLevel_6 : decode cX1_leastLevel 6 = .ok (.getfield 9, 3) := by decide +kernel
theorem dX1_leastLevel_9 : decode cX1_leastLevel 9 = .ok (.arraylength, 1) := by decide +kernel
theorem dX1_leastLevel_10 : decode cX1_leastLevel 10 = .ok (.if_icmp .ge 38, 3) := by decide +kernel
theorem dX1_leastLevel_13 : decode cX1_leastLevel 13 = .ok (.iload_n 1, 1) := by decide +kernel
theorem dX1_leastLevel_14 : decode cX1_leastLevel 14 = .ok (.iload_n 3, 1) := by decide +kernel
theorem dX1_leastLevel_15 : decode cX1_leastLevel 15 = .ok (.invokestatic 27, 3) := by decide +kernel
theorem dX1_leastLevel_18 : decode cX1_leastLevel 18 = .ok (.ifCond .eq 24, 3) := by decide +kernel
theorem dX1_leastLevel_21 : decode cX1_leastLevel 21 = .ok (.iload_n 2, 1) := by decide +kernel
theorem dX1_leastLevel_22 : decode cX1_leastLevel 22 = .ok (.ifCond .lt 13, 3) := by decide +kernel
theorem dX1_leastLevel_25 : decode cX1_leastLevel 25 = .ok (.aload_n 0, 1) := by decide +kernel
theorem dX1_leastLevel_26 : decode cX1_leastLevel 26 = .ok (.getfield 9, 3) := by decide +kernel
theorem dX1_leastLevel_29 : decode cX1_leastLevel 29 = .ok (.iload_n 3, 1) := by decide +kernel
theorem dX1_leastLevel_30 : decode cX1_leastLevel 30 = .ok (.iaload, 1) := by decide +kernel
theorem dX1_leastLevel_31 : decode cX1_leastLevel 31 = .ok (.iload_n 2, 1) := by decide +kernel
theorem dX1_leastLevel_32 : decode cX1_leastLevel 32 = .ok (.if_icmp .ge 10, 3) := by decide +kernel
theorem dX1_leastLevel_35 : decode cX1_leastLevel 35 = .ok (.aload_n 0, 1) := by decide +kernel
theorem dX1_leastLevel_36 : decode cX1_leastLevel 36 = .ok (.getfield 9, 3) := by decide +kernel
theorem dX1_leastLevel_39 : decode cX1_leastLevel 39 = .ok (.iload_n 3, 1) := by decide +kernel
theorem dX1_leastLevel_40 : decode cX1_leastLevel 40 = .ok (.iaload, 1) := by decide +kernel
theorem dX1_leastLevel_41 : decode cX1_leastLevel 41 = .ok (.istore_n 2, 1) := by decide +kernel
theorem dX1_leastLevel_42 : decode cX1_leastLevel 42 = .ok (.iinc 3 1, 3) := by decide +kernel
theorem dX1_leastLevel_45 : decode cX1_leastLevel 45 = .ok (.goto (-41), 3) := by decide +kernel
theorem dX1_leastLevel_48 : decode cX1_leastLevel 48 = .ok (.iload_n 2, 1) := by decide +kernel
theorem dX1_leastLevel_49 : decode cX1_leastLevel 49 = .ok (.ireturn, 1) := by decide +kernel
set_option maxRecDepth 20000 in
theorem ggX1_worldsAt_X3_has : GoodIn wsX1_worldsAt wsX3_has := goodIn_r _ [4] (by decide +kernel) (by decide +kernel)
set_option maxRecDepth 20000 in
theorem gX1_worldsAt_X3_has_n27 : GoodIn wsX1_worldsAt (wsX3_has) := ggX1_worldsAt_X3_has
theorem dX1_worldsAt_0 : decode cX1_worldsAt 0 = .ok (.iconst 0, 1) := by decide +kernel
theorem dX1_worldsAt_1 : decode cX1_worldsAt 1 = .ok (.istore_n 3, 1) := by decide +kernel
theorem dX1_worldsAt_2 : decode cX1_worldsAt 2 = .ok (.iconst 0, 1) := by decide +kernel
theorem dX1_worldsAt_3 : decode cX1_worldsAt 3 = .ok (.istore 4, 2) := by decide +kernel
theorem dX1_worldsAt_5 : decode cX1_worldsAt 5 = .ok (.iload 4, 2) := by decide +kernel
theorem dX1_worldsAt_7 : decode cX1_worldsAt 7 = .ok (.aload_n 0, 1) := by decide +kernel
theorem dX1_worldsAt_8 : decode cX1_worldsAt 8 = .ok (.getfield 9, 3) := by decide +kernel
theorem dX1_worldsAt_11 : decode cX1_worldsAt 11 = .ok (.arraylength, 1) := by decide +kernel
theorem dX1_worldsAt_12 : decode cX1_worldsAt 12 = .ok (.if_icmp .ge 36, 3) := by decide +kernel
theorem dX1_worldsAt_15 : decode cX1_worldsAt 15 = .ok (.iload_n 1, 1) := by decide +kernel
theorem dX1_worldsAt_16 : decode cX1_worldsAt 16 = .ok (.iload 4, 2) := by decide +kernel
theorem dX1_worldsAt_18 : decode cX1_worldsAt 18 = .ok (.invokestatic 27, 3) := by decide +kernel
theorem dX1_worldsAt_21 : decode cX1_worldsAt 21 = .ok (.ifCond .eq 21, 3) := by decide +kernel
theorem dX1_worldsAt_24 : decode cX1_worldsAt 24 = .ok (.aload_n 0, 1) := by decide +kernel
theorem dX1_worldsAt_25 : decode cX1_worldsAt 25 = .ok (.getfield 9, 3) := by decide +kernel
theorem dX1_worldsAt_28 : decode cX1_worldsAt 28 = .ok (.iload 4, 2) := by decide +kernel
theorem dX1_worldsAt_30 : decode cX1_worldsAt 30 = .ok (.iaload, 1) := by decide +kernel
theorem dX1_worldsAt_31 : decode cX1_worldsAt 31 = .ok (.iload_n 2, 1) := by decide +kernel
theorem dX1_worldsAt_32 : decode cX1_worldsAt 32 = .ok (.if_icmp .ne 10, 3) := by decide +kernel
theorem dX1_worldsAt_35 : decode cX1_worldsAt 35 = .ok (.iload_n 3, 1) := by decide +kernel
theorem dX1_worldsAt_36 : decode cX1_worldsAt 36 = .ok (.iconst 1, 1) := by decide +kernel
theorem dX1_worldsAt_37 : decode cX1_worldsAt 37 = .ok (.iload 4, 2) := by decide +kernel
theorem dX1_worldsAt_39 : decode cX1_worldsAt 39 = .ok (.ishl, 1) := by decide +kernel
theorem dX1_worldsAt_40 : decode cX1_worldsAt 40 = .ok (.ior, 1) := by decide +kernel
theorem dX1_worldsAt_41 : decode cX1_worldsAt 41 = .ok (.istore_n 3, 1) := by decide +kernel
theorem dX1_worldsAt_42 : decode cX1_worldsAt 42 = .ok (.iinc 4 1, 3) := by decide +kernel
theorem dX1_worldsAt_45 : decode cX1_worldsAt 45 = .ok (.goto (-40), 3) := by decide +kernel
theorem dX1_worldsAt_48 : decode cX1_worldsAt 48 = .ok (.iload_n 3, 1) := by decide +kernel
theorem dX1_worldsAt_49 : decode cX1_worldsAt 49 = .ok (.ireturn, 1) := by decide +kernel
set_option maxRecDepth 20000 in
theorem ggX1_mostPlausible_X1_leastLevel : GoodIn wsX1_mostPlausible wsX1_leastLevel := goodIn_r _ [5, 6, 7, 8, 9, 14, 15] (by decide +kernel) (by decide +kernel)
set_option maxRecDepth 20000 in
theorem gX1_mostPlausible_X1_leastLevel : GoodIn wsX1_mostPlausible (wsV RX1 31 RX1 yX1_leastLevel wsX1_leastLevel) := goodIn_app (goodIn_of _ (by decide +kernel)) ggX1_mostPlausible_X1_leastLevel
set_option maxRecDepth 20000 in
theorem ggX1_mostPlausible_X1_worldsAt : GoodIn wsX1_mostPlausible wsX1_worldsAt := goodIn_r _ [13, 6, 7, 8, 9, 14, 15] (by decide +kernel) (by decide +kernel)
set_option maxRecDepth 20000 in
theorem gX1_mostPlausible_X1_worldsAt : GoodIn wsX1_mostPlausible (wsV RX1 23 RX1 yX1_worldsAt wsX1_worldsAt) := goodIn_app (goodIn_of _ (by decide +kernel)) ggX1_mostPlausible_X1_worldsAt
theorem dX1_mostPlausible_0 : decode cX1_mostPlausible 0 = .ok (.aload_n 0, 1) := by decide +kernel
theorem dX1_mostPlausible_1 : decode cX1_mostPlausible 1 = .ok (.iload_n 1, 1) := by decide +kernel
theorem dX1_mostPlausible_2 : decode cX1_mostPlausible 2 = .ok (.aload_n 0, 1) := by decide +kernel
theorem dX1_mostPlausible_3 : decode cX1_mostPlausible 3 = .ok (.iload_n 1, 1) := by decide +kernel
theorem dX1_mostPlausible_4 : decode cX1_mostPlausible 4 = .ok (.invokevirtual 31, 3) := by decide +kernel
theorem dX1_mostPlausible_7 : decode cX1_mostPlausible 7 = .ok (.invokevirtual 23, 3) := by decide +kernel
theorem dX1_mostPlausible_10 : decode cX1_mostPlausible 10 = .ok (.ireturn, 1) := by decide +kernel
set_option maxRecDepth 20000 in
theorem ggX1_shift_X3_has : GoodIn wsX1_shift wsX3_has := goodIn_r _ [4] (by decide +kernel) (by decide +kernel)
set_option maxRecDepth 20000 in
theorem gX1_shift_X3_has_n27 : GoodIn wsX1_shift (wsX3_has) := ggX1_shift_X3_has
theorem dX1_shift_0 : decode cX1_shift 0 = .ok (.iconst 0, 1) := by decide +kernel
theorem dX1_shift_1 : decode cX1_shift 1 = .ok (.istore_n 3, 1) := by decide +kernel
theorem dX1_shift_2 : decode cX1_shift 2 = .ok (.iload_n 3, 1) := by decide +kernel
theorem dX1_shift_3 : decode cX1_shift 3 = .ok (.aload_n 0, 1) := by decide +kernel
theorem dX1_shift_4 : decode cX1_shift 4 = .ok (.getfield 9, 3) := by decide +kernel
theorem dX1_shift_7 : decode cX1_shift 7 = .ok (.arraylength, 1) := by decide +kernel
theorem dX1_shift_8 : decode cX1_shift 8 = .ok (.if_icmp .ge 27, 3) := by decide +kernel
theorem dX1_shift_11 : decode cX1_shift 11 = .ok (.iload_n 1, 1) := by decide +kernel
theorem dX1_shift_12 : decode cX1_shift 12 = .ok (.iload_n 3, 1) := by decide +kernel
theorem dX1_shift_13 : decode cX1_shift 13 = .ok (.invokestatic 27, 3) := by decide +kernel
theorem dX1_shift_16 : decode cX1_shift 16 = .ok (.ifCond .eq 13, 3) := by decide +kernel
theorem dX1_shift_19 : decode cX1_shift 19 = .ok (.aload_n 0, 1) := by decide +kernel
theorem dX1_shift_20 : decode cX1_shift 20 = .ok (.getfield 9, 3) := by decide +kernel
theorem dX1_shift_23 : decode cX1_shift 23 = .ok (.iload_n 3, 1) := by decide +kernel
theorem dX1_shift_24 : decode cX1_shift 24 = .ok (.dup2, 1) := by decide +kernel
theorem dX1_shift_25 : decode cX1_shift 25 = .ok (.iaload, 1) := by decide +kernel
theorem dX1_shift_26 : decode cX1_shift 26 = .ok (.iload_n 2, 1) := by decide +kernel
theorem dX1_shift_27 : decode cX1_shift 27 = .ok (.iadd, 1) := by decide +kernel
theorem dX1_shift_28 : decode cX1_shift 28 = .ok (.iastore, 1) := by decide +kernel
theorem dX1_shift_29 : decode cX1_shift 29 = .ok (.iinc 3 1, 3) := by decide +kernel
theorem dX1_shift_32 : decode cX1_shift 32 = .ok (.goto (-30), 3) := by decide +kernel
theorem dX1_shift_35 : decode cX1_shift 35 = .ok (.return_, 1) := by decide +kernel
set_option maxRecDepth 20000 in
theorem ggX1_bringForward_X3_has : GoodIn wsX1_bringForward wsX3_has := goodIn_r _ [4] (by decide +kernel) (by decide +kernel)
set_option maxRecDepth 20000 in
theorem gX1_bringForward_X3_has_n27 : GoodIn wsX1_bringForward (wsX3_has) := ggX1_bringForward_X3_has
theorem dX1_bringForward_0 : decode cX1_bringForward 0 = .ok (.iconst 0, 1) := by decide +kernel
theorem dX1_bringForward_1 : decode cX1_bringForward 1 = .ok (.istore_n 2, 1) := by decide +kernel
theorem dX1_bringForward_2 : decode cX1_bringForward 2 = .ok (.iload_n 2, 1) := by decide +kernel
theorem dX1_bringForward_3 : decode cX1_bringForward 3 = .ok (.aload_n 0, 1) := by decide +kernel
theorem dX1_bringForward_4 : decode cX1_bringForward 4 = .ok (.getfield 9, 3) := by decide +kernel
theorem dX1_bringForward_7 : decode cX1_bringForward 7 = .ok (.arraylength, 1) := by decide +kernel
theorem dX1_bringForward_8 : decode cX1_bringForward 8 = .ok (.if_icmp .ge 24, 3) := by decide +kernel
theorem dX1_bringForward_11 : decode cX1_bringForward 11 = .ok (.iload_n 1, 1) := by decide +kernel
theorem dX1_bringForward_12 : decode cX1_bringForward 12 = .ok (.iload_n 2, 1) := by decide +kernel
theorem dX1_bringForward_13 : decode cX1_bringForward 13 = .ok (.invokestatic 27, 3) := by decide +kernel
theorem dX1_bringForward_16 : decode cX1_bringForward 16 = .ok (.ifCond .eq 10, 3) := by decide +kernel
theorem dX1_bringForward_19 : decode cX1_bringForward 19 = .ok (.aload_n 0, 1) := by decide +kernel
theorem dX1_bringForward_20 : decode cX1_bringForward 20 = .ok (.getfield 9, 3) := by decide +kernel
theorem dX1_bringForward_23 : decode cX1_bringForward 23 = .ok (.iload_n 2, 1) := by decide +kernel
theorem dX1_bringForward_24 : decode cX1_bringForward 24 = .ok (.iconst 0, 1) := by decide +kernel
theorem dX1_bringForward_25 : decode cX1_bringForward 25 = .ok (.iastore, 1) := by decide +kernel
theorem dX1_bringForward_26 : decode cX1_bringForward 26 = .ok (.iinc 2 1, 3) := by decide +kernel
theorem dX1_bringForward_29 : decode cX1_bringForward 29 = .ok (.goto (-27), 3) := by decide +kernel
theorem dX1_bringForward_32 : decode cX1_bringForward 32 = .ok (.return_, 1) := by decide +kernel
set_option maxRecDepth 20000 in
theorem ggX1_loadFrom_X0_greatestRankFalseIn : GoodIn wsX1_loadFrom wsX0_greatestRankFalseIn := goodIn_r _ [7, 8, 9, 10, 11, 12, 13, 14, 15, 6, 16, 17, 18, 19, 20, 21, 22, 23, 24, 25, 26, 27, 39, 40, 41, 42] (by decide +kernel) (by decide +kernel)
set_option maxRecDepth 20000 in
theorem gX1_loadFrom_X0_greatestRankFalseIn : GoodIn wsX1_loadFrom (wsV RX1 35 RX0 yX0_greatestRankFalseIn wsX0_greatestRankFalseIn) := goodIn_app (goodIn_of _ (by decide +kernel)) ggX1_loadFrom_X0_greatestRankFalseIn
set_option maxRecDepth 20000 in
theorem ggX1_loadFrom_X1_leastLevel : GoodIn wsX1_loadFrom wsX1_leastLevel := goodIn_r _ [32, 1, 21, 19, 22, 37, 38] (by decide +kernel) (by decide +kernel)
set_option maxRecDepth 20000 in
theorem gX1_loadFrom_X1_leastLevel : GoodIn wsX1_loadFrom (wsV RX1 31 RX1 yX1_leastLevel wsX1_leastLevel) := goodIn_app (goodIn_of _ (by decide +kernel)) ggX1_loadFrom_X1_leastLevel
set_option maxRecDepth 20000 in
theorem ggX1_loadFrom_X1_shift : GoodIn wsX1_loadFrom wsX1_shift := goodIn_r _ [36, 1, 21, 19, 22, 37, 38] (by decide +kernel) (by decide +kernel)
set_option maxRecDepth 20000 in
theorem gX1_loadFrom_X1_shift : GoodIn wsX1_loadFrom (wsV RX1 40 RX1 yX1_shift wsX1_shift) := goodIn_app (goodIn_of _ (by decide +kernel)) ggX1_loadFrom_X1_shift
theorem dX1_loadFrom_0 : decode cX1_loadFrom 0 = .ok (.iconst 0, 1) := by decide +kernel
theorem dX1_loadFrom_1 : decode cX1_loadFrom 1 = .ok (.istore_n 2, 1) := by decide +kernel
theorem dX1_loadFrom_2 : decode cX1_loadFrom 2 = .ok (.iload_n 2, 1) := by decide +kernel
theorem dX1_loadFrom_3 : decode cX1_loadFrom 3 = .ok (.aload_n 0, 1) := by decide +kernel
theorem dX1_loadFrom_4 : decode cX1_loadFrom 4 = .ok (.getfield 9, 3) := by decide +kernel
theorem dX1_loadFrom_7 : decode cX1_loadFrom 7 = .ok (.arraylength, 1) := by decide +kernel
theorem dX1_loadFrom_8 : decode cX1_loadFrom 8 = .ok (.if_icmp .ge 20, 3) := by decide +kernel
theorem dX1_loadFrom_11 : decode cX1_loadFrom 11 = .ok (.aload_n 0, 1) := by decide +kernel
theorem dX1_loadFrom_12 : decode cX1_loadFrom 12 = .ok (.getfield 9, 3) := by decide +kernel
theorem dX1_loadFrom_15 : decode cX1_loadFrom 15 = .ok (.iload_n 2, 1) := by decide +kernel
theorem dX1_loadFrom_16 : decode cX1_loadFrom 16 = .ok (.aload_n 1, 1) := by decide +kernel
theorem dX1_loadFrom_17 : decode cX1_loadFrom 17 = .ok (.iload_n 2, 1) := by decide +kernel
theorem dX1_loadFrom_18 : decode cX1_loadFrom 18 = .ok (.invokevirtual 35, 3) := by decide +kernel
theorem dX1_loadFrom_21 : decode cX1_loadFrom 21 = .ok (.iastore, 1) := by decide +kernel
theorem dX1_loadFrom_22 : decode cX1_loadFrom 22 = .ok (.iinc 2 1, 3) := by decide +kernel
theorem dX1_loadFrom_25 : decode cX1_loadFrom 25 = .ok (.goto (-23), 3) := by decide +kernel
theorem dX1_loadFrom_28 : decode cX1_loadFrom 28 = .ok (.aload_n 0, 1) := by decide +kernel
theorem dX1_loadFrom_29 : decode cX1_loadFrom 29 = .ok (.ldc 22, 2) := by decide +kernel
theorem dX1_loadFrom_31 : decode cX1_loadFrom 31 = .ok (.aload_n 0, 1) := by decide +kernel
theorem dX1_loadFrom_32 : decode cX1_loadFrom 32 = .ok (.ldc 22, 2) := by decide +kernel
theorem dX1_loadFrom_34 : decode cX1_loadFrom 34 = .ok (.invokevirtual 31, 3) := by decide +kernel
theorem dX1_loadFrom_37 : decode cX1_loadFrom 37 = .ok (.ineg, 1) := by decide +kernel
theorem dX1_loadFrom_38 : decode cX1_loadFrom 38 = .ok (.invokevirtual 40, 3) := by decide +kernel
theorem dX1_loadFrom_41 : decode cX1_loadFrom 41 = .ok (.return_, 1) := by decide +kernel
set_option maxRecDepth 20000 in
theorem ggX1_take_X1_takeFirmly : GoodIn wsX1_take wsX1_takeFirmly := goodIn_r _ [5, 6, 7, 8, 9, 10, 11, 12, 4, 13, 14, 15, 16, 17, 18, 19, 20, 63, 64] (by decide +kernel) (by decide +kernel)
set_option maxRecDepth 20000 in
theorem gX1_take_X1_takeFirmly : GoodIn wsX1_take (wsV RX1 44 RX1 yX1_takeFirmly wsX1_takeFirmly) := goodIn_app (goodIn_of _ (by decide +kernel)) ggX1_take_X1_takeFirmly
set_option maxRecDepth 20000 in
theorem ggX1_take_X1_takeNaturally : GoodIn wsX1_take wsX1_takeNaturally := goodIn_r _ [24, 25, 26, 27, 28, 4, 29, 10, 11, 12, 13, 14, 15, 7, 16, 30, 31, 32, 33, 17, 18, 19, 20, 34, 35, 36, 37, 63, 64] (by decide +kernel) (by decide +kernel)
set_option maxRecDepth 20000 in
theorem gX1_take_X1_takeNaturally : GoodIn wsX1_take (wsV RX1 47 RX1 yX1_takeNaturally wsX1_takeNaturally) := goodIn_app (goodIn_of _ (by decide +kernel)) ggX1_take_X1_takeNaturally
set_option maxRecDepth 20000 in
theorem ggX1_take_X1_takeStrictly : GoodIn wsX1_take wsX1_takeStrictly := goodIn_r _ [41, 14, 42, 43, 44, 45, 4, 46, 47, 48, 49, 50, 15, 7, 16, 51, 52, 53, 54, 55, 56, 57, 58, 59, 60, 61, 62, 63, 64] (by decide +kernel) (by decide +kernel)
set_option maxRecDepth 20000 in
theorem gX1_take_X1_takeStrictly : GoodIn wsX1_take (wsV RX1 51 RX1 yX1_takeStrictly wsX1_takeStrictly) := goodIn_app (goodIn_of _ (by decide +kernel)) ggX1_take_X1_takeStrictly
set_option maxRecDepth 20000 in
theorem ggX1_take_X3_not : GoodIn wsX1_take wsX3_not := goodIn_r _ [8, 9] (by decide +kernel) (by decide +kernel)
set_option maxRecDepth 20000 in
theorem gX1_take_X3_not_n54 : GoodIn wsX1_take (wsX3_not) := ggX1_take_X3_not
set_option maxRecDepth 20000 in
theorem ggX1_take_X1_mostPlausible : GoodIn wsX1_take wsX1_mostPlausible := goodIn_r _ [29, 10, 11, 12, 4, 13, 14, 15, 7, 16, 30, 31, 32, 33, 63, 64] (by decide +kernel) (by decide +kernel)
set_option maxRecDepth 20000 in
theorem gX1_take_X1_mostPlausible : GoodIn wsX1_take (wsV RX1 57 RX1 yX1_mostPlausible wsX1_mostPlausible) := goodIn_app (goodIn_of _ (by decide +kernel)) ggX1_take_X1_mostPlausible
set_option maxRecDepth 20000 in
theorem ggX1_take_X1_bringForward : GoodIn wsX1_take wsX1_bringForward := goodIn_r _ [37, 14, 15, 7, 16, 63, 64] (by decide +kernel) (by decide +kernel)
set_option maxRecDepth 20000 in
theorem gX1_take_X1_bringForward : GoodIn wsX1_take (wsV RX1 60 RX1 yX1_bringForward wsX1_bringForward) := goodIn_app (goodIn_of _ (by decide +kernel)) ggX1_take_X1_bringForward
theorem dX1_take_0 : decode cX1_take 0 = .ok (.iload_n 1, 1) := by decide +kernel
theorem dX1_take_1 : decode cX1_take 1 = .ok (.tableswitch 52 0 2 #[27, 36, 44], 27) := by decide +kernel
theorem dX1_take_28 : decode cX1_take 28 = .ok (.aload_n 0, 1) := by decide +kernel
theorem dX1_take_29 : decode cX1_take 29 = .ok (.iload_n 2, 1) := by decide +kernel
theorem dX1_take_30 : decode cX1_take 30 = .ok (.iload_n 3, 1) := by decide +kernel
theorem dX1_take_31 : decode cX1_take 31 = .ok (.invokevirtual 44, 3) := by decide +kernel
theorem dX1_take_34 : decode cX1_take 34 = .ok (.goto 31, 3) := by decide +kernel
theorem dX1_take_37 : decode cX1_take 37 = .ok (.aload_n 0, 1) := by decide +kernel
theorem dX1_take_38 : decode cX1_take 38 = .ok (.iload_n 2, 1) := by decide +kernel
theorem dX1_take_39 : decode cX1_take 39 = .ok (.invokevirtual 47, 3) := by decide +kernel
theorem dX1_take_42 : decode cX1_take 42 = .ok (.goto 23, 3) := by decide +kernel
theorem dX1_take_45 : decode cX1_take 45 = .ok (.aload_n 0, 1) := by decide +kernel
theorem dX1_take_46 : decode cX1_take 46 = .ok (.iload_n 2, 1) := by decide +kernel
theorem dX1_take_47 : decode cX1_take 47 = .ok (.invokevirtual 51, 3) := by decide +kernel
theorem dX1_take_50 : decode cX1_take 50 = .ok (.goto 15, 3) := by decide +kernel
theorem dX1_take_53 : decode cX1_take 53 = .ok (.aload_n 0, 1) := by decide +kernel
theorem dX1_take_54 : decode cX1_take 54 = .ok (.aload_n 0, 1) := by decide +kernel
theorem dX1_take_55 : decode cX1_take 55 = .ok (.iload_n 2, 1) := by decide +kernel
theorem dX1_take_56 : decode cX1_take 56 = .ok (.invokestatic 54, 3) := by decide +kernel
theorem dX1_take_59 : decode cX1_take 59 = .ok (.invokevirtual 57, 3) := by decide +kernel
theorem dX1_take_62 : decode cX1_take 62 = .ok (.invokevirtual 60, 3) := by decide +kernel
theorem dX1_take_65 : decode cX1_take 65 = .ok (.return_, 1) := by decide +kernel
set_option maxRecDepth 20000 in
theorem ggX1_takeFirmly_X3_not : GoodIn wsX1_takeFirmly wsX3_not := goodIn_r _ [3, 4] (by decide +kernel) (by decide +kernel)
set_option maxRecDepth 20000 in
theorem gX1_takeFirmly_X3_not_n54 : GoodIn wsX1_takeFirmly (wsX3_not) := ggX1_takeFirmly_X3_not
set_option maxRecDepth 20000 in
theorem ggX1_takeFirmly_X1_leastLevel : GoodIn wsX1_takeFirmly wsX1_leastLevel := goodIn_r _ [9, 10, 11, 2, 12, 17, 18] (by decide +kernel) (by decide +kernel)
set_option maxRecDepth 20000 in
theorem gX1_takeFirmly_X1_leastLevel : GoodIn wsX1_takeFirmly (wsV RX1 31 RX1 yX1_leastLevel wsX1_leastLevel) := goodIn_app (goodIn_of _ (by decide +kernel)) ggX1_takeFirmly_X1_leastLevel
set_option maxRecDepth 20000 in
theorem ggX1_takeFirmly_X1_shift : GoodIn wsX1_takeFirmly wsX1_shift := goodIn_r _ [16, 10, 11, 2, 12, 17, 18] (by decide +kernel) (by decide +kernel)
set_option maxRecDepth 20000 in
theorem gX1_takeFirmly_X1_shift : GoodIn wsX1_takeFirmly (wsV RX1 40 RX1 yX1_shift wsX1_shift) := goodIn_app (goodIn_of _ (by decide +kernel)) ggX1_takeFirmly_X1_shift
theorem dX1_takeFirmly_0 : decode cX1_takeFirmly 0 = .ok (.iload_n 1, 1) := by decide +kernel
theorem dX1_takeFirmly_1 : decode cX1_takeFirmly 1 = .ok (.invokestatic 54, 3) := by decide +kernel
theorem dX1_takeFirmly_4 : decode cX1_takeFirmly 4 = .ok (.istore_n 3, 1) := by decide +kernel
theorem dX1_takeFirmly_5 : decode cX1_takeFirmly 5 = .ok (.aload_n 0, 1) := by decide +kernel
theorem dX1_takeFirmly_6 : decode cX1_takeFirmly 6 = .ok (.iload_n 1, 1) := by decide +kernel
theorem dX1_takeFirmly_7 : decode cX1_takeFirmly 7 = .ok (.aload_n 0, 1) := by decide +kernel
theorem dX1_takeFirmly_8 : decode cX1_takeFirmly 8 = .ok (.iload_n 1, 1) := by decide +kernel
theorem dX1_takeFirmly_9 : decode cX1_takeFirmly 9 = .ok (.invokevirtual 31, 3) := by decide +kernel
theorem dX1_takeFirmly_12 : decode cX1_takeFirmly 12 = .ok (.ineg, 1) := by decide +kernel
theorem dX1_takeFirmly_13 : decode cX1_takeFirmly 13 = .ok (.invokevirtual 40, 3) := by decide +kernel
theorem dX1_takeFirmly_16 : decode cX1_takeFirmly 16 = .ok (.aload_n 0, 1) := by decide +kernel
theorem dX1_takeFirmly_17 : decode cX1_takeFirmly 17 = .ok (.iload_n 3, 1) := by decide +kernel
theorem dX1_takeFirmly_18 : decode cX1_takeFirmly 18 = .ok (.iload_n 2, 1) := by decide +kernel
theorem dX1_takeFirmly_19 : decode cX1_takeFirmly 19 = .ok (.aload_n 0, 1) := by decide +kernel
theorem dX1_takeFirmly_20 : decode cX1_takeFirmly 20 = .ok (.iload_n 3, 1) := by decide +kernel
theorem dX1_takeFirmly_21 : decode cX1_takeFirmly 21 = .ok (.invokevirtual 31, 3) := by decide +kernel
theorem dX1_takeFirmly_24 : decode cX1_takeFirmly 24 = .ok (.isub, 1) := by decide +kernel
theorem dX1_takeFirmly_25 : decode cX1_takeFirmly 25 = .ok (.invokevirtual 40, 3) := by decide +kernel
theorem dX1_takeFirmly_28 : decode cX1_takeFirmly 28 = .ok (.return_, 1) := by decide +kernel
set_option maxRecDepth 20000 in
theorem ggX1_takeNaturally_X1_mostPlausible : GoodIn wsX1_takeNaturally wsX1_mostPlausible := goodIn_r _ [6, 7, 8, 9, 5, 10, 11, 12, 13, 14, 15, 16, 17, 18, 27, 28] (by decide +kernel) (by decide +kernel)
set_option maxRecDepth 20000 in
theorem gX1_takeNaturally_X1_mostPlausible : GoodIn wsX1_takeNaturally (wsV RX1 57 RX1 yX1_mostPlausible wsX1_mostPlausible) := goodIn_app (goodIn_of _ (by decide +kernel)) ggX1_takeNaturally_X1_mostPlausible
set_option maxRecDepth 20000 in
theorem ggX1_takeNaturally_X1_shift : GoodIn wsX1_takeNaturally wsX1_shift := goodIn_r _ [22, 11, 12, 13, 14, 27, 28] (by decide +kernel) (by decide +kernel)
set_option maxRecDepth 20000 in
theorem gX1_takeNaturally_X1_shift : GoodIn wsX1_takeNaturally (wsV RX1 40 RX1 yX1_shift wsX1_shift) := goodIn_app (goodIn_of _ (by decide +kernel)) ggX1_takeNaturally_X1_shift
set_option maxRecDepth 20000 in
theorem ggX1_takeNaturally_X1_bringForward : GoodIn wsX1_takeNaturally wsX1_bringForward := goodIn_r _ [26, 11, 12, 13, 14, 27, 28] (by decide +kernel) (by decide +kernel)
set_option maxRecDepth 20000 in
theorem gX1_takeNaturally_X1_bringForward : GoodIn wsX1_takeNaturally (wsV RX1 60 RX1 yX1_bringForward wsX1_bringForward) := goodIn_app (goodIn_of _ (by decide +kernel)) ggX1_takeNaturally_X1_bringForward
theorem dX1_takeNaturally_0 : decode cX1_takeNaturally 0 = .ok (.aload_n 0, 1) := by decide +kernel
theorem dX1_takeNaturally_1 : decode cX1_takeNaturally 1 = .ok (.iload_n 1, 1) := by decide +kernel
theorem dX1_takeNaturally_2 : decode cX1_takeNaturally 2 = .ok (.invokevirtual 57, 3) := by decide +kernel
theorem dX1_takeNaturally_5 : decode cX1_takeNaturally 5 = .ok (.istore_n 2, 1) := by decide +kernel
theorem dX1_takeNaturally_6 : decode cX1_takeNaturally 6 = .ok (.aload_n 0, 1) := by decide +kernel
theorem dX1_takeNaturally_7 : decode cX1_takeNaturally 7 = .ok (.ldc 22, 2) := by decide +kernel
theorem dX1_takeNaturally_9 : decode cX1_takeNaturally 9 = .ok (.iconst 1, 1) := by decide +kernel
theorem dX1_takeNaturally_10 : decode cX1_takeNaturally 10 = .ok (.invokevirtual 40, 3) := by decide +kernel
theorem dX1_takeNaturally_13 : decode cX1_takeNaturally 13 = .ok (.aload_n 0, 1) := by decide +kernel
theorem dX1_takeNaturally_14 : decode cX1_takeNaturally 14 = .ok (.iload_n 2, 1) := by decide +kernel
theorem dX1_takeNaturally_15 : decode cX1_takeNaturally 15 = .ok (.invokevirtual 60, 3) := by decide +kernel
theorem dX1_takeNaturally_18 : decode cX1_takeNaturally 18 = .ok (.return_, 1) := by decide +kernel
set_option maxRecDepth 20000 in
theorem ggX1_takeStrictly_X1_greatestLevel : GoodIn wsX1_takeStrictly wsX1_greatestLevel := goodIn_r _ [7, 1, 8, 9, 10, 11, 27, 28] (by decide +kernel) (by decide +kernel)
set_option maxRecDepth 20000 in
theorem gX1_takeStrictly_X1_greatestLevel : GoodIn wsX1_takeStrictly (wsV RX1 63 RX1 yX1_greatestLevel wsX1_greatestLevel) := goodIn_app (goodIn_of _ (by decide +kernel)) ggX1_takeStrictly_X1_greatestLevel
set_option maxRecDepth 20000 in
theorem ggX1_takeStrictly_X3_has : GoodIn wsX1_takeStrictly wsX3_has := goodIn_r _ [14] (by decide +kernel) (by decide +kernel)
set_option maxRecDepth 20000 in
theorem gX1_takeStrictly_X3_has_n27 : GoodIn wsX1_takeStrictly (wsX3_has) := ggX1_takeStrictly_X3_has
set_option maxRecDepth 20000 in
theorem ggX1_takeStrictly_X1_setLevelsByKeys : GoodIn wsX1_takeStrictly wsX1_setLevelsByKeys := goodIn_r _ [18, 1, 2, 19, 13, 20, 21, 22, 6, 23, 24, 25, 26, 27, 28] (by decide +kernel) (by decide +kernel)
set_option maxRecDepth 20000 in
theorem gX1_takeStrictly_X1_setLevelsByKeys : GoodIn wsX1_takeStrictly (wsV RX1 67 RX1 yX1_setLevelsByKeys wsX1_setLevelsByKeys) := goodIn_app (goodIn_of _ (by decide +kernel)) ggX1_takeStrictly_X1_setLevelsByKeys
theorem dX1_takeStrictly_0 : decode cX1_takeStrictly 0 = .ok (.aload_n 0, 1) := by decide +kernel
theorem dX1_takeStrictly_1 : decode cX1_takeStrictly 1 = .ok (.invokevirtual 63, 3) := by decide +kernel
theorem dX1_takeStrictly_4 : decode cX1_takeStrictly 4 = .ok (.iconst 1, 1) := by decide +kernel
theorem dX1_takeStrictly_5 : decode cX1_takeStrictly 5 = .ok (.iadd, 1) := by decide +kernel
theorem dX1_takeStrictly_6 : decode cX1_takeStrictly 6 = .ok (.istore_n 2, 1) := by decide +kernel
theorem dX1_takeStrictly_7 : decode cX1_takeStrictly 7 = .ok (.iconst 0, 1) := by decide +kernel
theorem dX1_takeStrictly_8 : decode cX1_takeStrictly 8 = .ok (.istore_n 3, 1) := by decide +kernel
theorem dX1_takeStrictly_9 : decode cX1_takeStrictly 9 = .ok (.iload_n 3, 1) := by decide +kernel
theorem dX1_takeStrictly_10 : decode cX1_takeStrictly 10 = .ok (.aload_n 0, 1) := by decide +kernel
theorem dX1_takeStrictly_11 : decode cX1_takeStrictly 11 = .ok (.getfield 9, 3) := by decide +kernel
theorem dX1_takeStrictly_14 : decode cX1_takeStrictly 14 = .ok (.arraylength, 1) := by decide +kernel
theorem dX1_takeStrictly_15 : decode cX1_takeStrictly 15 = .ok (.if_icmp .ge 49, 3) := by decide +kernel
theorem dX1_takeStrictly_18 : decode cX1_takeStrictly 18 = .ok (.iload_n 3, 1) := by decide +kernel
theorem dX1_takeStrictly_19 : decode cX1_takeStrictly 19 = .ok (.aload_n 0, 1) := by decide +kernel
theorem dX1_takeStrictly_20 : decode cX1_takeStrictly 20 = .ok (.getfield 15, 3) := by decide +kernel
theorem dX1_takeStrictly_23 : decode cX1_takeStrictly 23 = .ok (.arraylength, 1) := by decide +kernel
theorem dX1_takeStrictly_24 : decode cX1_takeStrictly 24 = .ok (.if_icmp .ge 40, 3) := by decide +kernel
theorem dX1_takeStrictly_27 : decode cX1_takeStrictly 27 = .ok (.aload_n 0, 1) := by decide +kernel
theorem dX1_takeStrictly_28 : decode cX1_takeStrictly 28 = .ok (.getfield 15, 3) := by decide +kernel
theorem dX1_takeStrictly_31 : decode cX1_takeStrictly 31 = .ok (.iload_n 3, 1) := by decide +kernel
theorem dX1_takeStrictly_32 : decode cX1_takeStrictly 32 = .ok (.iload_n 1, 1) := by decide +kernel
theorem dX1_takeStrictly_33 : decode cX1_takeStrictly 33 = .ok (.iload_n 3, 1) := by decide +kernel
theorem dX1_takeStrictly_34 : decode cX1_takeStrictly 34 = .ok (.invokestatic 27, 3) := by decide +kernel
theorem dX1_takeStrictly_37 : decode cX1_takeStrictly 37 = .ok (.ifCond .eq 12, 3) := by decide +kernel
theorem dX1_takeStrictly_40 : decode cX1_takeStrictly 40 = .ok (.aload_n 0, 1) := by decide +kernel
theorem dX1_takeStrictly_41 : decode cX1_takeStrictly 41 = .ok (.getfield 9, 3) := by decide +kernel
theorem dX1_takeStrictly_44 : decode cX1_takeStrictly 44 = .ok (.iload_n 3, 1) := by decide +kernel
theorem dX1_takeStrictly_45 : decode cX1_takeStrictly 45 = .ok (.iaload, 1) := by decide +kernel
theorem dX1_takeStrictly_46 : decode cX1_takeStrictly 46 = .ok (.goto 11, 3) := by decide +kernel
theorem dX1_takeStrictly_49 : decode cX1_takeStrictly 49 = .ok (.aload_n 0, 1) := by decide +kernel
theorem dX1_takeStrictly_50 : decode cX1_takeStrictly 50 = .ok (.getfield 9, 3) := by decide +kernel
theorem dX1_takeStrictly_53 : decode cX1_takeStrictly 53 = .ok (.iload_n 3, 1) := by decide +kernel
theorem dX1_takeStrictly_54 : decode cX1_takeStrictly 54 = .ok (.iaload, 1) := by decide +kernel
theorem dX1_takeStrictly_55 : decode cX1_takeStrictly 55 = .ok (.iload_n 2, 1) := by decide +kernel
theorem dX1_takeStrictly_56 : decode cX1_takeStrictly 56 = .ok (.iadd, 1) := by decide +kernel
theorem dX1_takeStrictly_57 : decode cX1_takeStrictly 57 = .ok (.iastore, 1) := by decide +kernel
theorem dX1_takeStrictly_58 : decode cX1_takeStrictly 58 = .ok (.iinc 3 1, 3) := by decide +kernel
theorem dX1_takeStrictly_61 : decode cX1_takeStrictly 61 = .ok (.goto (-52), 3) := by decide +kernel
theorem dX1_takeStrictly_64 : decode cX1_takeStrictly 64 = .ok (.aload_n 0, 1) := by decide +kernel
theorem dX1_takeStrictly_65 : decode cX1_takeStrictly 65 = .ok (.invokevirtual 67, 3) := by decide +kernel
theorem dX1_takeStrictly_68 : decode cX1_takeStrictly 68 = .ok (.return_, 1) := by decide +kernel
theorem dX1_greatestLevel_0 : decode cX1_greatestLevel 0 = .ok (.iconst 0, 1) := by decide +kernel
theorem dX1_greatestLevel_1 : decode cX1_greatestLevel 1 = .ok (.istore_n 1, 1) := by decide +kernel
theorem dX1_greatestLevel_2 : decode cX1_greatestLevel 2 = .ok (.iconst 0, 1) := by decide +kernel
theorem dX1_greatestLevel_3 : decode cX1_greatestLevel 3 = .ok (.istore_n 2, 1) := by decide +kernel
theorem dX1_greatestLevel_4 : decode cX1_greatestLevel 4 = .ok (.iload_n 2, 1) := by decide +kernel
theorem dX1_greatestLevel_5 : decode cX1_greatestLevel 5 = .ok (.aload_n 0, 1) := by decide +kernel
theorem dX1_greatestLevel_6 : decode cX1_greatestLevel 6 = .ok (.getfield 9, 3) := by decide +kernel
theorem dX1_greatestLevel_9 : decode cX1_greatestLevel 9 = .ok (.arraylength, 1) := by decide +kernel
theorem dX1_greatestLevel_10 : decode cX1_greatestLevel 10 = .ok (.if_icmp .ge 20, 3) := by decide +kernel
theorem dX1_greatestLevel_13 : decode cX1_greatestLevel 13 = .ok (.iload_n 1, 1) := by decide +kernel
theorem dX1_greatestLevel_14 : decode cX1_greatestLevel 14 = .ok (.aload_n 0, 1) := by decide +kernel
theorem dX1_greatestLevel_15 : decode cX1_greatestLevel 15 = .ok (.getfield 9, 3) := by decide +kernel
theorem dX1_greatestLevel_18 : decode cX1_greatestLevel 18 = .ok (.iload_n 2, 1) := by decide +kernel
theorem dX1_greatestLevel_19 : decode cX1_greatestLevel 19 = .ok (.iaload, 1) := by decide +kernel
theorem dX1_greatestLevel_20 : decode cX1_greatestLevel 20 = .ok (.invokestatic 70, 3) := by decide +kernel
theorem dX1_greatestLevel_23 : decode cX1_greatestLevel 23 = .ok (.istore_n 1, 1) := by decide +kernel
theorem dX1_greatestLevel_24 : decode cX1_greatestLevel 24 = .ok (.iinc 2 1, 3) := by decide +kernel
theorem dX1_greatestLevel_27 : decode cX1_greatestLevel 27 = .ok (.goto (-23), 3) := by decide +kernel
theorem dX1_greatestLevel_30 : decode cX1_greatestLevel 30 = .ok (.iload_n 1, 1) := by decide +kernel
theorem dX1_greatestLevel_31 : decode cX1_greatestLevel 31 = .ok (.ireturn, 1) := by decide +kernel
set_option maxRecDepth 20000 in
theorem ggX1_setLevelsByKeys_X3_at : GoodIn wsX1_setLevelsByKeys wsX3_at := goodIn_r _ [5] (by decide +kernel) (by decide +kernel)
set_option maxRecDepth 20000 in
theorem gX1_setLevelsByKeys_X3_at_n18 : GoodIn wsX1_setLevelsByKeys (wsX3_at) := ggX1_setLevelsByKeys_X3_at
set_option maxRecDepth 20000 in
theorem ggX1_setLevelsByKeys_X1_countDifferent : GoodIn wsX1_setLevelsByKeys wsX1_countDifferent := goodIn_r _ [9, 10, 11, 8, 12, 3, 4, 5] (by decide +kernel) (by decide +kernel)
set_option maxRecDepth 20000 in
theorem gX1_setLevelsByKeys_X1_countDifferent : GoodIn wsX1_setLevelsByKeys (va_wsS RX1 75 yX1_countDifferent wsX1_countDifferent) := goodIn_app (goodIn_of _ (by decide +kernel)) ggX1_setLevelsByKeys_X1_countDifferent
theorem dX1_setLevelsByKeys_0 : decode cX1_setLevelsByKeys 0 = .ok (.iconst 0, 1) := by decide +kernel
theorem dX1_setLevelsByKeys_1 : decode cX1_setLevelsByKeys 1 = .ok (.istore_n 1, 1) := by decide +kernel
theorem dX1_setLevelsByKeys_2 : decode cX1_setLevelsByKeys 2 = .ok (.iload_n 1, 1) := by decide +kernel
theorem dX1_setLevelsByKeys_3 : decode cX1_setLevelsByKeys 3 = .ok (.aload_n 0, 1) := by decide +kernel
theorem dX1_setLevelsByKeys_4 : decode cX1_setLevelsByKeys 4 = .ok (.getfield 9, 3) := by decide +kernel
theorem dX1_setLevelsByKeys_7 : decode cX1_setLevelsByKeys 7 = .ok (.arraylength, 1) := by decide +kernel
theorem dX1_setLevelsByKeys_8 : decode cX1_setLevelsByKeys 8 = .ok (.if_icmp .ge 30, 3) := by decide +kernel
theorem dX1_setLevelsByKeys_11 : decode cX1_setLevelsByKeys 11 = .ok (.aload_n 0, 1) := by decide +kernel
theorem dX1_setLevelsByKeys_12 : decode cX1_setLevelsByKeys 12 = .ok (.getfield 9, 3) := by decide +kernel
theorem dX1_setLevelsByKeys_15 : decode cX1_setLevelsByKeys 15 = .ok (.iload_n 1, 1) := by decide +kernel
theorem dX1_setLevelsByKeys_16 : decode cX1_setLevelsByKeys 16 = .ok (.aload_n 0, 1) := by decide +kernel
theorem dX1_setLevelsByKeys_17 : decode cX1_setLevelsByKeys 17 = .ok (.getfield 15, 3) := by decide +kernel
theorem dX1_setLevelsByKeys_20 : decode cX1_setLevelsByKeys 20 = .ok (.aload_n 0, 1) := by decide +kernel
theorem dX1_setLevelsByKeys_21 : decode cX1_setLevelsByKeys 21 = .ok (.getfield 15, 3) := by decide +kernel
theorem dX1_setLevelsByKeys_24 : decode cX1_setLevelsByKeys 24 = .ok (.iload_n 1, 1) := by decide +kernel
theorem dX1_setLevelsByKeys_25 : decode cX1_setLevelsByKeys 25 = .ok (.invokestatic 18, 3) := by decide +kernel
theorem dX1_setLevelsByKeys_28 : decode cX1_setLevelsByKeys 28 = .ok (.invokestatic 75, 3) := by decide +kernel
theorem dX1_setLevelsByKeys_31 : decode cX1_setLevelsByKeys 31 = .ok (.iastore, 1) := by decide +kernel
theorem dX1_setLevelsByKeys_32 : decode cX1_setLevelsByKeys 32 = .ok (.iinc 1 1, 3) := by decide +kernel
theorem dX1_setLevelsByKeys_35 : decode cX1_setLevelsByKeys 35 = .ok (.goto (-33), 3) := by decide +kernel
theorem dX1_setLevelsByKeys_38 : decode cX1_setLevelsByKeys 38 = .ok (.return_, 1) := by decide +kernel
set_option maxRecDepth 20000 in
theorem ggX1_countDifferent_X1_isFirst : GoodIn wsX1_countDifferent wsX1_isFirst := goodIn_r _ [4, 5, 6, 7] (by decide +kernel) (by decide +kernel)
set_option maxRecDepth 20000 in
theorem gX1_countDifferent_X1_isFirst : GoodIn wsX1_countDifferent (va_wsS RX1 78 yX1_isFirst wsX1_isFirst) := goodIn_app (goodIn_of _ (by decide +kernel)) ggX1_countDifferent_X1_isFirst
theorem dX1_countDifferent_0 : decode cX1_countDifferent 0 = .ok (.iconst 0, 1) := by decide +kernel
theorem dX1_countDifferent_1 : decode cX1_countDifferent 1 = .ok (.istore_n 2, 1) := by decide +kernel
theorem dX1_countDifferent_2 : decode cX1_countDifferent 2 = .ok (.iconst 0, 1) := by decide +kernel
theorem dX1_countDifferent_3 : decode cX1_countDifferent 3 = .ok (.istore_n 3, 1) := by decide +kernel
theorem dX1_countDifferent_4 : decode cX1_countDifferent 4 = .ok (.iload_n 3, 1) := by decide +kernel
theorem dX1_countDifferent_5 : decode cX1_countDifferent 5 = .ok (.aload_n 0, 1) := by decide +kernel
theorem dX1_countDifferent_6 : decode cX1_countDifferent 6 = .ok (.arraylength, 1) := by decide +kernel
theorem dX1_countDifferent_7 : decode cX1_countDifferent 7 = .ok (.if_icmp .ge 27, 3) := by decide +kernel
theorem dX1_countDifferent_10 : decode cX1_countDifferent 10 = .ok (.aload_n 0, 1) := by decide +kernel
theorem dX1_countDifferent_11 : decode cX1_countDifferent 11 = .ok (.iload_n 3, 1) := by decide +kernel
theorem dX1_countDifferent_12 : decode cX1_countDifferent 12 = .ok (.iaload, 1) := by decide +kernel
theorem dX1_countDifferent_13 : decode cX1_countDifferent 13 = .ok (.iload_n 1, 1) := by decide +kernel
theorem dX1_countDifferent_14 : decode cX1_countDifferent 14 = .ok (.if_icmp .ge 14, 3) := by decide +kernel
theorem dX1_countDifferent_17 : decode cX1_countDifferent 17 = .ok (.aload_n 0, 1) := by decide +kernel
theorem dX1_countDifferent_18 : decode cX1_countDifferent 18 = .ok (.iload_n 3, 1) := by decide +kernel
theorem dX1_countDifferent_19 : decode cX1_countDifferent 19 = .ok (.invokestatic 78, 3) := by decide +kernel
theorem dX1_countDifferent_22 : decode cX1_countDifferent 22 = .ok (.ifCond .eq 6, 3) := by decide +kernel
theorem dX1_countDifferent_25 : decode cX1_countDifferent 25 = .ok (.iinc 2 1, 3) := by decide +kernel
theorem dX1_countDifferent_28 : decode cX1_countDifferent 28 = .ok (.iinc 3 1, 3) := by decide +kernel
theorem dX1_countDifferent_31 : decode cX1_countDifferent 31 = .ok (.goto (-27), 3) := by decide +kernel
theorem dX1_countDifferent_34 : decode cX1_countDifferent 34 = .ok (.iload_n 2, 1) := by decide +kernel
theorem dX1_countDifferent_35 : decode cX1_countDifferent 35 = .ok (.ireturn, 1) := by decide +kernel
set_option maxRecDepth 20000 in
theorem ggX1_isFirst_X3_at : GoodIn wsX1_isFirst wsX3_at := goodIn_r _ [3] (by decide +kernel) (by decide +kernel)
set_option maxRecDepth 20000 in
theorem gX1_isFirst_X3_at_n18 : GoodIn wsX1_isFirst (wsX3_at) := ggX1_isFirst_X3_at
theorem dX1_isFirst_0 : decode cX1_isFirst 0 = .ok (.iconst 0, 1) := by decide +kernel
theorem dX1_isFirst_1 : decode cX1_isFirst 1 = .ok (.istore_n 2, 1) := by decide +kernel
theorem dX1_isFirst_2 : decode cX1_isFirst 2 = .ok (.iload_n 2, 1) := by decide +kernel
theorem dX1_isFirst_3 : decode cX1_isFirst 3 = .ok (.iload_n 1, 1) := by decide +kernel
theorem dX1_isFirst_4 : decode cX1_isFirst 4 = .ok (.if_icmp .ge 24, 3) := by decide +kernel
theorem dX1_isFirst_7 : decode cX1_isFirst 7 = .ok (.aload_n 0, 1) := by decide +kernel
theorem dX1_isFirst_8 : decode cX1_isFirst 8 = .ok (.iload_n 2, 1) := by decide +kernel
theorem dX1_isFirst_9 : decode cX1_isFirst 9 = .ok (.invokestatic 18, 3) := by decide +kernel
theorem dX1_isFirst_12 : decode cX1_isFirst 12 = .ok (.aload_n 0, 1) := by decide +kernel
theorem dX1_isFirst_13 : decode cX1_isFirst 13 = .ok (.iload_n 1, 1) := by decide +kernel
theorem dX1_isFirst_14 : decode cX1_isFirst 14 = .ok (.invokestatic 18, 3) := by decide +kernel
theorem dX1_isFirst_17 : decode cX1_isFirst 17 = .ok (.if_icmp .ne 5, 3) := by decide +kernel
theorem dX1_isFirst_20 : decode cX1_isFirst 20 = .ok (.iconst 0, 1) := by decide +kernel
theorem dX1_isFirst_21 : decode cX1_isFirst 21 = .ok (.ireturn, 1) := by decide +kernel
theorem dX1_isFirst_22 : decode cX1_isFirst 22 = .ok (.iinc 2 1, 3) := by decide +kernel
theorem dX1_isFirst_25 : decode cX1_isFirst 25 = .ok (.goto (-23), 3) := by decide +kernel
theorem dX1_isFirst_28 : decode cX1_isFirst 28 = .ok (.iconst 1, 1) := by decide +kernel
theorem dX1_isFirst_29 : decode cX1_isFirst 29 = .ok (.ireturn, 1) := by decide +kernel
theorem dX2_init_0 : decode cX2_init 0 = .ok (.aload_n 0, 1) := by decide +kernel
theorem dX2_init_1 : decode cX2_init 1 = .ok (.invokespecial 3, 3) := by decide +kernel
theorem dX2_init_4 : decode cX2_init 4 = .ok (.aload_n 0, 1) := by decide +kernel
theorem dX2_init_5 : decode cX2_init 5 = .ok (.bipush 12, 2) := by decide +kernel
theorem dX2_init_7 : decode cX2_init 7 = .ok (.newarray .int, 2) := by decide +kernel
theorem dX2_init_9 : decode cX2_init 9 = .ok (.putfield 9, 3) := by decide +kernel
theorem dX2_init_12 : decode cX2_init 12 = .ok (.aload_n 0, 1) := by decide +kernel
theorem dX2_init_13 : decode cX2_init 13 = .ok (.iconst 0, 1) := by decide +kernel
theorem dX2_init_14 : decode cX2_init 14 = .ok (.putfield 15, 3) := by decide +kernel
theorem dX2_init_17 : decode cX2_init 17 = .ok (.return_, 1) := by decide +kernel
theorem dX2_count_0 : decode cX2_count 0 = .ok (.aload_n 0, 1) := by decide +kernel
theorem dX2_count_1 : decode cX2_count 1 = .ok (.getfield 15, 3) := by decide +kernel
theorem dX2_count_4 : decode cX2_count 4 = .ok (.ireturn, 1) := by decide +kernel
theorem dX2_isFull_0 : decode cX2_isFull 0 = .ok (.aload_n 0, 1) := by decide +kernel
theorem dX2_isFull_1 : decode cX2_isFull 1 = .ok (.getfield 15, 3) := by decide +kernel
theorem dX2_isFull_4 : decode cX2_isFull 4 = .ok (.bipush 12, 2) := by decide +kernel
theorem dX2_isFull_6 : decode cX2_isFull 6 = .ok (.if_icmp .lt 7, 3) := by decide +kernel
theorem dX2_isFull_9 : decode cX2_isFull 9 = .ok (.iconst 1, 1) := by decide +kernel
theorem dX2_isFull_10 : decode cX2_isFull 10 = .ok (.goto 4, 3) := by decide +kernel
theorem dX2_isFull_13 : decode cX2_isFull 13 = .ok (.iconst 0, 1) := by decide +kernel
theorem dX2_isFull_14 : decode cX2_isFull 14 = .ok (.ireturn, 1) := by decide +kernel
set_option maxRecDepth 20000 in
theorem ggX2_lay_X2_isFull : GoodIn wsX2_lay wsX2_isFull := goodIn_r _ [7, 2, 11, 12] (by decide +kernel) (by decide +kernel)
set_option maxRecDepth 20000 in
theorem gX2_lay_X2_isFull : GoodIn wsX2_lay (wsV RX2 19 RX2 yX2_isFull wsX2_isFull) := goodIn_app (goodIn_of _ (by decide +kernel)) ggX2_lay_X2_isFull
set_option maxRecDepth 20000 in
theorem ggX2_lay_X3_put : GoodIn wsX2_lay wsX3_put := goodIn_r _ [10] (by decide +kernel) (by decide +kernel)
set_option maxRecDepth 20000 in
theorem gX2_lay_X3_put_n23 : GoodIn wsX2_lay (wsX3_put) := ggX2_lay_X3_put
theorem dX2_lay_0 : decode cX2_lay 0 = .ok (.aload_n 0, 1) := by decide +kernel
theorem dX2_lay_1 : decode cX2_lay 1 = .ok (.invokevirtual 19, 3) := by decide +kernel
theorem dX2_lay_4 : decode cX2_lay 4 = .ok (.ifCond .ne 25, 3) := by decide +kernel
theorem dX2_lay_7 : decode cX2_lay 7 = .ok (.aload_n 0, 1) := by decide +kernel
theorem dX2_lay_8 : decode cX2_lay 8 = .ok (.getfield 9, 3) := by decide +kernel
theorem dX2_lay_11 : decode cX2_lay 11 = .ok (.aload_n 0, 1) := by decide +kernel
theorem dX2_lay_12 : decode cX2_lay 12 = .ok (.getfield 15, 3) := by decide +kernel
theorem dX2_lay_15 : decode cX2_lay 15 = .ok (.iload_n 1, 1) := by decide +kernel
theorem dX2_lay_16 : decode cX2_lay 16 = .ok (.invokestatic 23, 3) := by decide +kernel
theorem dX2_lay_19 : decode cX2_lay 19 = .ok (.aload_n 0, 1) := by decide +kernel
theorem dX2_lay_20 : decode cX2_lay 20 = .ok (.dup, 1) := by decide +kernel
theorem dX2_lay_21 : decode cX2_lay 21 = .ok (.getfield 15, 3) := by decide +kernel
theorem dX2_lay_24 : decode cX2_lay 24 = .ok (.iconst 1, 1) := by decide +kernel
theorem dX2_lay_25 : decode cX2_lay 25 = .ok (.iadd, 1) := by decide +kernel
theorem dX2_lay_26 : decode cX2_lay 26 = .ok (.putfield 15, 3) := by decide +kernel
theorem dX2_lay_29 : decode cX2_lay 29 = .ok (.return_, 1) := by decide +kernel
theorem dX2_take_0 : decode cX2_take 0 = .ok (.aload_n 0, 1) := by decide +kernel
theorem dX2_take_1 : decode cX2_take 1 = .ok (.iconst 0, 1) := by decide +kernel
theorem dX2_take_2 : decode cX2_take 2 = .ok (.aload_n 0, 1) := by decide +kernel
theorem dX2_take_3 : decode cX2_take 3 = .ok (.getfield 15, 3) := by decide +kernel
theorem dX2_take_6 : decode cX2_take 6 = .ok (.iload_n 1, 1) := by decide +kernel
theorem dX2_take_7 : decode cX2_take 7 = .ok (.isub, 1) := by decide +kernel
theorem dX2_take_8 : decode cX2_take 8 = .ok (.invokestatic 27, 3) := by decide +kernel
theorem dX2_take_11 : decode cX2_take 11 = .ok (.putfield 15, 3) := by decide +kernel
theorem dX2_take_14 : decode cX2_take 14 = .ok (.return_, 1) := by decide +kernel
set_option maxRecDepth 20000 in
theorem ggX2_replace_X2_take : GoodIn wsX2_replace wsX2_take := goodIn_r _ [5, 6, 7, 8, 9, 10, 23, 24] (by decide +kernel) (by decide +kernel)
set_option maxRecDepth 20000 in
theorem gX2_replace_X2_take : GoodIn wsX2_replace (wsV RX2 33 RX2 yX2_take wsX2_take) := goodIn_app (goodIn_of _ (by decide +kernel)) ggX2_replace_X2_take
set_option maxRecDepth 20000 in
theorem ggX2_replace_X2_lay : GoodIn wsX2_replace wsX2_lay := goodIn_r _ [14, 15, 6, 16, 17, 18, 4, 19, 20, 21, 22, 23, 24] (by decide +kernel) (by decide +kernel)
set_option maxRecDepth 20000 in
theorem gX2_replace_X2_lay : GoodIn wsX2_replace (wsV RX2 37 RX2 yX2_lay wsX2_lay) := goodIn_app (goodIn_of _ (by decide +kernel)) ggX2_replace_X2_lay
theorem dX2_replace_0 : decode cX2_replace 0 = .ok (.aload_n 0, 1) := by decide +kernel
theorem dX2_replace_1 : decode cX2_replace 1 = .ok (.iload_n 1, 1) := by decide +kernel
theorem dX2_replace_2 : decode cX2_replace 2 = .ok (.invokevirtual 33, 3) := by decide +kernel
theorem dX2_replace_5 : decode cX2_replace 5 = .ok (.aload_n 0, 1) := by decide +kernel
theorem dX2_replace_6 : decode cX2_replace 6 = .ok (.iload_n 2, 1) := by decide +kernel
theorem dX2_replace_7 : decode cX2_replace 7 = .ok (.invokevirtual 37, 3) := by decide +kernel
theorem dX2_replace_10 : decode cX2_replace 10 = .ok (.return_, 1) := by decide +kernel
set_option maxRecDepth 20000 in
theorem ggX2_below_X3_at : GoodIn wsX2_below wsX3_at := goodIn_r _ [5] (by decide +kernel) (by decide +kernel)
set_option maxRecDepth 20000 in
theorem gX2_below_X3_at_n40 : GoodIn wsX2_below (wsX3_at) := ggX2_below_X3_at
theorem dX2_below_0 : decode cX2_below 0 = .ok (.aload_n 0, 1) := by decide +kernel
theorem dX2_below_1 : decode cX2_below 1 = .ok (.getfield 9, 3) := by decide +kernel
theorem dX2_below_4 : decode cX2_below 4 = .ok (.aload_n 0, 1) := by decide +kernel
theorem dX2_below_5 : decode cX2_below 5 = .ok (.getfield 15, 3) := by decide +kernel
theorem dX2_below_8 : decode cX2_below 8 = .ok (.iconst 1, 1) := by decide +kernel
theorem dX2_below_9 : decode cX2_below 9 = .ok (.isub, 1) := by decide +kernel
theorem dX2_below_10 : decode cX2_below 10 = .ok (.iload_n 1, 1) := by decide +kernel
theorem dX2_below_11 : decode cX2_below 11 = .ok (.isub, 1) := by decide +kernel
theorem dX2_below_12 : decode cX2_below 12 = .ok (.invokestatic 40, 3) := by decide +kernel
theorem dX2_below_15 : decode cX2_below 15 = .ok (.ireturn, 1) := by decide +kernel
set_option maxRecDepth 20000 in
theorem ggX3_init_X2_init : GoodIn wsX3_init wsX2_init := goodIn_r _ [17, 18, 2, 3, 19, 20, 21, 39, 40] (by decide +kernel) (by decide +kernel)
set_option maxRecDepth 20000 in
theorem gX3_init_X2_init_n11 : GoodIn wsX3_init (wsX2_init) := ggX3_init_X2_init
set_option maxRecDepth 20000 in
theorem ggX3_init_X0_init : GoodIn wsX3_init wsX0_init := goodIn_r _ [24, 25, 2, 3, 19, 26, 27, 28, 29, 30, 31, 32, 33, 44, 45, 46, 47] (by decide +kernel) (by decide +kernel)
set_option maxRecDepth 20000 in
theorem gX3_init_X0_init : GoodIn wsX3_init (wsX0_init) := ggX3_init_X0_init
set_option maxRecDepth 20000 in
theorem ggX3_init_X1_init : GoodIn wsX3_init wsX1_init := goodIn_r _ [35, 36, 2, 3, 19, 37, 38, 48, 49] (by decide +kernel) (by decide +kernel)
set_option maxRecDepth 20000 in
theorem gX3_init_X1_init_n25 : GoodIn wsX3_init (wsX1_init) := ggX3_init_X1_init
theorem dX3_init_0 : decode cX3_init 0 = .ok (.aload_n 0, 1) := by decide +kernel
theorem dX3_init_1 : decode cX3_init 1 = .ok (.invokespecial 3, 3) := by decide +kernel
theorem dX3_init_4 : decode cX3_init 4 = .ok (.aload_n 0, 1) := by decide +kernel
theorem dX3_init_5 : decode cX3_init 5 = .ok (.new 9, 3) := by decide +kernel
theorem dX3_init_8 : decode cX3_init 8 = .ok (.dup, 1) := by decide +kernel
theorem dX3_init_9 : decode cX3_init 9 = .ok (.invokespecial 11, 3) := by decide +kernel
theorem dX3_init_12 : decode cX3_init 12 = .ok (.putfield 12, 3) := by decide +kernel
theorem dX3_init_15 : decode cX3_init 15 = .ok (.aload_n 0, 1) := by decide +kernel
theorem dX3_init_16 : decode cX3_init 16 = .ok (.new 16, 3) := by decide +kernel
theorem dX3_init_19 : decode cX3_init 19 = .ok (.dup, 1) := by decide +kernel
theorem dX3_init_20 : decode cX3_init 20 = .ok (.invokespecial 18, 3) := by decide +kernel
theorem dX3_init_23 : decode cX3_init 23 = .ok (.putfield 19, 3) := by decide +kernel
theorem dX3_init_26 : decode cX3_init 26 = .ok (.aload_n 0, 1) := by decide +kernel
theorem dX3_init_27 : decode cX3_init 27 = .ok (.new 23, 3) := by decide +kernel
theorem dX3_init_30 : decode cX3_init 30 = .ok (.dup, 1) := by decide +kernel
theorem dX3_init_31 : decode cX3_init 31 = .ok (.invokespecial 25, 3) := by decide +kernel
theorem dX3_init_34 : decode cX3_init 34 = .ok (.putfield 26, 3) := by decide +kernel
theorem dX3_init_37 : decode cX3_init 37 = .ok (.return_, 1) := by decide +kernel
set_option maxRecDepth 20000 in
theorem ggX3_atom_X3_requireAtom : GoodIn wsX3_atom wsX3_requireAtom := goodIn_ca (goodIn_r _ [6, 7, 8, 2] (by decide +kernel) (by decide +kernel)) (goodIn_sub (fun _ h => List.mem_cons_of_mem _ (List.mem_append_left _ (List.mem_append_right _ h))) (by decide +kernel))
set_option maxRecDepth 20000 in
theorem gX3_atom_X3_requireAtom : GoodIn wsX3_atom (va_wsS RX3 30 yX3_requireAtom wsX3_requireAtom) := goodIn_app (goodIn_of _ (by decide +kernel)) ggX3_atom_X3_requireAtom
set_option maxRecDepth 20000 in
theorem ggX3_atom_X3_requirePileRoom : GoodIn wsX3_atom wsX3_requirePileRoom := goodIn_ca (goodIn_r _ [12, 13, 14, 1, 15, 16, 17, 18, 19, 20, 36, 37, 38, 39, 40] (by decide +kernel) (by decide +kernel)) (goodIn_sub (fun _ h => List.mem_cons_of_mem _ (List.mem_append_right _ h)) (by decide +kernel))
set_option maxRecDepth 20000 in
theorem gX3_atom_X3_requirePileRoom : GoodIn wsX3_atom (wsV RX3 34 RX3 yX3_requirePileRoom wsX3_requirePileRoom) := goodIn_app (goodIn_of _ (by decide +kernel)) ggX3_atom_X3_requirePileRoom
set_option maxRecDepth 20000 in
theorem ggX3_atom_X3_at : GoodIn wsX3_atom wsX3_at := goodIn_r _ [23] (by decide +kernel) (by decide +kernel)
set_option maxRecDepth 20000 in
theorem gX3_atom_X3_at : GoodIn wsX3_atom (va_wsS RX3 41 yX3_at wsX3_at) := goodIn_app (goodIn_of _ (by decide +kernel)) ggX3_atom_X3_at
set_option maxRecDepth 20000 in
theorem ggX3_atom_X2_lay : GoodIn wsX3_atom wsX2_lay := goodIn_r _ [27, 28, 20, 29, 16, 17, 18, 19, 30, 5, 31, 39, 40] (by decide +kernel) (by decide +kernel)
set_option maxRecDepth 20000 in
theorem gX3_atom_X2_lay : GoodIn wsX3_atom (wsV RX3 45 RX2 yX2_lay wsX2_lay) := goodIn_app (goodIn_of _ (by decide +kernel)) ggX3_atom_X2_lay
set_option maxRecDepth 20000 in
theorem ggX3_atom_X2_count : GoodIn wsX3_atom wsX2_count := goodIn_r _ [35, 20, 39, 40] (by decide +kernel) (by decide +kernel)
set_option maxRecDepth 20000 in
theorem gX3_atom_X2_count : GoodIn wsX3_atom (wsV RX3 48 RX2 yX2_count wsX2_count) := goodIn_app (goodIn_of _ (by decide +kernel)) ggX3_atom_X2_count
theorem dX3_atom_0 : decode cX3_atom 0 = .ok (.iload_n 1, 1) := by decide +kernel
theorem dX3_atom_1 : decode cX3_atom 1 = .ok (.invokestatic 30, 3) := by decide +kernel
theorem dX3_atom_4 : decode cX3_atom 4 = .ok (.aload_n 0, 1) := by decide +kernel
theorem dX3_atom_5 : decode cX3_atom 5 = .ok (.invokevirtual 34, 3) := by decide +kernel
theorem dX3_atom_8 : decode cX3_atom 8 = .ok (.aload_n 0, 1) := by decide +kernel
theorem dX3_atom_9 : decode cX3_atom 9 = .ok (.getfield 12, 3) := by decide +kernel
theorem dX3_atom_12 : decode cX3_atom 12 = .ok (.getstatic 37, 3) := by decide +kernel
theorem dX3_atom_15 : decode cX3_atom 15 = .ok (.iload_n 1, 1) := by decide +kernel
theorem dX3_atom_16 : decode cX3_atom 16 = .ok (.invokestatic 41, 3) := by decide +kernel
theorem dX3_atom_19 : decode cX3_atom 19 = .ok (.invokevirtual 45, 3) := by decide +kernel
theorem dX3_atom_22 : decode cX3_atom 22 = .ok (.aload_n 0, 1) := by decide +kernel
theorem dX3_atom_23 : decode cX3_atom 23 = .ok (.getfield 12, 3) := by decide +kernel
theorem dX3_atom_26 : decode cX3_atom 26 = .ok (.invokevirtual 48, 3) := by decide +kernel
theorem dX3_atom_29 : decode cX3_atom 29 = .ok (.ireturn, 1) := by decide +kernel
set_option maxRecDepth 20000 in
theorem ggX3_negate_X3_requireTop : GoodIn wsX3_negate wsX3_requireTop := goodIn_ca (goodIn_r _ [6, 7, 8, 1, 9, 10, 11, 12, 13, 14, 15, 16, 17, 18, 19, 20, 5, 21, 48, 49, 50, 51, 52] (by decide +kernel) (by decide +kernel)) (goodIn_sub (fun _ h => List.mem_cons_of_mem _ (List.mem_append_right _ h)) (by decide +kernel))
set_option maxRecDepth 20000 in
theorem gX3_negate_X3_requireTop : GoodIn wsX3_negate (wsV RX3 60 RX3 yX3_requireTop wsX3_requireTop) := goodIn_app (goodIn_of _ (by decide +kernel)) ggX3_negate_X3_requireTop
set_option maxRecDepth 20000 in
theorem ggX3_negate_X3_not : GoodIn wsX3_negate wsX3_not := goodIn_r _ [24, 25] (by decide +kernel) (by decide +kernel)
set_option maxRecDepth 20000 in
theorem gX3_negate_X3_not : GoodIn wsX3_negate (va_wsS RX3 63 yX3_not wsX3_not) := goodIn_app (goodIn_of _ (by decide +kernel)) ggX3_negate_X3_not
set_option maxRecDepth 20000 in
theorem ggX3_negate_X2_replace : GoodIn wsX3_negate wsX2_replace := goodIn_r _ [29, 30, 31, 32, 12, 33, 14, 34, 35, 36, 37, 38, 39, 40, 41, 19, 42, 43, 44, 45, 46, 5, 47, 51, 52] (by decide +kernel) (by decide +kernel)
set_option maxRecDepth 20000 in
theorem gX3_negate_X2_replace : GoodIn wsX3_negate (wsV RX3 66 RX2 yX2_replace wsX2_replace) := goodIn_app (goodIn_of _ (by decide +kernel)) ggX3_negate_X2_replace
theorem dX3_negate_0 : decode cX3_negate 0 = .ok (.aload_n 0, 1) := by decide +kernel
theorem dX3_negate_1 : decode cX3_negate 1 = .ok (.invokevirtual 60, 3) := by decide +kernel
theorem dX3_negate_4 : decode cX3_negate 4 = .ok (.invokestatic 63, 3) := by decide +kernel
theorem dX3_negate_7 : decode cX3_negate 7 = .ok (.istore_n 1, 1) := by decide +kernel
theorem dX3_negate_8 : decode cX3_negate 8 = .ok (.aload_n 0, 1) := by decide +kernel
theorem dX3_negate_9 : decode cX3_negate 9 = .ok (.getfield 12, 3) := by decide +kernel
theorem dX3_negate_12 : decode cX3_negate 12 = .ok (.iconst 1, 1) := by decide +kernel
theorem dX3_negate_13 : decode cX3_negate 13 = .ok (.iload_n 1, 1) := by decide +kernel
theorem dX3_negate_14 : decode cX3_negate 14 = .ok (.invokevirtual 66, 3) := by decide +kernel
theorem dX3_negate_17 : decode cX3_negate 17 = .ok (.iload_n 1, 1) := by decide +kernel
theorem dX3_negate_18 : decode cX3_negate 18 = .ok (.ireturn, 1) := by decide +kernel
set_option maxRecDepth 20000 in
theorem ggX3_join_X3_requireTwo : GoodIn wsX3_join wsX3_requireTwo := goodIn_ca (goodIn_r _ [8, 9, 10, 3, 11, 12, 13, 14, 15, 16, 53, 54, 55, 56, 57] (by decide +kernel) (by decide +kernel)) (goodIn_sub (fun _ h => List.mem_cons_of_mem _ (List.mem_append_right _ h)) (by decide +kernel))
set_option maxRecDepth 20000 in
theorem gX3_join_X3_requireTwo : GoodIn wsX3_join (wsV RX3 77 RX3 yX3_requireTwo wsX3_requireTwo) := goodIn_app (goodIn_of _ (by decide +kernel)) ggX3_join_X3_requireTwo
set_option maxRecDepth 20000 in
theorem ggX3_join_X2_below : GoodIn wsX3_join wsX2_below := goodIn_r _ [20, 21, 16, 22, 7, 23, 56, 57] (by decide +kernel) (by decide +kernel)
set_option maxRecDepth 20000 in
theorem gX3_join_X2_below : GoodIn wsX3_join (wsV RX3 80 RX2 yX2_below wsX2_below) := goodIn_app (goodIn_of _ (by decide +kernel)) ggX3_join_X2_below
set_option maxRecDepth 20000 in
theorem ggX3_join_X3_joined : GoodIn wsX3_join wsX3_joined := goodIn_r _ [26, 27, 28, 7, 29, 30] (by decide +kernel) (by decide +kernel)
set_option maxRecDepth 20000 in
theorem gX3_join_X3_joined : GoodIn wsX3_join (va_wsS RX3 83 yX3_joined wsX3_joined) := goodIn_app (goodIn_of _ (by decide +kernel)) ggX3_join_X3_joined
set_option maxRecDepth 20000 in
theorem ggX3_join_X2_replace : GoodIn wsX3_join wsX2_replace := goodIn_r _ [34, 35, 36, 37, 14, 38, 16, 39, 40, 41, 42, 43, 44, 45, 46, 21, 47, 48, 49, 50, 51, 7, 52, 56, 57] (by decide +kernel) (by decide +kernel)
set_option maxRecDepth 20000 in
theorem gX3_join_X2_replace : GoodIn wsX3_join (wsV RX3 66 RX2 yX2_replace wsX2_replace) := goodIn_app (goodIn_of _ (by decide +kernel)) ggX3_join_X2_replace
theorem dX3_join_0 : decode cX3_join 0 = .ok (.iload_n 1, 1) := by decide +kernel
theorem dX3_join_1 : decode cX3_join 1 = .ok (.ifCond .lt 8, 3) := by decide +kernel
theorem dX3_join_4 : decode cX3_join 4 = .ok (.iload_n 1, 1) := by decide +kernel
theorem dX3_join_5 : decode cX3_join 5 = .ok (.iconst 3, 1) := by decide +kernel
theorem dX3_join_6 : decode cX3_join 6 = .ok (.if_icmp .le 13, 3) := by decide +kernel
theorem dX3_join_9 : decode cX3_join 9 = .ok (.new 70, 3) := by decide +kernel
theorem dX3_join_12 : decode cX3_join 12 = .ok (.dup, 1) := by decide +kernel
theorem dX3_join_13 : decode cX3_join 13 = .ok (.ldc 72, 2) := by decide +kernel
theorem dX3_join_15 : decode cX3_join 15 = .ok (.invokespecial 74, 3) := by decide +kernel
theorem dX3_join_18 : decode cX3_join 18 = .ok (.athrow, 1) := by decide +kernel
theorem dX3_join_19 : decode cX3_join 19 = .ok (.aload_n 0, 1) := by decide +kernel
theorem dX3_join_20 : decode cX3_join 20 = .ok (.invokevirtual 77, 3) := by decide +kernel
theorem dX3_join_23 : decode cX3_join 23 = .ok (.iload_n 1, 1) := by decide +kernel
theorem dX3_join_24 : decode cX3_join 24 = .ok (.aload_n 0, 1) := by decide +kernel
theorem dX3_join_25 : decode cX3_join 25 = .ok (.getfield 12, 3) := by decide +kernel
theorem dX3_join_28 : decode cX3_join 28 = .ok (.iconst 1, 1) := by decide +kernel
theorem dX3_join_29 : decode cX3_join 29 = .ok (.invokevirtual 80, 3) := by decide +kernel
theorem dX3_join_32 : decode cX3_join 32 = .ok (.aload_n 0, 1) := by decide +kernel
theorem dX3_join_33 : decode cX3_join 33 = .ok (.getfield 12, 3) := by decide +kernel
theorem dX3_join_36 : decode cX3_join 36 = .ok (.iconst 0, 1) := by decide +kernel
theorem dX3_join_37 : decode cX3_join 37 = .ok (.invokevirtual 80, 3) := by decide +kernel
theorem dX3_join_40 : decode cX3_join 40 = .ok (.invokestatic 83, 3) := by decide +kernel
theorem dX3_join_43 : decode cX3_join 43 = .ok (.istore_n 2, 1) := by decide +kernel
theorem dX3_join_44 : decode cX3_join 44 = .ok (.aload_n 0, 1) := by decide +kernel
theorem dX3_join_45 : decode cX3_join 45 = .ok (.getfield 12, 3) := by decide +kernel
theorem dX3_join_48 : decode cX3_join 48 = .ok (.iconst 2, 1) := by decide +kernel
theorem dX3_join_49 : decode cX3_join 49 = .ok (.iload_n 2, 1) := by decide +kernel
theorem dX3_join_50 : decode cX3_join 50 = .ok (.invokevirtual 66, 3) := by decide +kernel
theorem dX3_join_53 : decode cX3_join 53 = .ok (.iload_n 2, 1) := by decide +kernel
theorem dX3_join_54 : decode cX3_join 54 = .ok (.ireturn, 1) := by decide +kernel
set_option maxRecDepth 20000 in
theorem ggX3_pop_X3_requireTop : GoodIn wsX3_pop wsX3_requireTop := goodIn_ca (goodIn_r _ [6, 7, 8, 1, 9, 10, 11, 12, 13, 14, 15, 16, 17, 18, 19, 20, 5, 21, 30, 31, 32, 33, 34] (by decide +kernel) (by decide +kernel)) (goodIn_sub (fun _ h => List.mem_cons_of_mem _ (List.mem_append_right _ h)) (by decide +kernel))
set_option maxRecDepth 20000 in
theorem gX3_pop_X3_requireTop : GoodIn wsX3_pop (wsV RX3 60 RX3 yX3_requireTop wsX3_requireTop) := goodIn_app (goodIn_of _ (by decide +kernel)) ggX3_pop_X3_requireTop
set_option maxRecDepth 20000 in
theorem ggX3_pop_X2_take : GoodIn wsX3_pop wsX2_take := goodIn_r _ [25, 14, 26, 27, 28, 29, 33, 34] (by decide +kernel) (by decide +kernel)
set_option maxRecDepth 20000 in
theorem gX3_pop_X2_take : GoodIn wsX3_pop (wsV RX3 87 RX2 yX2_take wsX2_take) := goodIn_app (goodIn_of _ (by decide +kernel)) ggX3_pop_X2_take
set_option maxRecDepth 20000 in
theorem ggX3_pop_X2_count : GoodIn wsX3_pop wsX2_count := goodIn_r _ [13, 14, 33, 34] (by decide +kernel) (by decide +kernel)
set_option maxRecDepth 20000 in
theorem gX3_pop_X2_count : GoodIn wsX3_pop (wsV RX3 48 RX2 yX2_count wsX2_count) := goodIn_app (goodIn_of _ (by decide +kernel)) ggX3_pop_X2_count
theorem dX3_pop_0 : decode cX3_pop 0 = .ok (.aload_n 0, 1) := by decide +kernel
theorem dX3_pop_1 : decode cX3_pop 1 = .ok (.invokevirtual 60, 3) := by decide +kernel
theorem dX3_pop_4 : decode cX3_pop 4 = .ok (.pop, 1) := by decide +kernel
theorem dX3_pop_5 : decode cX3_pop 5 = .ok (.aload_n 0, 1) := by decide +kernel
theorem dX3_pop_6 : decode cX3_pop 6 = .ok (.getfield 12, 3) := by decide +kernel
theorem dX3_pop_9 : decode cX3_pop 9 = .ok (.iconst 1, 1) := by decide +kernel
theorem dX3_pop_10 : decode cX3_pop 10 = .ok (.invokevirtual 87, 3) := by decide +kernel
theorem dX3_pop_13 : decode cX3_pop 13 = .ok (.aload_n 0, 1) := by decide +kernel
theorem dX3_pop_14 : decode cX3_pop 14 = .ok (.getfield 12, 3) := by decide +kernel
theorem dX3_pop_17 : decode cX3_pop 17 = .ok (.invokevirtual 48, 3) := by decide +kernel
theorem dX3_pop_20 : decode cX3_pop 20 = .ok (.ireturn, 1) := by decide +kernel
set_option maxRecDepth 20000 in
theorem ggX3_height_X2_count : GoodIn wsX3_height wsX2_count := goodIn_r _ [6, 7, 11, 12] (by decide +kernel) (by decide +kernel)
set_option maxRecDepth 20000 in
theorem gX3_height_X2_count : GoodIn wsX3_height (wsV RX3 48 RX2 yX2_count wsX2_count) := goodIn_app (goodIn_of _ (by decide +kernel)) ggX3_height_X2_count
theorem dX3_height_0 : decode cX3_height 0 = .ok (.aload_n 0, 1) := by decide +kernel
theorem dX3_height_1 : decode cX3_height 1 = .ok (.getfield 12, 3) := by decide +kernel
theorem dX3_height_4 : decode cX3_height 4 = .ok (.invokevirtual 48, 3) := by decide +kernel
theorem dX3_height_7 : decode cX3_height 7 = .ok (.ireturn, 1) := by decide +kernel
set_option maxRecDepth 20000 in
theorem ggX3_top_X3_requireTop : GoodIn wsX3_top wsX3_requireTop := goodIn_ca (goodIn_r _ [5, 6, 7, 8, 9, 10, 11, 12, 13, 14, 15, 16, 17, 18, 19, 20, 4, 21, 22, 23, 24, 25, 26] (by decide +kernel) (by decide +kernel)) (goodIn_sub (fun _ h => List.mem_cons_of_mem _ (List.mem_append_right _ h)) (by decide +kernel))
set_option maxRecDepth 20000 in
theorem gX3_top_X3_requireTop : GoodIn wsX3_top (wsV RX3 60 RX3 yX3_requireTop wsX3_requireTop) := goodIn_app (goodIn_of _ (by decide +kernel)) ggX3_top_X3_requireTop
theorem dX3_top_0 : decode cX3_top 0 = .ok (.aload_n 0, 1) := by decide +kernel
theorem dX3_top_1 : decode cX3_top 1 = .ok (.invokevirtual 60, 3) := by decide +kernel
theorem dX3_top_4 : decode cX3_top 4 = .ok (.ireturn, 1) := by decide +kernel
set_option maxRecDepth 20000 in
theorem ggX3_add_X3_requireRank : GoodIn wsX3_add wsX3_requireRank := goodIn_ca (goodIn_r _ [7, 8, 9] (by decide +kernel) (by decide +kernel)) (goodIn_sub (fun _ h => List.mem_cons_of_mem _ (List.mem_append_right _ h)) (by decide +kernel))
set_option maxRecDepth 20000 in
theorem gX3_add_X3_requireRank : GoodIn wsX3_add (va_wsS RX3 90 yX3_requireRank wsX3_requireRank) := goodIn_app (goodIn_of _ (by decide +kernel)) ggX3_add_X3_requireRank
set_option maxRecDepth 20000 in
theorem ggX3_add_X3_requireTop : GoodIn wsX3_add wsX3_requireTop := goodIn_ca (goodIn_r _ [13, 1, 2, 14, 15, 16, 17, 18, 19, 20, 21, 22, 23, 24, 25, 26, 6, 27, 52, 53, 54, 55, 56] (by decide +kernel) (by decide +kernel)) (goodIn_sub (fun _ h => List.mem_cons_of_mem _ (List.mem_append_left _ (List.mem_append_right _ h))) (by decide +kernel))
set_option maxRecDepth 20000 in
theorem gX3_add_X3_requireTop : GoodIn wsX3_add (wsV RX3 60 RX3 yX3_requireTop wsX3_requireTop) := goodIn_app (goodIn_of _ (by decide +kernel)) ggX3_add_X3_requireTop
set_option maxRecDepth 20000 in
theorem ggX3_add_X0_isFull : GoodIn wsX3_add wsX0_isFull := goodIn_r _ [32, 33, 57, 58, 59, 60] (by decide +kernel) (by decide +kernel)
set_option maxRecDepth 20000 in
theorem gX3_add_X0_isFull : GoodIn wsX3_add (wsV RX3 93 RX0 yX0_isFull wsX0_isFull) := goodIn_app (goodIn_of _ (by decide +kernel)) ggX3_add_X0_isFull
set_option maxRecDepth 20000 in
theorem ggX3_add_X0_include : GoodIn wsX3_add wsX0_include := goodIn_r _ [37, 38, 33, 39, 40, 41, 29, 30, 31, 32, 42, 6, 43, 44, 45, 46, 47, 26, 27, 57, 58, 59, 60] (by decide +kernel) (by decide +kernel)
set_option maxRecDepth 20000 in
theorem gX3_add_X0_include : GoodIn wsX3_add (wsV RX3 102 RX0 yX0_include wsX0_include) := goodIn_app (goodIn_of _ (by decide +kernel)) ggX3_add_X0_include
set_option maxRecDepth 20000 in
theorem ggX3_add_X0_count : GoodIn wsX3_add wsX0_count := goodIn_r _ [51, 33, 57, 58, 59, 60] (by decide +kernel) (by decide +kernel)
set_option maxRecDepth 20000 in
theorem gX3_add_X0_count : GoodIn wsX3_add (wsV RX3 105 RX0 yX0_count wsX0_count) := goodIn_app (goodIn_of _ (by decide +kernel)) ggX3_add_X0_count
theorem dX3_add_0 : decode cX3_add 0 = .ok (.iload_n 1, 1) := by decide +kernel
theorem dX3_add_1 : decode cX3_add 1 = .ok (.invokestatic 90, 3) := by decide +kernel
theorem dX3_add_4 : decode cX3_add 4 = .ok (.aload_n 0, 1) := by decide +kernel
theorem dX3_add_5 : decode cX3_add 5 = .ok (.invokevirtual 60, 3) := by decide +kernel
theorem dX3_add_8 : decode cX3_add 8 = .ok (.istore_n 2, 1) := by decide +kernel
theorem dX3_add_9 : decode cX3_add 9 = .ok (.aload_n 0, 1) := by decide +kernel
theorem dX3_add_10 : decode cX3_add 10 = .ok (.getfield 19, 3) := by decide +kernel
theorem dX3_add_13 : decode cX3_add 13 = .ok (.invokevirtual 93, 3) := by decide +kernel
theorem dX3_add_16 : decode cX3_add 16 = .ok (.ifCond .eq 13, 3) := by decide +kernel
theorem dX3_add_19 : decode cX3_add 19 = .ok (.new 97, 3) := by decide +kernel
theorem dX3_add_22 : decode cX3_add 22 = .ok (.dup, 1) := by decide +kernel
theorem dX3_add_23 : decode cX3_add 23 = .ok (.ldc 99, 2) := by decide +kernel
theorem dX3_add_25 : decode cX3_add 25 = .ok (.invokespecial 101, 3) := by decide +kernel
theorem dX3_add_28 : decode cX3_add 28 = .ok (.athrow, 1) := by decide +kernel
theorem dX3_add_29 : decode cX3_add 29 = .ok (.aload_n 0, 1) := by decide +kernel
theorem dX3_add_30 : decode cX3_add 30 = .ok (.getfield 19, 3) := by decide +kernel
theorem dX3_add_33 : decode cX3_add 33 = .ok (.iload_n 2, 1) := by decide +kernel
theorem dX3_add_34 : decode cX3_add 34 = .ok (.iload_n 1, 1) := by decide +kernel
theorem dX3_add_35 : decode cX3_add 35 = .ok (.invokevirtual 102, 3) := by decide +kernel
theorem dX3_add_38 : decode cX3_add 38 = .ok (.aload_n 0, 1) := by decide +kernel
theorem dX3_add_39 : decode cX3_add 39 = .ok (.getfield 19, 3) := by decide +kernel
theorem dX3_add_42 : decode cX3_add 42 = .ok (.invokevirtual 105, 3) := by decide +kernel
theorem dX3_add_45 : decode cX3_add 45 = .ok (.iconst 1, 1) := by decide +kernel
theorem dX3_add_46 : decode cX3_add 46 = .ok (.isub, 1) := by decide +kernel
theorem dX3_add_47 : decode cX3_add 47 = .ok (.ireturn, 1) := by decide +kernel
set_option maxRecDepth 20000 in
theorem ggX3_size_X0_count : GoodIn wsX3_size wsX0_count := goodIn_r _ [6, 7, 11, 12, 13, 14] (by decide +kernel) (by decide +kernel)
set_option maxRecDepth 20000 in
theorem gX3_size_X0_count : GoodIn wsX3_size (wsV RX3 105 RX0 yX0_count wsX0_count) := goodIn_app (goodIn_of _ (by decide +kernel)) ggX3_size_X0_count
theorem dX3_size_0 : decode cX3_size 0 = .ok (.aload_n 0, 1) := by decide +kernel
theorem dX3_size_1 : decode cX3_size 1 = .ok (.getfield 19, 3) := by decide +kernel
theorem dX3_size_4 : decode cX3_size 4 = .ok (.invokevirtual 105, 3) := by decide +kernel
theorem dX3_size_7 : decode cX3_size 7 = .ok (.ireturn, 1) := by decide +kernel
set_option maxRecDepth 20000 in
theorem ggX3_worlds_X3_requireSet : GoodIn wsX3_worlds wsX3_requireSet := goodIn_ca (goodIn_r _ [6, 7, 8, 1, 9, 10, 11, 12, 13, 14, 22, 23, 24, 25, 26, 27, 28] (by decide +kernel) (by decide +kernel)) (goodIn_sub (fun _ h => List.mem_cons_of_mem _ (List.mem_append_right _ h)) (by decide +kernel))
set_option maxRecDepth 20000 in
theorem gX3_worlds_X3_requireSet : GoodIn wsX3_worlds (wsV RX3 117 RX3 yX3_requireSet wsX3_requireSet) := goodIn_app (goodIn_of _ (by decide +kernel)) ggX3_worlds_X3_requireSet
set_option maxRecDepth 20000 in
theorem ggX3_worlds_X0_meetOf : GoodIn wsX3_worlds wsX0_meetOf := goodIn_r _ [18, 19, 20, 5, 21, 25, 26, 27, 28] (by decide +kernel) (by decide +kernel)
set_option maxRecDepth 20000 in
theorem gX3_worlds_X0_meetOf : GoodIn wsX3_worlds (wsV RX3 123 RX0 yX0_meetOf wsX0_meetOf) := goodIn_app (goodIn_of _ (by decide +kernel)) ggX3_worlds_X0_meetOf
theorem dX3_worlds_0 : decode cX3_worlds 0 = .ok (.aload_n 0, 1) := by decide +kernel
theorem dX3_worlds_1 : decode cX3_worlds 1 = .ok (.iload_n 1, 1) := by decide +kernel
theorem dX3_worlds_2 : decode cX3_worlds 2 = .ok (.invokevirtual 117, 3) := by decide +kernel
theorem dX3_worlds_5 : decode cX3_worlds 5 = .ok (.aload_n 0, 1) := by decide +kernel
theorem dX3_worlds_6 : decode cX3_worlds 6 = .ok (.getfield 19, 3) := by decide +kernel
theorem dX3_worlds_9 : decode cX3_worlds 9 = .ok (.iload_n 1, 1) := by decide +kernel
theorem dX3_worlds_10 : decode cX3_worlds 10 = .ok (.invokevirtual 123, 3) := by decide +kernel
theorem dX3_worlds_13 : decode cX3_worlds 13 = .ok (.ireturn, 1) := by decide +kernel
set_option maxRecDepth 20000 in
theorem ggX3_entails_X3_requireTop : GoodIn wsX3_entails wsX3_requireTop := goodIn_ca (goodIn_r _ [6, 7, 8, 9, 10, 11, 12, 13, 14, 15, 16, 17, 18, 19, 20, 21, 5, 22, 43, 44, 45, 46, 47] (by decide +kernel) (by decide +kernel)) (goodIn_sub (fun _ h => List.mem_cons_of_mem _ (List.mem_append_left _ (List.mem_append_right _ h))) (by decide +kernel))
set_option maxRecDepth 20000 in
theorem gX3_entails_X3_requireTop : GoodIn wsX3_entails (wsV RX3 60 RX3 yX3_requireTop wsX3_requireTop) := goodIn_app (goodIn_of _ (by decide +kernel)) ggX3_entails_X3_requireTop
set_option maxRecDepth 20000 in
theorem ggX3_entails_X3_requireSet : GoodIn wsX3_entails wsX3_requireSet := goodIn_ca (goodIn_r _ [26, 27, 28, 1, 29, 30, 31, 32, 33, 34, 43, 44, 45, 48, 49, 50, 51] (by decide +kernel) (by decide +kernel)) (goodIn_sub (fun _ h => List.mem_cons_of_mem _ (List.mem_append_right _ h)) (by decide +kernel))
set_option maxRecDepth 20000 in
theorem gX3_entails_X3_requireSet : GoodIn wsX3_entails (wsV RX3 117 RX3 yX3_requireSet wsX3_requireSet) := goodIn_app (goodIn_of _ (by decide +kernel)) ggX3_entails_X3_requireSet
set_option maxRecDepth 20000 in
theorem ggX3_entails_X0_reaches : GoodIn wsX3_entails wsX0_reaches := goodIn_r _ [38, 39, 21, 5, 22, 40, 41, 42, 48, 49, 50, 51] (by decide +kernel) (by decide +kernel)
set_option maxRecDepth 20000 in
theorem gX3_entails_X0_reaches : GoodIn wsX3_entails (wsV RX3 126 RX0 yX0_reaches wsX0_reaches) := goodIn_app (goodIn_of _ (by decide +kernel)) ggX3_entails_X0_reaches
theorem dX3_entails_0 : decode cX3_entails 0 = .ok (.aload_n 0, 1) := by decide +kernel
theorem dX3_entails_1 : decode cX3_entails 1 = .ok (.invokevirtual 60, 3) := by decide +kernel
theorem dX3_entails_4 : decode cX3_entails 4 = .ok (.istore_n 2, 1) := by decide +kernel
theorem dX3_entails_5 : decode cX3_entails 5 = .ok (.aload_n 0, 1) := by decide +kernel
theorem dX3_entails_6 : decode cX3_entails 6 = .ok (.iload_n 1, 1) := by decide +kernel
theorem dX3_entails_7 : decode cX3_entails 7 = .ok (.invokevirtual 117, 3) := by decide +kernel
theorem dX3_entails_10 : decode cX3_entails 10 = .ok (.aload_n 0, 1) := by decide +kernel
theorem dX3_entails_11 : decode cX3_entails 11 = .ok (.getfield 19, 3) := by decide +kernel
theorem dX3_entails_14 : decode cX3_entails 14 = .ok (.iload_n 1, 1) := by decide +kernel
theorem dX3_entails_15 : decode cX3_entails 15 = .ok (.iload_n 2, 1) := by decide +kernel
theorem dX3_entails_16 : decode cX3_entails 16 = .ok (.invokevirtual 126, 3) := by decide +kernel
theorem dX3_entails_19 : decode cX3_entails 19 = .ok (.ireturn, 1) := by decide +kernel
set_option maxRecDepth 20000 in
theorem ggX3_kernels_X3_requireTop : GoodIn wsX3_kernels wsX3_requireTop := goodIn_ca (goodIn_r _ [6, 7, 8, 9, 10, 11, 12, 13, 14, 15, 16, 17, 18, 19, 20, 21, 5, 22, 55, 56, 57, 58, 59] (by decide +kernel) (by decide +kernel)) (goodIn_sub (fun _ h => List.mem_cons_of_mem _ (List.mem_append_right _ h)) (by decide +kernel))
set_option maxRecDepth 20000 in
theorem gX3_kernels_X3_requireTop : GoodIn wsX3_kernels (wsV RX3 60 RX3 yX3_requireTop wsX3_requireTop) := goodIn_app (goodIn_of _ (by decide +kernel)) ggX3_kernels_X3_requireTop
set_option maxRecDepth 20000 in
theorem ggX3_kernels_X0_countFound : GoodIn wsX3_kernels wsX0_countFound := goodIn_r _ [27, 28, 29, 30, 26, 31, 32, 33, 34, 35, 36, 37, 38, 39, 40, 41, 42, 43, 44, 45, 21, 5, 22, 46, 47, 48, 49, 50, 51, 52, 53, 54, 60, 61, 62, 63] (by decide +kernel) (by decide +kernel)
set_option maxRecDepth 20000 in
theorem gX3_kernels_X0_countFound : GoodIn wsX3_kernels (wsV RX3 130 RX0 yX0_countFound wsX0_countFound) := goodIn_app (goodIn_of _ (by decide +kernel)) ggX3_kernels_X0_countFound
theorem dX3_kernels_0 : decode cX3_kernels 0 = .ok (.aload_n 0, 1) := by decide +kernel
theorem dX3_kernels_1 : decode cX3_kernels 1 = .ok (.getfield 19, 3) := by decide +kernel
theorem dX3_kernels_4 : decode cX3_kernels 4 = .ok (.iconst 1, 1) := by decide +kernel
theorem dX3_kernels_5 : decode cX3_kernels 5 = .ok (.aload_n 0, 1) := by decide +kernel
theorem dX3_kernels_6 : decode cX3_kernels 6 = .ok (.invokevirtual 60, 3) := by decide +kernel
theorem dX3_kernels_9 : decode cX3_kernels 9 = .ok (.invokevirtual 130, 3) := by decide +kernel
theorem dX3_kernels_12 : decode cX3_kernels 12 = .ok (.ireturn, 1) := by decide +kernel
set_option maxRecDepth 20000 in
theorem ggX3_kernel_X3_requireTop : GoodIn wsX3_kernel wsX3_requireTop := goodIn_ca (goodIn_r _ [5, 6, 7, 8, 9, 10, 11, 12, 13, 14, 15, 16, 17, 18, 19, 20, 4, 21, 61, 62, 63, 64, 65] (by decide +kernel) (by decide +kernel)) (goodIn_sub (fun _ h => List.mem_cons_of_mem _ (List.mem_append_left _ (List.mem_append_right _ h))) (by decide +kernel))
set_option maxRecDepth 20000 in
theorem gX3_kernel_X3_requireTop : GoodIn wsX3_kernel (wsV RX3 60 RX3 yX3_requireTop wsX3_requireTop) := goodIn_app (goodIn_of _ (by decide +kernel)) ggX3_kernel_X3_requireTop
set_option maxRecDepth 20000 in
theorem ggX3_kernel_X3_requireFound : GoodIn wsX3_kernel wsX3_requireFound := goodIn_ca (goodIn_r _ [25, 26, 27, 28, 29, 30, 31, 32, 33, 34, 35, 36, 37, 38, 39, 40, 41, 42, 43, 44, 45, 46, 47, 48, 49, 50, 51, 20, 4, 21, 52, 53, 54, 55, 56, 57, 58, 59, 60, 61, 62, 63, 66, 67, 68, 69] (by decide +kernel) (by decide +kernel)) (goodIn_sub (fun _ h => List.mem_cons_of_mem _ (List.mem_append_right _ h)) (by decide +kernel))
set_option maxRecDepth 20000 in
theorem gX3_kernel_X3_requireFound : GoodIn wsX3_kernel (wsV RX3 134 RX3 yX3_requireFound wsX3_requireFound) := goodIn_app (goodIn_of _ (by decide +kernel)) ggX3_kernel_X3_requireFound
theorem dX3_kernel_0 : decode cX3_kernel 0 = .ok (.aload_n 0, 1) := by decide +kernel
theorem dX3_kernel_1 : decode cX3_kernel 1 = .ok (.iconst 1, 1) := by decide +kernel
theorem dX3_kernel_2 : decode cX3_kernel 2 = .ok (.aload_n 0, 1) := by decide +kernel
theorem dX3_kernel_3 : decode cX3_kernel 3 = .ok (.invokevirtual 60, 3) := by decide +kernel
theorem dX3_kernel_6 : decode cX3_kernel 6 = .ok (.iload_n 1, 1) := by decide +kernel
theorem dX3_kernel_7 : decode cX3_kernel 7 = .ok (.invokevirtual 134, 3) := by decide +kernel
theorem dX3_kernel_10 : decode cX3_kernel 10 = .ok (.ireturn, 1) := by decide +kernel
set_option maxRecDepth 20000 in
theorem ggX3_remainders_X3_requireTop : GoodIn wsX3_remainders wsX3_requireTop := goodIn_ca (goodIn_r _ [6, 7, 8, 9, 10, 11, 12, 13, 14, 15, 16, 17, 18, 19, 20, 21, 5, 22, 55, 56, 57, 58, 59] (by decide +kernel) (by decide +kernel)) (goodIn_sub (fun _ h => List.mem_cons_of_mem _ (List.mem_append_right _ h)) (by decide +kernel))
set_option maxRecDepth 20000 in
theorem gX3_remainders_X3_requireTop : GoodIn wsX3_remainders (wsV RX3 60 RX3 yX3_requireTop wsX3_requireTop) := goodIn_app (goodIn_of _ (by decide +kernel)) ggX3_remainders_X3_requireTop
set_option maxRecDepth 20000 in
theorem ggX3_remainders_X0_countFound : GoodIn wsX3_remainders wsX0_countFound := goodIn_r _ [27, 28, 29, 30, 26, 31, 32, 33, 34, 35, 36, 37, 38, 39, 40, 41, 42, 43, 44, 45, 21, 5, 22, 46, 47, 48, 49, 50, 51, 52, 53, 54, 60, 61, 62, 63] (by decide +kernel) (by decide +kernel)
set_option maxRecDepth 20000 in
theorem gX3_remainders_X0_countFound : GoodIn wsX3_remainders (wsV RX3 130 RX0 yX0_countFound wsX0_countFound) := goodIn_app (goodIn_of _ (by decide +kernel)) ggX3_remainders_X0_countFound
theorem dX3_remainders_0 : decode cX3_remainders 0 = .ok (.aload_n 0, 1) := by decide +kernel
theorem dX3_remainders_1 : decode cX3_remainders 1 = .ok (.getfield 19, 3) := by decide +kernel
theorem dX3_remainders_4 : decode cX3_remainders 4 = .ok (.iconst 0, 1) := by decide +kernel
theorem dX3_remainders_5 : decode cX3_remainders 5 = .ok (.aload_n 0, 1) := by decide +kernel
theorem dX3_remainders_6 : decode cX3_remainders 6 = .ok (.invokevirtual 60, 3) := by decide +kernel
theorem dX3_remainders_9 : decode cX3_remainders 9 = .ok (.invokevirtual 130, 3) := by decide +kernel
theorem dX3_remainders_12 : decode cX3_remainders 12 = .ok (.ireturn, 1) := by decide +kernel
set_option maxRecDepth 20000 in
theorem ggX3_remainder_X3_requireTop : GoodIn wsX3_remainder wsX3_requireTop := goodIn_ca (goodIn_r _ [5, 6, 7, 8, 9, 10, 11, 12, 13, 14, 15, 16, 17, 18, 19, 20, 4, 21, 61, 62, 63, 64, 65] (by decide +kernel) (by decide +kernel)) (goodIn_sub (fun _ h => List.mem_cons_of_mem _ (List.mem_append_left _ (List.mem_append_right _ h))) (by decide +kernel))
set_option maxRecDepth 20000 in
theorem gX3_remainder_X3_requireTop : GoodIn wsX3_remainder (wsV RX3 60 RX3 yX3_requireTop wsX3_requireTop) := goodIn_app (goodIn_of _ (by decide +kernel)) ggX3_remainder_X3_requireTop
set_option maxRecDepth 20000 in
theorem ggX3_remainder_X3_requireFound : GoodIn wsX3_remainder wsX3_requireFound := goodIn_ca (goodIn_r _ [25, 26, 27, 28, 29, 30, 31, 32, 33, 34, 35, 36, 37, 38, 39, 40, 41, 42, 43, 44, 45, 46, 47, 48, 49, 50, 51, 20, 4, 21, 52, 53, 54, 55, 56, 57, 58, 59, 60, 61, 62, 63, 66, 67, 68, 69] (by decide +kernel) (by decide +kernel)) (goodIn_sub (fun _ h => List.mem_cons_of_mem _ (List.mem_append_right _ h)) (by decide +kernel))
set_option maxRecDepth 20000 in
theorem gX3_remainder_X3_requireFound : GoodIn wsX3_remainder (wsV RX3 134 RX3 yX3_requireFound wsX3_requireFound) := goodIn_app (goodIn_of _ (by decide +kernel)) ggX3_remainder_X3_requireFound
theorem dX3_remainder_0 : decode cX3_remainder 0 = .ok (.aload_n 0, 1) := by decide +kernel
theorem dX3_remainder_1 : decode cX3_remainder 1 = .ok (.iconst 0, 1) := by decide +kernel
theorem dX3_remainder_2 : decode cX3_remainder 2 = .ok (.aload_n 0, 1) := by decide +kernel
theorem dX3_remainder_3 : decode cX3_remainder 3 = .ok (.invokevirtual 60, 3) := by decide +kernel
theorem dX3_remainder_6 : decode cX3_remainder 6 = .ok (.iload_n 1, 1) := by decide +kernel
theorem dX3_remainder_7 : decode cX3_remainder 7 = .ok (.invokevirtual 134, 3) := by decide +kernel
theorem dX3_remainder_10 : decode cX3_remainder 10 = .ok (.ireturn, 1) := by decide +kernel
set_option maxRecDepth 20000 in
theorem ggX3_bestRemainder_X3_requireTop : GoodIn wsX3_bestRemainder wsX3_requireTop := goodIn_ca (goodIn_r _ [6, 7, 8, 9, 10, 11, 12, 13, 14, 15, 16, 17, 18, 19, 20, 21, 5, 22, 56, 57, 58, 59, 60] (by decide +kernel) (by decide +kernel)) (goodIn_sub (fun _ h => List.mem_cons_of_mem _ (List.mem_append_right _ h)) (by decide +kernel))
set_option maxRecDepth 20000 in
theorem gX3_bestRemainder_X3_requireTop : GoodIn wsX3_bestRemainder (wsV RX3 60 RX3 yX3_requireTop wsX3_requireTop) := goodIn_app (goodIn_of _ (by decide +kernel)) ggX3_bestRemainder_X3_requireTop
set_option maxRecDepth 20000 in
theorem ggX3_bestRemainder_X0_heaviestRemainder : GoodIn wsX3_bestRemainder wsX0_heaviestRemainder := goodIn_r _ [27, 28, 29, 30, 26, 31, 32, 33, 34, 35, 36, 37, 38, 39, 40, 41, 21, 5, 22, 42, 43, 44, 45, 46, 47, 48, 49, 50, 51, 52, 53, 54, 55, 61, 62, 63, 64] (by decide +kernel) (by decide +kernel)
set_option maxRecDepth 20000 in
theorem gX3_bestRemainder_X0_heaviestRemainder : GoodIn wsX3_bestRemainder (wsV RX3 138 RX0 yX0_heaviestRemainder wsX0_heaviestRemainder) := goodIn_app (goodIn_of _ (by decide +kernel)) ggX3_bestRemainder_X0_heaviestRemainder
theorem dX3_bestRemainder_0 : decode cX3_bestRemainder 0 = .ok (.aload_n 0, 1) := by decide +kernel
theorem dX3_bestRemainder_1 : decode cX3_bestRemainder 1 = .ok (.getfield 19, 3) := by decide +kernel
theorem dX3_bestRemainder_4 : decode cX3_bestRemainder 4 = .ok (.aload_n 0, 1) := by decide +kernel
theorem dX3_bestRemainder_5 : decode cX3_bestRemainder 5 = .ok (.invokevirtual 60, 3) := by decide +kernel
theorem dX3_bestRemainder_8 : decode cX3_bestRemainder 8 = .ok (.invokevirtual 138, 3) := by decide +kernel
theorem dX3_bestRemainder_11 : decode cX3_bestRemainder 11 = .ok (.ireturn, 1) := by decide +kernel
set_option maxRecDepth 20000 in
theorem ggX3_cut_X3_requireTop : GoodIn wsX3_cut wsX3_requireTop := goodIn_ca (goodIn_r _ [6, 7, 8, 9, 10, 11, 12, 13, 14, 15, 16, 17, 18, 19, 20, 21, 5, 22, 64, 65, 66, 67, 68] (by decide +kernel) (by decide +kernel)) (goodIn_sub (fun _ h => List.mem_cons_of_mem _ (List.mem_append_right _ h)) (by decide +kernel))
set_option maxRecDepth 20000 in
theorem gX3_cut_X3_requireTop : GoodIn wsX3_cut (wsV RX3 60 RX3 yX3_requireTop wsX3_requireTop) := goodIn_app (goodIn_of _ (by decide +kernel)) ggX3_cut_X3_requireTop
set_option maxRecDepth 20000 in
theorem ggX3_cut_X0_cutFor : GoodIn wsX3_cut wsX0_cutFor := goodIn_r _ [27, 28, 29, 30, 26, 31, 32, 33, 34, 35, 36, 37, 38, 39, 40, 41, 21, 5, 22, 42, 43, 44, 45, 46, 47, 48, 49, 50, 51, 52, 53, 54, 55, 56, 57, 58, 59, 60, 61, 62, 63, 69, 70, 71, 72] (by decide +kernel) (by decide +kernel)
set_option maxRecDepth 20000 in
theorem gX3_cut_X0_cutFor : GoodIn wsX3_cut (wsV RX3 141 RX0 yX0_cutFor wsX0_cutFor) := goodIn_app (goodIn_of _ (by decide +kernel)) ggX3_cut_X0_cutFor
theorem dX3_cut_0 : decode cX3_cut 0 = .ok (.aload_n 0, 1) := by decide +kernel
theorem dX3_cut_1 : decode cX3_cut 1 = .ok (.getfield 19, 3) := by decide +kernel
theorem dX3_cut_4 : decode cX3_cut 4 = .ok (.aload_n 0, 1) := by decide +kernel
theorem dX3_cut_5 : decode cX3_cut 5 = .ok (.invokevirtual 60, 3) := by decide +kernel
theorem dX3_cut_8 : decode cX3_cut 8 = .ok (.invokevirtual 141, 3) := by decide +kernel
theorem dX3_cut_11 : decode cX3_cut 11 = .ok (.ireturn, 1) := by decide +kernel
set_option maxRecDepth 20000 in
theorem ggX3_degree_X3_requireTop : GoodIn wsX3_degree wsX3_requireTop := goodIn_ca (goodIn_r _ [6, 7, 8, 9, 10, 11, 12, 13, 14, 15, 16, 17, 18, 19, 20, 21, 5, 22, 47, 48, 49, 50, 51] (by decide +kernel) (by decide +kernel)) (goodIn_sub (fun _ h => List.mem_cons_of_mem _ (List.mem_append_right _ h)) (by decide +kernel))
set_option maxRecDepth 20000 in
theorem gX3_degree_X3_requireTop : GoodIn wsX3_degree (wsV RX3 60 RX3 yX3_requireTop wsX3_requireTop) := goodIn_app (goodIn_of _ (by decide +kernel)) ggX3_degree_X3_requireTop
set_option maxRecDepth 20000 in
theorem ggX3_degree_X0_degreeOf : GoodIn wsX3_degree wsX0_degreeOf := goodIn_r _ [27, 28, 29, 30, 31, 26, 32, 33, 34, 35, 36, 37, 38, 21, 5, 22, 39, 40, 41, 42, 43, 44, 45, 46, 52, 53, 54, 55] (by decide +kernel) (by decide +kernel)
set_option maxRecDepth 20000 in
theorem gX3_degree_X0_degreeOf : GoodIn wsX3_degree (wsV RX3 144 RX0 yX0_degreeOf wsX0_degreeOf) := goodIn_app (goodIn_of _ (by decide +kernel)) ggX3_degree_X0_degreeOf
theorem dX3_degree_0 : decode cX3_degree 0 = .ok (.aload_n 0, 1) := by decide +kernel
theorem dX3_degree_1 : decode cX3_degree 1 = .ok (.getfield 19, 3) := by decide +kernel
theorem dX3_degree_4 : decode cX3_degree 4 = .ok (.aload_n 0, 1) := by decide +kernel
theorem dX3_degree_5 : decode cX3_degree 5 = .ok (.invokevirtual 60, 3) := by decide +kernel
theorem dX3_degree_8 : decode cX3_degree 8 = .ok (.invokevirtual 144, 3) := by decide +kernel
theorem dX3_degree_11 : decode cX3_degree 11 = .ok (.ireturn, 1) := by decide +kernel
set_option maxRecDepth 20000 in
theorem ggX3_conflict_X0_degreeOf : GoodIn wsX3_conflict wsX0_degreeOf := goodIn_r _ [6, 7, 8, 9, 10, 5, 11, 12, 13, 14, 15, 16, 17, 18, 19, 20, 21, 22, 23, 24, 25, 26, 27, 28, 32, 33, 34, 35] (by decide +kernel) (by decide +kernel)
set_option maxRecDepth 20000 in
theorem gX3_conflict_X0_degreeOf : GoodIn wsX3_conflict (wsV RX3 144 RX0 yX0_degreeOf wsX0_degreeOf) := goodIn_app (goodIn_of _ (by decide +kernel)) ggX3_conflict_X0_degreeOf
theorem dX3_conflict_0 : decode cX3_conflict 0 = .ok (.aload_n 0, 1) := by decide +kernel
theorem dX3_conflict_1 : decode cX3_conflict 1 = .ok (.getfield 19, 3) := by decide +kernel
theorem dX3_conflict_4 : decode cX3_conflict 4 = .ok (.iconst 0, 1) := by decide +kernel
theorem dX3_conflict_5 : decode cX3_conflict 5 = .ok (.invokevirtual 144, 3) := by decide +kernel
theorem dX3_conflict_8 : decode cX3_conflict 8 = .ok (.ireturn, 1) := by decide +kernel
set_option maxRecDepth 20000 in
theorem ggX3_core_X0_believedWorlds : GoodIn wsX3_core wsX0_believedWorlds := goodIn_r _ [6, 7, 8, 9, 5, 10, 11, 12, 13, 14, 15, 16, 17, 18, 19, 20, 21, 22, 23, 24, 25, 26, 27, 28, 29, 30, 31, 32, 33, 34, 35, 36, 40, 41, 42, 43] (by decide +kernel) (by decide +kernel)
set_option maxRecDepth 20000 in
theorem gX3_core_X0_believedWorlds : GoodIn wsX3_core (wsV RX3 147 RX0 yX0_believedWorlds wsX0_believedWorlds) := goodIn_app (goodIn_of _ (by decide +kernel)) ggX3_core_X0_believedWorlds
theorem dX3_core_0 : decode cX3_core 0 = .ok (.aload_n 0, 1) := by decide +kernel
theorem dX3_core_1 : decode cX3_core 1 = .ok (.getfield 19, 3) := by decide +kernel
theorem dX3_core_4 : decode cX3_core 4 = .ok (.invokevirtual 147, 3) := by decide +kernel
theorem dX3_core_7 : decode cX3_core 7 = .ok (.ireturn, 1) := by decide +kernel
set_option maxRecDepth 20000 in
theorem ggX3_load_X1_loadFrom : GoodIn wsX3_load wsX1_loadFrom := goodIn_r _ [7, 8, 9, 10, 11, 12, 13, 14, 15, 16, 17, 18, 19, 20, 21, 22, 23, 24, 25, 26, 27, 28, 29, 30, 31, 32, 33, 34, 35, 36, 37, 6, 38, 39, 40, 41, 42, 54, 55, 56, 57, 58, 59] (by decide +kernel) (by decide +kernel)
set_option maxRecDepth 20000 in
theorem gX3_load_X1_loadFrom : GoodIn wsX3_load (wsV RX3 150 RX1 yX1_loadFrom wsX1_loadFrom) := goodIn_app (goodIn_of _ (by decide +kernel)) ggX3_load_X1_loadFrom
set_option maxRecDepth 20000 in
theorem ggX3_load_X1_open : GoodIn wsX3_load wsX1_open := goodIn_r _ [46, 9, 47, 48, 49, 6, 50, 8, 28, 26, 29, 54, 55] (by decide +kernel) (by decide +kernel)
set_option maxRecDepth 20000 in
theorem gX3_load_X1_open : GoodIn wsX3_load (wsV RX3 154 RX1 yX1_open wsX1_open) := goodIn_app (goodIn_of _ (by decide +kernel)) ggX3_load_X1_open
theorem dX3_load_0 : decode cX3_load 0 = .ok (.aload_n 0, 1) := by decide +kernel
theorem dX3_load_1 : decode cX3_load 1 = .ok (.getfield 26, 3) := by decide +kernel
theorem dX3_load_4 : decode cX3_load 4 = .ok (.aload_n 0, 1) := by decide +kernel
theorem dX3_load_5 : decode cX3_load 5 = .ok (.getfield 19, 3) := by decide +kernel
theorem dX3_load_8 : decode cX3_load 8 = .ok (.invokevirtual 150, 3) := by decide +kernel
theorem dX3_load_11 : decode cX3_load 11 = .ok (.aload_n 0, 1) := by decide +kernel
theorem dX3_load_12 : decode cX3_load 12 = .ok (.getfield 26, 3) := by decide +kernel
theorem dX3_load_15 : decode cX3_load 15 = .ok (.invokevirtual 154, 3) := by decide +kernel
theorem dX3_load_18 : decode cX3_load 18 = .ok (.ireturn, 1) := by decide +kernel
set_option maxRecDepth 20000 in
theorem ggX3_possible_X1_open : GoodIn wsX3_possible wsX1_open := goodIn_r _ [6, 7, 8, 9, 10, 5, 11, 12, 13, 14, 15, 19, 20] (by decide +kernel) (by decide +kernel)
set_option maxRecDepth 20000 in
theorem gX3_possible_X1_open : GoodIn wsX3_possible (wsV RX3 154 RX1 yX1_open wsX1_open) := goodIn_app (goodIn_of _ (by decide +kernel)) ggX3_possible_X1_open
theorem dX3_possible_0 : decode cX3_possible 0 = .ok (.aload_n 0, 1) := by decide +kernel
theorem dX3_possible_1 : decode cX3_possible 1 = .ok (.getfield 26, 3) := by decide +kernel
theorem dX3_possible_4 : decode cX3_possible 4 = .ok (.invokevirtual 154, 3) := by decide +kernel
theorem dX3_possible_7 : decode cX3_possible 7 = .ok (.ireturn, 1) := by decide +kernel
set_option maxRecDepth 20000 in
theorem ggX3_learn_X3_requireTop : GoodIn wsX3_learn wsX3_requireTop := goodIn_ca (goodIn_r _ [11, 3, 4, 12, 13, 14, 15, 16, 17, 18, 19, 20, 21, 22, 23, 24, 10, 25, 92, 93, 94, 95, 96] (by decide +kernel) (by decide +kernel)) (goodIn_sub (fun _ h => List.mem_cons_of_mem _ (List.mem_append_right _ h)) (by decide +kernel))
set_option maxRecDepth 20000 in
theorem gX3_learn_X3_requireTop : GoodIn wsX3_learn (wsV RX3 60 RX3 yX3_requireTop wsX3_requireTop) := goodIn_app (goodIn_of _ (by decide +kernel)) ggX3_learn_X3_requireTop
set_option maxRecDepth 20000 in
theorem ggX3_learn_X1_take : GoodIn wsX3_learn wsX1_take := goodIn_r _ [30, 31, 32, 33, 29, 34, 35, 10, 36, 5, 37, 38, 39, 40, 41, 42, 43, 44, 45, 46, 47, 48, 49, 50, 51, 52, 53, 54, 55, 56, 57, 58, 59, 60, 61, 62, 63, 64, 65, 66, 67, 68, 69, 70, 71, 72, 73, 74, 75, 76, 77, 78, 79, 80, 81, 24, 25, 82, 83, 84, 85, 86, 87, 97, 98] (by decide +kernel) (by decide +kernel)
set_option maxRecDepth 20000 in
theorem gX3_learn_X1_take : GoodIn wsX3_learn (wsV RX3 171 RX1 yX1_take wsX1_take) := goodIn_app (goodIn_of _ (by decide +kernel)) ggX3_learn_X1_take
set_option maxRecDepth 20000 in
theorem ggX3_learn_X1_open : GoodIn wsX3_learn wsX1_open := goodIn_r _ [91, 52, 57, 58, 59, 29, 60, 41, 42, 10, 43, 97, 98] (by decide +kernel) (by decide +kernel)
set_option maxRecDepth 20000 in
theorem gX3_learn_X1_open : GoodIn wsX3_learn (wsV RX3 154 RX1 yX1_open wsX1_open) := goodIn_app (goodIn_of _ (by decide +kernel)) ggX3_learn_X1_open
theorem dX3_learn_0 : decode cX3_learn 0 = .ok (.iload_n 1, 1) := by decide +kernel
theorem dX3_learn_1 : decode cX3_learn 1 = .ok (.ifCond .lt 8, 3) := by decide +kernel
theorem dX3_learn_4 : decode cX3_learn 4 = .ok (.iload_n 1, 1) := by decide +kernel
theorem dX3_learn_5 : decode cX3_learn 5 = .ok (.iconst 3, 1) := by decide +kernel
theorem dX3_learn_6 : decode cX3_learn 6 = .ok (.if_icmp .le 13, 3) := by decide +kernel
theorem dX3_learn_9 : decode cX3_learn 9 = .ok (.new 70, 3) := by decide +kernel
theorem dX3_learn_12 : decode cX3_learn 12 = .ok (.dup, 1) := by decide +kernel
theorem dX3_learn_13 : decode cX3_learn 13 = .ok (.ldc 165, 2) := by decide +kernel
theorem dX3_learn_15 : decode cX3_learn 15 = .ok (.invokespecial 74, 3) := by decide +kernel
theorem dX3_learn_18 : decode cX3_learn 18 = .ok (.athrow, 1) := by decide +kernel
theorem dX3_learn_19 : decode cX3_learn 19 = .ok (.iload_n 1, 1) := by decide +kernel
theorem dX3_learn_20 : decode cX3_learn 20 = .ok (.ifCond .ne 23, 3) := by decide +kernel
theorem dX3_learn_23 : decode cX3_learn 23 = .ok (.iload_n 2, 1) := by decide +kernel
theorem dX3_learn_24 : decode cX3_learn 24 = .ok (.ifCond .lt 9, 3) := by decide +kernel
theorem dX3_learn_27 : decode cX3_learn 27 = .ok (.iload_n 2, 1) := by decide +kernel
theorem dX3_learn_28 : decode cX3_learn 28 = .ok (.bipush 9, 2) := by decide +kernel
theorem dX3_learn_30 : decode cX3_learn 30 = .ok (.if_icmp .le 13, 3) := by decide +kernel
theorem dX3_learn_33 : decode cX3_learn 33 = .ok (.new 70, 3) := by decide +kernel
theorem dX3_learn_36 : decode cX3_learn 36 = .ok (.dup, 1) := by decide +kernel
theorem dX3_learn_37 : decode cX3_learn 37 = .ok (.ldc 167, 2) := by decide +kernel
theorem dX3_learn_39 : decode cX3_learn 39 = .ok (.invokespecial 74, 3) := by decide +kernel
theorem dX3_learn_42 : decode cX3_learn 42 = .ok (.athrow, 1) := by decide +kernel
theorem dX3_learn_43 : decode cX3_learn 43 = .ok (.aload_n 0, 1) := by decide +kernel
theorem dX3_learn_44 : decode cX3_learn 44 = .ok (.invokevirtual 60, 3) := by decide +kernel
theorem dX3_learn_47 : decode cX3_learn 47 = .ok (.istore_n 3, 1) := by decide +kernel
theorem dX3_learn_48 : decode cX3_learn 48 = .ok (.iload_n 3, 1) := by decide +kernel
theorem dX3_learn_49 : decode cX3_learn 49 = .ok (.iload_n 1, 1) := by decide +kernel
theorem dX3_learn_50 : decode cX3_learn 50 = .ok (.iconst 3, 1) := by decide +kernel
theorem dX3_learn_51 : decode cX3_learn 51 = .ok (.if_icmp .ne 8, 3) := by decide +kernel
theorem dX3_learn_54 : decode cX3_learn 54 = .ok (.ldc 52, 2) := by decide +kernel
theorem dX3_learn_56 : decode cX3_learn 56 = .ok (.goto 4, 3) := by decide +kernel
theorem dX3_learn_59 : decode cX3_learn 59 = .ok (.iconst 0, 1) := by decide +kernel
theorem dX3_learn_60 : decode cX3_learn 60 = .ok (.if_icmp .ne 13, 3) := by decide +kernel
theorem dX3_learn_63 : decode cX3_learn 63 = .ok (.new 97, 3) := by decide +kernel
theorem dX3_learn_66 : decode cX3_learn 66 = .ok (.dup, 1) := by decide +kernel
theorem dX3_learn_67 : decode cX3_learn 67 = .ok (.ldc 169, 2) := by decide +kernel
theorem dX3_learn_69 : decode cX3_learn 69 = .ok (.invokespecial 101, 3) := by decide +kernel
theorem dX3_learn_72 : decode cX3_learn 72 = .ok (.athrow, 1) := by decide +kernel
theorem dX3_learn_73 : decode cX3_learn 73 = .ok (.aload_n 0, 1) := by decide +kernel
theorem dX3_learn_74 : decode cX3_learn 74 = .ok (.getfield 26, 3) := by decide +kernel
theorem dX3_learn_77 : decode cX3_learn 77 = .ok (.iload_n 1, 1) := by decide +kernel
theorem dX3_learn_78 : decode cX3_learn 78 = .ok (.iload_n 3, 1) := by decide +kernel
theorem dX3_learn_79 : decode cX3_learn 79 = .ok (.iload_n 2, 1) := by decide +kernel
theorem dX3_learn_80 : decode cX3_learn 80 = .ok (.invokevirtual 171, 3) := by decide +kernel
theorem dX3_learn_83 : decode cX3_learn 83 = .ok (.aload_n 0, 1) := by decide +kernel
theorem dX3_learn_84 : decode cX3_learn 84 = .ok (.getfield 26, 3) := by decide +kernel
theorem dX3_learn_87 : decode cX3_learn 87 = .ok (.invokevirtual 154, 3) := by decide +kernel
theorem dX3_learn_90 : decode cX3_learn 90 = .ok (.ireturn, 1) := by decide +kernel
set_option maxRecDepth 20000 in
theorem ggX3_would_X3_requireTwo : GoodIn wsX3_would wsX3_requireTwo := goodIn_ca (goodIn_r _ [7, 8, 9, 2, 10, 11, 12, 13, 14, 15, 43, 44, 45, 46, 47] (by decide +kernel) (by decide +kernel)) (goodIn_sub (fun _ h => List.mem_cons_of_mem _ (List.mem_append_right _ h)) (by decide +kernel))
set_option maxRecDepth 20000 in
theorem gX3_would_X3_requireTwo : GoodIn wsX3_would (wsV RX3 77 RX3 yX3_requireTwo wsX3_requireTwo) := goodIn_app (goodIn_of _ (by decide +kernel)) ggX3_would_X3_requireTwo
set_option maxRecDepth 20000 in
theorem ggX3_would_X2_below : GoodIn wsX3_would wsX2_below := goodIn_r _ [19, 20, 15, 21, 6, 22, 46, 47] (by decide +kernel) (by decide +kernel)
set_option maxRecDepth 20000 in
theorem gX3_would_X2_below : GoodIn wsX3_would (wsV RX3 80 RX2 yX2_below wsX2_below) := goodIn_app (goodIn_of _ (by decide +kernel)) ggX3_would_X2_below
set_option maxRecDepth 20000 in
theorem ggX3_would_X1_mostPlausible : GoodIn wsX3_would wsX1_mostPlausible := goodIn_r _ [27, 28, 29, 30, 26, 31, 32, 33, 6, 34, 35, 36, 37, 38, 48, 49] (by decide +kernel) (by decide +kernel)
set_option maxRecDepth 20000 in
theorem gX3_would_X1_mostPlausible : GoodIn wsX3_would (wsV RX3 177 RX1 yX1_mostPlausible wsX1_mostPlausible) := goodIn_app (goodIn_of _ (by decide +kernel)) ggX3_would_X1_mostPlausible
set_option maxRecDepth 20000 in
theorem ggX3_would_X3_not : GoodIn wsX3_would wsX3_not := goodIn_r _ [41, 42] (by decide +kernel) (by decide +kernel)
set_option maxRecDepth 20000 in
theorem gX3_would_X3_not : GoodIn wsX3_would (va_wsS RX3 63 yX3_not wsX3_not) := goodIn_app (goodIn_of _ (by decide +kernel)) ggX3_would_X3_not
theorem dX3_would_0 : decode cX3_would 0 = .ok (.aload_n 0, 1) := by decide +kernel
theorem dX3_would_1 : decode cX3_would 1 = .ok (.invokevirtual 77, 3) := by decide +kernel
theorem dX3_would_4 : decode cX3_would 4 = .ok (.aload_n 0, 1) := by decide +kernel
theorem dX3_would_5 : decode cX3_would 5 = .ok (.getfield 26, 3) := by decide +kernel
theorem dX3_would_8 : decode cX3_would 8 = .ok (.aload_n 0, 1) := by decide +kernel
theorem dX3_would_9 : decode cX3_would 9 = .ok (.getfield 12, 3) := by decide +kernel
theorem dX3_would_12 : decode cX3_would 12 = .ok (.iconst 1, 1) := by decide +kernel
theorem dX3_would_13 : decode cX3_would 13 = .ok (.invokevirtual 80, 3) := by decide +kernel
theorem dX3_would_16 : decode cX3_would 16 = .ok (.invokevirtual 177, 3) := by decide +kernel
theorem dX3_would_19 : decode cX3_would 19 = .ok (.aload_n 0, 1) := by decide +kernel
theorem dX3_would_20 : decode cX3_would 20 = .ok (.getfield 12, 3) := by decide +kernel
theorem dX3_would_23 : decode cX3_would 23 = .ok (.iconst 0, 1) := by decide +kernel
theorem dX3_would_24 : decode cX3_would 24 = .ok (.invokevirtual 80, 3) := by decide +kernel
theorem dX3_would_27 : decode cX3_would 27 = .ok (.invokestatic 63, 3) := by decide +kernel
theorem dX3_would_30 : decode cX3_would 30 = .ok (.iand, 1) := by decide +kernel
theorem dX3_would_31 : decode cX3_would 31 = .ok (.ifCond .ne 7, 3) := by decide +kernel
theorem dX3_would_34 : decode cX3_would 34 = .ok (.iconst 1, 1) := by decide +kernel
theorem dX3_would_35 : decode cX3_would 35 = .ok (.goto 4, 3) := by decide +kernel
theorem dX3_would_38 : decode cX3_would 38 = .ok (.iconst 0, 1) := by decide +kernel
theorem dX3_would_39 : decode cX3_would 39 = .ok (.ireturn, 1) := by decide +kernel
theorem dX3_requireAtom_0 : decode cX3_requireAtom 0 = .ok (.iload_n 0, 1) := by decide +kernel
theorem dX3_requireAtom_1 : decode cX3_requireAtom 1 = .ok (.ifCond .lt 11, 3) := by decide +kernel
theorem dX3_requireAtom_4 : decode cX3_requireAtom 4 = .ok (.iload_n 0, 1) := by decide +kernel
theorem dX3_requireAtom_5 : decode cX3_requireAtom 5 = .ok (.getstatic 37, 3) := by decide +kernel
theorem dX3_requireAtom_8 : decode cX3_requireAtom 8 = .ok (.arraylength, 1) := by decide +kernel
theorem dX3_requireAtom_9 : decode cX3_requireAtom 9 = .ok (.if_icmp .lt 13, 3) := by decide +kernel
theorem dX3_requireAtom_12 : decode cX3_requireAtom 12 = .ok (.new 157, 3) := by decide +kernel
theorem dX3_requireAtom_15 : decode cX3_requireAtom 15 = .ok (.dup, 1) := by decide +kernel
theorem dX3_requireAtom_16 : decode cX3_requireAtom 16 = .ok (.ldc 200, 2) := by decide +kernel
theorem dX3_requireAtom_18 : decode cX3_requireAtom 18 = .ok (.invokespecial 161, 3) := by decide +kernel
theorem dX3_requireAtom_21 : decode cX3_requireAtom 21 = .ok (.athrow, 1) := by decide +kernel
theorem dX3_requireAtom_22 : decode cX3_requireAtom 22 = .ok (.return_, 1) := by decide +kernel
theorem dX3_requireRank_0 : decode cX3_requireRank 0 = .ok (.iload_n 0, 1) := by decide +kernel
theorem dX3_requireRank_1 : decode cX3_requireRank 1 = .ok (.iconst 1, 1) := by decide +kernel
theorem dX3_requireRank_2 : decode cX3_requireRank 2 = .ok (.if_icmp .lt 9, 3) := by decide +kernel
theorem dX3_requireRank_5 : decode cX3_requireRank 5 = .ok (.iload_n 0, 1) := by decide +kernel
theorem dX3_requireRank_6 : decode cX3_requireRank 6 = .ok (.bipush 9, 2) := by decide +kernel
theorem dX3_requireRank_8 : decode cX3_requireRank 8 = .ok (.if_icmp .le 13, 3) := by decide +kernel
theorem dX3_requireRank_11 : decode cX3_requireRank 11 = .ok (.new 70, 3) := by decide +kernel
theorem dX3_requireRank_14 : decode cX3_requireRank 14 = .ok (.dup, 1) := by decide +kernel
theorem dX3_requireRank_15 : decode cX3_requireRank 15 = .ok (.ldc 202, 2) := by decide +kernel
theorem dX3_requireRank_17 : decode cX3_requireRank 17 = .ok (.invokespecial 74, 3) := by decide +kernel
theorem dX3_requireRank_20 : decode cX3_requireRank 20 = .ok (.athrow, 1) := by decide +kernel
theorem dX3_requireRank_21 : decode cX3_requireRank 21 = .ok (.return_, 1) := by decide +kernel
set_option maxRecDepth 20000 in
theorem ggX3_requirePileRoom_X2_isFull : GoodIn wsX3_requirePileRoom wsX2_isFull := goodIn_r _ [8, 9, 13, 14] (by decide +kernel) (by decide +kernel)
set_option maxRecDepth 20000 in
theorem gX3_requirePileRoom_X2_isFull : GoodIn wsX3_requirePileRoom (wsV RX3 204 RX2 yX2_isFull wsX2_isFull) := goodIn_app (goodIn_of _ (by decide +kernel)) ggX3_requirePileRoom_X2_isFull
theorem dX3_requirePileRoom_0 : decode cX3_requirePileRoom 0 = .ok (.aload_n 0, 1) := by decide +kernel
theorem dX3_requirePileRoom_1 : decode cX3_requirePileRoom 1 = .ok (.getfield 12, 3) := by decide +kernel
theorem dX3_requirePileRoom_4 : decode cX3_requirePileRoom 4 = .ok (.invokevirtual 204, 3) := by decide +kernel
theorem dX3_requirePileRoom_7 : decode cX3_requirePileRoom 7 = .ok (.ifCond .eq 13, 3) := by decide +kernel
theorem dX3_requirePileRoom_10 : decode cX3_requirePileRoom 10 = .ok (.new 97, 3) := by decide +kernel
theorem dX3_requirePileRoom_13 : decode cX3_requirePileRoom 13 = .ok (.dup, 1) := by decide +kernel
theorem dX3_requirePileRoom_14 : decode cX3_requirePileRoom 14 = .ok (.ldc 205, 2) := by decide +kernel
theorem dX3_requirePileRoom_16 : decode cX3_requirePileRoom 16 = .ok (.invokespecial 101, 3) := by decide +kernel
theorem dX3_requirePileRoom_19 : decode cX3_requirePileRoom 19 = .ok (.athrow, 1) := by decide +kernel
theorem dX3_requirePileRoom_20 : decode cX3_requirePileRoom 20 = .ok (.return_, 1) := by decide +kernel
set_option maxRecDepth 20000 in
theorem ggX3_requireTop_X2_count : GoodIn wsX3_requireTop wsX2_count := goodIn_r _ [8, 9, 21, 22] (by decide +kernel) (by decide +kernel)
set_option maxRecDepth 20000 in
theorem gX3_requireTop_X2_count : GoodIn wsX3_requireTop (wsV RX3 48 RX2 yX2_count wsX2_count) := goodIn_app (goodIn_of _ (by decide +kernel)) ggX3_requireTop_X2_count
set_option maxRecDepth 20000 in
theorem ggX3_requireTop_X2_below : GoodIn wsX3_requireTop wsX2_below := goodIn_r _ [13, 14, 9, 15, 16, 17, 21, 22] (by decide +kernel) (by decide +kernel)
set_option maxRecDepth 20000 in
theorem gX3_requireTop_X2_below : GoodIn wsX3_requireTop (wsV RX3 80 RX2 yX2_below wsX2_below) := goodIn_app (goodIn_of _ (by decide +kernel)) ggX3_requireTop_X2_below
theorem dX3_requireTop_0 : decode cX3_requireTop 0 = .ok (.aload_n 0, 1) := by decide +kernel
theorem dX3_requireTop_1 : decode cX3_requireTop 1 = .ok (.getfield 12, 3) := by decide +kernel
theorem dX3_requireTop_4 : decode cX3_requireTop 4 = .ok (.invokevirtual 48, 3) := by decide +kernel
theorem dX3_requireTop_7 : decode cX3_requireTop 7 = .ok (.iconst 1, 1) := by decide +kernel
theorem dX3_requireTop_8 : decode cX3_requireTop 8 = .ok (.if_icmp .ge 13, 3) := by decide +kernel
theorem dX3_requireTop_11 : decode cX3_requireTop 11 = .ok (.new 97, 3) := by decide +kernel
theorem dX3_requireTop_14 : decode cX3_requireTop 14 = .ok (.dup, 1) := by decide +kernel
theorem dX3_requireTop_15 : decode cX3_requireTop 15 = .ok (.ldc 207, 2) := by decide +kernel
theorem dX3_requireTop_17 : decode cX3_requireTop 17 = .ok (.invokespecial 101, 3) := by decide +kernel
theorem dX3_requireTop_20 : decode cX3_requireTop 20 = .ok (.athrow, 1) := by decide +kernel
theorem dX3_requireTop_21 : decode cX3_requireTop 21 = .ok (.aload_n 0, 1) := by decide +kernel
theorem dX3_requireTop_22 : decode cX3_requireTop 22 = .ok (.getfield 12, 3) := by decide +kernel
theorem dX3_requireTop_25 : decode cX3_requireTop 25 = .ok (.iconst 0, 1) := by decide +kernel
theorem dX3_requireTop_26 : decode cX3_requireTop 26 = .ok (.invokevirtual 80, 3) := by decide +kernel
theorem dX3_requireTop_29 : decode cX3_requireTop 29 = .ok (.ireturn, 1) := by decide +kernel
set_option maxRecDepth 20000 in
theorem ggX3_requireTwo_X2_count : GoodIn wsX3_requireTwo wsX2_count := goodIn_r _ [8, 9, 13, 14] (by decide +kernel) (by decide +kernel)
set_option maxRecDepth 20000 in
theorem gX3_requireTwo_X2_count : GoodIn wsX3_requireTwo (wsV RX3 48 RX2 yX2_count wsX2_count) := goodIn_app (goodIn_of _ (by decide +kernel)) ggX3_requireTwo_X2_count
theorem dX3_requireTwo_0 : decode cX3_requireTwo 0 = .ok (.aload_n 0, 1) := by decide +kernel
theorem dX3_requireTwo_1 : decode cX3_requireTwo 1 = .ok (.getfield 12, 3) := by decide +kernel
theorem dX3_requireTwo_4 : decode cX3_requireTwo 4 = .ok (.invokevirtual 48, 3) := by decide +kernel
theorem dX3_requireTwo_7 : decode cX3_requireTwo 7 = .ok (.iconst 2, 1) := by decide +kernel
theorem dX3_requireTwo_8 : decode cX3_requireTwo 8 = .ok (.if_icmp .ge 13, 3) := by decide +kernel
theorem dX3_requireTwo_11 : decode cX3_requireTwo 11 = .ok (.new 97, 3) := by decide +kernel
theorem dX3_requireTwo_14 : decode cX3_requireTwo 14 = .ok (.dup, 1) := by decide +kernel
theorem dX3_requireTwo_15 : decode cX3_requireTwo 15 = .ok (.ldc 209, 2) := by decide +kernel
theorem dX3_requireTwo_17 : decode cX3_requireTwo 17 = .ok (.invokespecial 101, 3) := by decide +kernel
theorem dX3_requireTwo_20 : decode cX3_requireTwo 20 = .ok (.athrow, 1) := by decide +kernel
theorem dX3_requireTwo_21 : decode cX3_requireTwo 21 = .ok (.return_, 1) := by decide +kernel
set_option maxRecDepth 20000 in
theorem ggX3_requireSet_X0_countSets : GoodIn wsX3_requireSet wsX0_countSets := goodIn_r _ [8, 9, 13, 14, 15, 16] (by decide +kernel) (by decide +kernel)
set_option maxRecDepth 20000 in
theorem gX3_requireSet_X0_countSets : GoodIn wsX3_requireSet (wsV RX3 213 RX0 yX0_countSets wsX0_countSets) := goodIn_app (goodIn_of _ (by decide +kernel)) ggX3_requireSet_X0_countSets
theorem dX3_requireSet_0 : decode cX3_requireSet 0 = .ok (.iload_n 1, 1) := by decide +kernel
theorem dX3_requireSet_1 : decode cX3_requireSet 1 = .ok (.ifCond .lt 14, 3) := by decide +kernel
theorem dX3_requireSet_4 : decode cX3_requireSet 4 = .ok (.iload_n 1, 1) := by decide +kernel
theorem dX3_requireSet_5 : decode cX3_requireSet 5 = .ok (.aload_n 0, 1) := by decide +kernel
theorem dX3_requireSet_6 : decode cX3_requireSet 6 = .ok (.getfield 19, 3) := by decide +kernel
theorem dX3_requireSet_9 : decode cX3_requireSet 9 = .ok (.invokevirtual 213, 3) := by decide +kernel
theorem dX3_requireSet_12 : decode cX3_requireSet 12 = .ok (.if_icmp .lt 13, 3) := by decide +kernel
theorem dX3_requireSet_15 : decode cX3_requireSet 15 = .ok (.new 70, 3) := by decide +kernel
theorem dX3_requireSet_18 : decode cX3_requireSet 18 = .ok (.dup, 1) := by decide +kernel
theorem dX3_requireSet_19 : decode cX3_requireSet 19 = .ok (.ldc 216, 2) := by decide +kernel
theorem dX3_requireSet_21 : decode cX3_requireSet 21 = .ok (.invokespecial 74, 3) := by decide +kernel
theorem dX3_requireSet_24 : decode cX3_requireSet 24 = .ok (.athrow, 1) := by decide +kernel
theorem dX3_requireSet_25 : decode cX3_requireSet 25 = .ok (.return_, 1) := by decide +kernel
set_option maxRecDepth 20000 in
theorem ggX3_requireFound_X0_findAt : GoodIn wsX3_requireFound wsX0_findAt := goodIn_r _ [8, 9, 10, 11, 7, 12, 13, 14, 15, 16, 17, 18, 19, 20, 21, 22, 23, 24, 25, 26, 27, 28, 29, 30, 31, 32, 33, 34, 35, 36, 37, 38, 42, 43, 44, 45] (by decide +kernel) (by decide +kernel)
set_option maxRecDepth 20000 in
theorem gX3_requireFound_X0_findAt : GoodIn wsX3_requireFound (wsV RX3 218 RX0 yX0_findAt wsX0_findAt) := goodIn_app (goodIn_of _ (by decide +kernel)) ggX3_requireFound_X0_findAt
theorem dX3_requireFound_0 : decode cX3_requireFound 0 = .ok (.aload_n 0, 1) := by decide +kernel
theorem dX3_requireFound_1 : decode cX3_requireFound 1 = .ok (.getfield 19, 3) := by decide +kernel
theorem dX3_requireFound_4 : decode cX3_requireFound 4 = .ok (.iload_n 1, 1) := by decide +kernel
theorem dX3_requireFound_5 : decode cX3_requireFound 5 = .ok (.iload_n 2, 1) := by decide +kernel
theorem dX3_requireFound_6 : decode cX3_requireFound 6 = .ok (.iload_n 3, 1) := by decide +kernel
theorem dX3_requireFound_7 : decode cX3_requireFound 7 = .ok (.invokevirtual 218, 3) := by decide +kernel
theorem dX3_requireFound_10 : decode cX3_requireFound 10 = .ok (.istore 4, 2) := by decide +kernel
theorem dX3_requireFound_12 : decode cX3_requireFound 12 = .ok (.iload 4, 2) := by decide +kernel
theorem dX3_requireFound_14 : decode cX3_requireFound 14 = .ok (.ifCond .ge 13, 3) := by decide +kernel
theorem dX3_requireFound_17 : decode cX3_requireFound 17 = .ok (.new 157, 3) := by decide +kernel
theorem dX3_requireFound_20 : decode cX3_requireFound 20 = .ok (.dup, 1) := by decide +kernel
theorem dX3_requireFound_21 : decode cX3_requireFound 21 = .ok (.ldc 221, 2) := by decide +kernel
theorem dX3_requireFound_23 : decode cX3_requireFound 23 = .ok (.invokespecial 161, 3) := by decide +kernel
theorem dX3_requireFound_26 : decode cX3_requireFound 26 = .ok (.athrow, 1) := by decide +kernel
theorem dX3_requireFound_27 : decode cX3_requireFound 27 = .ok (.iload 4, 2) := by decide +kernel
theorem dX3_requireFound_29 : decode cX3_requireFound 29 = .ok (.ireturn, 1) := by decide +kernel
theorem dX3_not_0 : decode cX3_not 0 = .ok (.ldc 52, 2) := by decide +kernel
theorem dX3_not_2 : decode cX3_not 2 = .ok (.iload_n 0, 1) := by decide +kernel
theorem dX3_not_3 : decode cX3_not 3 = .ok (.iconst (-1), 1) := by decide +kernel
theorem dX3_not_4 : decode cX3_not 4 = .ok (.ixor, 1) := by decide +kernel
theorem dX3_not_5 : decode cX3_not 5 = .ok (.iand, 1) := by decide +kernel
theorem dX3_not_6 : decode cX3_not 6 = .ok (.ireturn, 1) := by decide +kernel
set_option maxRecDepth 20000 in
theorem ggX3_joined_X3_not : GoodIn wsX3_joined wsX3_not := goodIn_r _ [4, 5] (by decide +kernel) (by decide +kernel)
set_option maxRecDepth 20000 in
theorem gX3_joined_X3_not : GoodIn wsX3_joined (va_wsS RX3 63 yX3_not wsX3_not) := goodIn_app (goodIn_of _ (by decide +kernel)) ggX3_joined_X3_not
theorem dX3_joined_0 : decode cX3_joined 0 = .ok (.iload_n 0, 1) := by decide +kernel
theorem dX3_joined_1 : decode cX3_joined 1 = .ok (.tableswitch 42 0 2 #[27, 31, 35], 27) := by decide +kernel
theorem dX3_joined_28 : decode cX3_joined 28 = .ok (.iload_n 1, 1) := by decide +kernel
theorem dX3_joined_29 : decode cX3_joined 29 = .ok (.iload_n 2, 1) := by decide +kernel
theorem dX3_joined_30 : decode cX3_joined 30 = .ok (.iand, 1) := by decide +kernel
theorem dX3_joined_31 : decode cX3_joined 31 = .ok (.ireturn, 1) := by decide +kernel
theorem dX3_joined_32 : decode cX3_joined 32 = .ok (.iload_n 1, 1) := by decide +kernel
theorem dX3_joined_33 : decode cX3_joined 33 = .ok (.iload_n 2, 1) := by decide +kernel
theorem dX3_joined_34 : decode cX3_joined 34 = .ok (.ior, 1) := by decide +kernel
theorem dX3_joined_35 : decode cX3_joined 35 = .ok (.ireturn, 1) := by decide +kernel
theorem dX3_joined_36 : decode cX3_joined 36 = .ok (.iload_n 1, 1) := by decide +kernel
theorem dX3_joined_37 : decode cX3_joined 37 = .ok (.iload_n 2, 1) := by decide +kernel
theorem dX3_joined_38 : decode cX3_joined 38 = .ok (.invokestatic 63, 3) := by decide +kernel
theorem dX3_joined_41 : decode cX3_joined 41 = .ok (.ior, 1) := by decide +kernel
theorem dX3_joined_42 : decode cX3_joined 42 = .ok (.ireturn, 1) := by decide +kernel
theorem dX3_joined_43 : decode cX3_joined 43 = .ok (.iload_n 1, 1) := by decide +kernel
theorem dX3_joined_44 : decode cX3_joined 44 = .ok (.iload_n 2, 1) := by decide +kernel
theorem dX3_joined_45 : decode cX3_joined 45 = .ok (.ixor, 1) := by decide +kernel
theorem dX3_joined_46 : decode cX3_joined 46 = .ok (.invokestatic 63, 3) := by decide +kernel
theorem dX3_joined_49 : decode cX3_joined 49 = .ok (.ireturn, 1) := by decide +kernel
theorem dX3_has_0 : decode cX3_has 0 = .ok (.iload_n 0, 1) := by decide +kernel
theorem dX3_has_1 : decode cX3_has 1 = .ok (.iload_n 1, 1) := by decide +kernel
theorem dX3_has_2 : decode cX3_has 2 = .ok (.ishr, 1) := by decide +kernel
theorem dX3_has_3 : decode cX3_has 3 = .ok (.iconst 1, 1) := by decide +kernel
theorem dX3_has_4 : decode cX3_has 4 = .ok (.iand, 1) := by decide +kernel
theorem dX3_has_5 : decode cX3_has 5 = .ok (.iconst 1, 1) := by decide +kernel
theorem dX3_has_6 : decode cX3_has 6 = .ok (.if_icmp .ne 7, 3) := by decide +kernel
theorem dX3_has_9 : decode cX3_has 9 = .ok (.iconst 1, 1) := by decide +kernel
theorem dX3_has_10 : decode cX3_has 10 = .ok (.goto 4, 3) := by decide +kernel
theorem dX3_has_13 : decode cX3_has 13 = .ok (.iconst 0, 1) := by decide +kernel
theorem dX3_has_14 : decode cX3_has 14 = .ok (.ireturn, 1) := by decide +kernel
theorem dX3_at_0 : decode cX3_at 0 = .ok (.iload_n 1, 1) := by decide +kernel
theorem dX3_at_1 : decode cX3_at 1 = .ok (.ifCond .lt 15, 3) := by decide +kernel
theorem dX3_at_4 : decode cX3_at 4 = .ok (.iload_n 1, 1) := by decide +kernel
theorem dX3_at_5 : decode cX3_at 5 = .ok (.aload_n 0, 1) := by decide +kernel
theorem dX3_at_6 : decode cX3_at 6 = .ok (.arraylength, 1) := by decide +kernel
theorem dX3_at_7 : decode cX3_at 7 = .ok (.if_icmp .ge 9, 3) := by decide +kernel
theorem dX3_at_10 : decode cX3_at 10 = .ok (.aload_n 0, 1) := by decide +kernel
theorem dX3_at_11 : decode cX3_at 11 = .ok (.iload_n 1, 1) := by decide +kernel
theorem dX3_at_12 : decode cX3_at 12 = .ok (.iaload, 1) := by decide +kernel
theorem dX3_at_13 : decode cX3_at 13 = .ok (.goto 4, 3) := by decide +kernel
theorem dX3_at_16 : decode cX3_at 16 = .ok (.iconst 0, 1) := by decide +kernel
theorem dX3_at_17 : decode cX3_at 17 = .ok (.ireturn, 1) := by decide +kernel
theorem dX3_put_0 : decode cX3_put 0 = .ok (.iload_n 1, 1) := by decide +kernel
theorem dX3_put_1 : decode cX3_put 1 = .ok (.ifCond .lt 13, 3) := by decide +kernel
theorem dX3_put_4 : decode cX3_put 4 = .ok (.iload_n 1, 1) := by decide +kernel
theorem dX3_put_5 : decode cX3_put 5 = .ok (.aload_n 0, 1) := by decide +kernel
theorem dX3_put_6 : decode cX3_put 6 = .ok (.arraylength, 1) := by decide +kernel
theorem dX3_put_7 : decode cX3_put 7 = .ok (.if_icmp .ge 7, 3) := by decide +kernel
theorem dX3_put_10 : decode cX3_put 10 = .ok (.aload_n 0, 1) := by decide +kernel
theorem dX3_put_11 : decode cX3_put 11 = .ok (.iload_n 1, 1) := by decide +kernel
theorem dX3_put_12 : decode cX3_put 12 = .ok (.iload_n 2, 1) := by decide +kernel
theorem dX3_put_13 : decode cX3_put 13 = .ok (.iastore, 1) := by decide +kernel
theorem dX3_put_14 : decode cX3_put 14 = .ok (.return_, 1) := by decide +kernel
