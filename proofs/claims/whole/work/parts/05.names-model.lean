theorem dX4_init_0 : decode cX4_init 0 = .ok (.aload_n 0, 1) := by decide +kernel
theorem dX4_init_1 : decode cX4_init 1 = .ok (.invokespecial 3, 3) := by decide +kernel
theorem dX4_init_4 : decode cX4_init 4 = .ok (.aload_n 0, 1) := by decide +kernel
theorem dX4_init_5 : decode cX4_init 5 = .ok (.bipush 12, 2) := by decide +kernel
theorem dX4_init_7 : decode cX4_init 7 = .ok (.newarray .int, 2) := by decide +kernel
theorem dX4_init_9 : decode cX4_init 9 = .ok (.putfield 9, 3) := by decide +kernel
theorem dX4_init_12 : decode cX4_init 12 = .ok (.aload_n 0, 1) := by decide +kernel
theorem dX4_init_13 : decode cX4_init 13 = .ok (.bipush 10, 2) := by decide +kernel
theorem dX4_init_15 : decode cX4_init 15 = .ok (.newarray .int, 2) := by decide +kernel
theorem dX4_init_17 : decode cX4_init 17 = .ok (.putfield 13, 3) := by decide +kernel
theorem dX4_init_20 : decode cX4_init 20 = .ok (.aload_n 0, 1) := by decide +kernel
theorem dX4_init_21 : decode cX4_init 21 = .ok (.bipush 10, 2) := by decide +kernel
theorem dX4_init_23 : decode cX4_init 23 = .ok (.newarray .int, 2) := by decide +kernel
theorem dX4_init_25 : decode cX4_init 25 = .ok (.putfield 16, 3) := by decide +kernel
theorem dX4_init_28 : decode cX4_init 28 = .ok (.aload_n 0, 1) := by decide +kernel
theorem dX4_init_29 : decode cX4_init 29 = .ok (.bipush 16, 2) := by decide +kernel
theorem dX4_init_31 : decode cX4_init 31 = .ok (.newarray .int, 2) := by decide +kernel
theorem dX4_init_33 : decode cX4_init 33 = .ok (.putfield 19, 3) := by decide +kernel
theorem dX4_init_36 : decode cX4_init 36 = .ok (.return_, 1) := by decide +kernel
theorem dX4_thrown_0 : decode cX4_thrown 0 = .ok (.aload_n 0, 1) := by decide +kernel
theorem dX4_thrown_1 : decode cX4_thrown 1 = .ok (.getfield 22, 3) := by decide +kernel
theorem dX4_thrown_4 : decode cX4_thrown 4 = .ok (.ireturn, 1) := by decide +kernel
theorem dX4_no_0 : decode cX4_no 0 = .ok (.aload_n 0, 1) := by decide +kernel
theorem dX4_no_1 : decode cX4_no 1 = .ok (.iload_n 1, 1) := by decide +kernel
theorem dX4_no_2 : decode cX4_no 2 = .ok (.putfield 22, 3) := by decide +kernel
theorem dX4_no_5 : decode cX4_no 5 = .ok (.iconst 0, 1) := by decide +kernel
theorem dX4_no_6 : decode cX4_no 6 = .ok (.ireturn, 1) := by decide +kernel
theorem dX4_isIn_0 : decode cX4_isIn 0 = .ok (.iload_n 0, 1) := by decide +kernel
theorem dX4_isIn_1 : decode cX4_isIn 1 = .ok (.iload_n 1, 1) := by decide +kernel
theorem dX4_isIn_2 : decode cX4_isIn 2 = .ok (.if_icmp .lt 12, 3) := by decide +kernel
theorem dX4_isIn_5 : decode cX4_isIn 5 = .ok (.iload_n 0, 1) := by decide +kernel
theorem dX4_isIn_6 : decode cX4_isIn 6 = .ok (.iload_n 2, 1) := by decide +kernel
theorem dX4_isIn_7 : decode cX4_isIn 7 = .ok (.if_icmp .gt 7, 3) := by decide +kernel
theorem dX4_isIn_10 : decode cX4_isIn 10 = .ok (.iconst 1, 1) := by decide +kernel
theorem dX4_isIn_11 : decode cX4_isIn 11 = .ok (.goto 4, 3) := by decide +kernel
theorem dX4_isIn_14 : decode cX4_isIn 14 = .ok (.iconst 0, 1) := by decide +kernel
theorem dX4_isIn_15 : decode cX4_isIn 15 = .ok (.ireturn, 1) := by decide +kernel
theorem dX4_has_0 : decode cX4_has 0 = .ok (.iload_n 0, 1) := by decide +kernel
theorem dX4_has_1 : decode cX4_has 1 = .ok (.iload_n 1, 1) := by decide +kernel
theorem dX4_has_2 : decode cX4_has 2 = .ok (.ishr, 1) := by decide +kernel
theorem dX4_has_3 : decode cX4_has 3 = .ok (.iconst 1, 1) := by decide +kernel
theorem dX4_has_4 : decode cX4_has 4 = .ok (.iand, 1) := by decide +kernel
theorem dX4_has_5 : decode cX4_has 5 = .ok (.iconst 1, 1) := by decide +kernel
theorem dX4_has_6 : decode cX4_has 6 = .ok (.if_icmp .ne 7, 3) := by decide +kernel
theorem dX4_has_9 : decode cX4_has 9 = .ok (.iconst 1, 1) := by decide +kernel
theorem dX4_has_10 : decode cX4_has 10 = .ok (.goto 4, 3) := by decide +kernel
theorem dX4_has_13 : decode cX4_has 13 = .ok (.iconst 0, 1) := by decide +kernel
theorem dX4_has_14 : decode cX4_has 14 = .ok (.ireturn, 1) := by decide +kernel
set_option maxRecDepth 20000 in
theorem ggX4_isSentence_X4_isIn : GoodIn wsX4_isSentence wsX4_isIn := goodIn_r _ [5] (by decide +kernel) (by decide +kernel)
set_option maxRecDepth 20000 in
theorem gX4_isSentence_X4_isIn : GoodIn wsX4_isSentence (va_wsS RX4 29 yX4_isIn wsX4_isIn) := goodIn_app (goodIn_of _ (by decide +kernel)) ggX4_isSentence_X4_isIn
theorem dX4_isSentence_0 : decode cX4_isSentence 0 = .ok (.iload_n 1, 1) := by decide +kernel
theorem dX4_isSentence_1 : decode cX4_isSentence 1 = .ok (.iconst 0, 1) := by decide +kernel
theorem dX4_isSentence_2 : decode cX4_isSentence 2 = .ok (.aload_n 0, 1) := by decide +kernel
theorem dX4_isSentence_3 : decode cX4_isSentence 3 = .ok (.getfield 26, 3) := by decide +kernel
theorem dX4_isSentence_6 : decode cX4_isSentence 6 = .ok (.iconst 1, 1) := by decide +kernel
theorem dX4_isSentence_7 : decode cX4_isSentence 7 = .ok (.isub, 1) := by decide +kernel
theorem dX4_isSentence_8 : decode cX4_isSentence 8 = .ok (.invokestatic 29, 3) := by decide +kernel
theorem dX4_isSentence_11 : decode cX4_isSentence 11 = .ok (.ireturn, 1) := by decide +kernel
set_option maxRecDepth 20000 in
theorem ggX4_isSet_X4_isIn : GoodIn wsX4_isSet wsX4_isIn := goodIn_r _ [5] (by decide +kernel) (by decide +kernel)
set_option maxRecDepth 20000 in
theorem gX4_isSet_X4_isIn : GoodIn wsX4_isSet (va_wsS RX4 29 yX4_isIn wsX4_isIn) := goodIn_app (goodIn_of _ (by decide +kernel)) ggX4_isSet_X4_isIn
theorem dX4_isSet_0 : decode cX4_isSet 0 = .ok (.iload_n 1, 1) := by decide +kernel
theorem dX4_isSet_1 : decode cX4_isSet 1 = .ok (.iconst 0, 1) := by decide +kernel
theorem dX4_isSet_2 : decode cX4_isSet 2 = .ok (.iconst 1, 1) := by decide +kernel
theorem dX4_isSet_3 : decode cX4_isSet 3 = .ok (.aload_n 0, 1) := by decide +kernel
theorem dX4_isSet_4 : decode cX4_isSet 4 = .ok (.getfield 26, 3) := by decide +kernel
theorem dX4_isSet_7 : decode cX4_isSet 7 = .ok (.ishl, 1) := by decide +kernel
theorem dX4_isSet_8 : decode cX4_isSet 8 = .ok (.iconst 1, 1) := by decide +kernel
theorem dX4_isSet_9 : decode cX4_isSet 9 = .ok (.isub, 1) := by decide +kernel
theorem dX4_isSet_10 : decode cX4_isSet 10 = .ok (.invokestatic 29, 3) := by decide +kernel
theorem dX4_isSet_13 : decode cX4_isSet 13 = .ok (.ireturn, 1) := by decide +kernel
theorem dX4_top_0 : decode cX4_top 0 = .ok (.aload_n 0, 1) := by decide +kernel
theorem dX4_top_1 : decode cX4_top 1 = .ok (.getfield 9, 3) := by decide +kernel
theorem dX4_top_4 : decode cX4_top 4 = .ok (.aload_n 0, 1) := by decide +kernel
theorem dX4_top_5 : decode cX4_top 5 = .ok (.getfield 33, 3) := by decide +kernel
theorem dX4_top_8 : decode cX4_top 8 = .ok (.iconst 1, 1) := by decide +kernel
theorem dX4_top_9 : decode cX4_top 9 = .ok (.isub, 1) := by decide +kernel
theorem dX4_top_10 : decode cX4_top 10 = .ok (.iload_n 1, 1) := by decide +kernel
theorem dX4_top_11 : decode cX4_top 11 = .ok (.isub, 1) := by decide +kernel
theorem dX4_top_12 : decode cX4_top 12 = .ok (.iaload, 1) := by decide +kernel
theorem dX4_top_13 : decode cX4_top 13 = .ok (.ireturn, 1) := by decide +kernel
set_option maxRecDepth 20000 in
theorem ggX4_worldsOf_X4_has : GoodIn wsX4_worldsOf wsX4_has := goodIn_r _ [4] (by decide +kernel) (by decide +kernel)
set_option maxRecDepth 20000 in
theorem gX4_worldsOf_X4_has : GoodIn wsX4_worldsOf (va_wsS RX4 36 yX4_has wsX4_has) := goodIn_app (goodIn_of _ (by decide +kernel)) ggX4_worldsOf_X4_has
theorem dX4_worldsOf_0 : decode cX4_worldsOf 0 = .ok (.iconst 0, 1) := by decide +kernel
theorem dX4_worldsOf_1 : decode cX4_worldsOf 1 = .ok (.istore_n 1, 1) := by decide +kernel
theorem dX4_worldsOf_2 : decode cX4_worldsOf 2 = .ok (.iconst 0, 1) := by decide +kernel
theorem dX4_worldsOf_3 : decode cX4_worldsOf 3 = .ok (.istore_n 2, 1) := by decide +kernel
theorem dX4_worldsOf_4 : decode cX4_worldsOf 4 = .ok (.iload_n 2, 1) := by decide +kernel
theorem dX4_worldsOf_5 : decode cX4_worldsOf 5 = .ok (.bipush 16, 2) := by decide +kernel
theorem dX4_worldsOf_7 : decode cX4_worldsOf 7 = .ok (.if_icmp .ge 23, 3) := by decide +kernel
theorem dX4_worldsOf_10 : decode cX4_worldsOf 10 = .ok (.iload_n 2, 1) := by decide +kernel
theorem dX4_worldsOf_11 : decode cX4_worldsOf 11 = .ok (.iload_n 0, 1) := by decide +kernel
theorem dX4_worldsOf_12 : decode cX4_worldsOf 12 = .ok (.invokestatic 36, 3) := by decide +kernel
theorem dX4_worldsOf_15 : decode cX4_worldsOf 15 = .ok (.ifCond .eq 9, 3) := by decide +kernel
theorem dX4_worldsOf_18 : decode cX4_worldsOf 18 = .ok (.iload_n 1, 1) := by decide +kernel
theorem dX4_worldsOf_19 : decode cX4_worldsOf 19 = .ok (.iconst 1, 1) := by decide +kernel
theorem dX4_worldsOf_20 : decode cX4_worldsOf 20 = .ok (.iload_n 2, 1) := by decide +kernel
theorem dX4_worldsOf_21 : decode cX4_worldsOf 21 = .ok (.ishl, 1) := by decide +kernel
theorem dX4_worldsOf_22 : decode cX4_worldsOf 22 = .ok (.ior, 1) := by decide +kernel
theorem dX4_worldsOf_23 : decode cX4_worldsOf 23 = .ok (.istore_n 1, 1) := by decide +kernel
theorem dX4_worldsOf_24 : decode cX4_worldsOf 24 = .ok (.iinc 2 1, 3) := by decide +kernel
theorem dX4_worldsOf_27 : decode cX4_worldsOf 27 = .ok (.goto (-23), 3) := by decide +kernel
theorem dX4_worldsOf_30 : decode cX4_worldsOf 30 = .ok (.iload_n 1, 1) := by decide +kernel
theorem dX4_worldsOf_31 : decode cX4_worldsOf 31 = .ok (.ireturn, 1) := by decide +kernel
set_option maxRecDepth 20000 in
theorem ggX4_push_X4_no : GoodIn wsX4_push wsX4_no := goodIn_r _ [7, 8, 9, 10, 11, 12, 13, 14, 15] (by decide +kernel) (by decide +kernel)
set_option maxRecDepth 20000 in
theorem gX4_push_X4_no : GoodIn wsX4_push (wsV RX4 40 RX4 yX4_no wsX4_no) := goodIn_app (goodIn_of _ (by decide +kernel)) ggX4_push_X4_no
theorem dX4_push_0 : decode cX4_push 0 = .ok (.aload_n 0, 1) := by decide +kernel
theorem dX4_push_1 : decode cX4_push 1 = .ok (.getfield 33, 3) := by decide +kernel
theorem dX4_push_4 : decode cX4_push 4 = .ok (.bipush 12, 2) := by decide +kernel
theorem dX4_push_6 : decode cX4_push 6 = .ok (.if_icmp .ne 9, 3) := by decide +kernel
theorem dX4_push_9 : decode cX4_push 9 = .ok (.aload_n 0, 1) := by decide +kernel
theorem dX4_push_10 : decode cX4_push 10 = .ok (.iload_n 2, 1) := by decide +kernel
theorem dX4_push_11 : decode cX4_push 11 = .ok (.invokevirtual 40, 3) := by decide +kernel
theorem dX4_push_14 : decode cX4_push 14 = .ok (.ireturn, 1) := by decide +kernel
theorem dX4_push_15 : decode cX4_push 15 = .ok (.aload_n 0, 1) := by decide +kernel
theorem dX4_push_16 : decode cX4_push 16 = .ok (.getfield 9, 3) := by decide +kernel
theorem dX4_push_19 : decode cX4_push 19 = .ok (.aload_n 0, 1) := by decide +kernel
theorem dX4_push_20 : decode cX4_push 20 = .ok (.getfield 33, 3) := by decide +kernel
theorem dX4_push_23 : decode cX4_push 23 = .ok (.iload_n 1, 1) := by decide +kernel
theorem dX4_push_24 : decode cX4_push 24 = .ok (.iastore, 1) := by decide +kernel
theorem dX4_push_25 : decode cX4_push 25 = .ok (.aload_n 0, 1) := by decide +kernel
theorem dX4_push_26 : decode cX4_push 26 = .ok (.dup, 1) := by decide +kernel
theorem dX4_push_27 : decode cX4_push 27 = .ok (.getfield 33, 3) := by decide +kernel
theorem dX4_push_30 : decode cX4_push 30 = .ok (.iconst 1, 1) := by decide +kernel
theorem dX4_push_31 : decode cX4_push 31 = .ok (.iadd, 1) := by decide +kernel
theorem dX4_push_32 : decode cX4_push 32 = .ok (.putfield 33, 3) := by decide +kernel
theorem dX4_push_35 : decode cX4_push 35 = .ok (.aload_n 0, 1) := by decide +kernel
theorem dX4_push_36 : decode cX4_push 36 = .ok (.getfield 33, 3) := by decide +kernel
theorem dX4_push_39 : decode cX4_push 39 = .ok (.ireturn, 1) := by decide +kernel
set_option maxRecDepth 20000 in
theorem ggX4_atom_X4_isIn : GoodIn wsX4_atom wsX4_isIn := goodIn_r _ [5] (by decide +kernel) (by decide +kernel)
set_option maxRecDepth 20000 in
theorem gX4_atom_X4_isIn : GoodIn wsX4_atom (va_wsS RX4 29 yX4_isIn wsX4_isIn) := goodIn_app (goodIn_of _ (by decide +kernel)) ggX4_atom_X4_isIn
set_option maxRecDepth 20000 in
theorem ggX4_atom_X4_worldsOf : GoodIn wsX4_atom wsX4_worldsOf := goodIn_r _ [8, 9, 10, 4, 11] (by decide +kernel) (by decide +kernel)
set_option maxRecDepth 20000 in
theorem gX4_atom_X4_worldsOf : GoodIn wsX4_atom (va_wsS RX4 44 yX4_worldsOf wsX4_worldsOf) := goodIn_app (goodIn_of _ (by decide +kernel)) ggX4_atom_X4_worldsOf
set_option maxRecDepth 20000 in
theorem ggX4_atom_X4_push : GoodIn wsX4_atom wsX4_push := goodIn_r _ [15, 16, 17, 18, 19, 20, 4, 21, 1, 22, 23, 24, 25, 26, 27, 28] (by decide +kernel) (by decide +kernel)
set_option maxRecDepth 20000 in
theorem gX4_atom_X4_push : GoodIn wsX4_atom (wsV RX4 47 RX4 yX4_push wsX4_push) := goodIn_app (goodIn_of _ (by decide +kernel)) ggX4_atom_X4_push
set_option maxRecDepth 20000 in
theorem ggX4_atom_X4_no : GoodIn wsX4_atom wsX4_no := goodIn_r _ [21, 1, 22, 23, 24, 25, 26, 27, 28] (by decide +kernel) (by decide +kernel)
set_option maxRecDepth 20000 in
theorem gX4_atom_X4_no : GoodIn wsX4_atom (wsV RX4 40 RX4 yX4_no wsX4_no) := goodIn_app (goodIn_of _ (by decide +kernel)) ggX4_atom_X4_no
theorem dX4_atom_0 : decode cX4_atom 0 = .ok (.aload_n 0, 1) := by decide +kernel
theorem dX4_atom_1 : decode cX4_atom 1 = .ok (.iconst 0, 1) := by decide +kernel
theorem dX4_atom_2 : decode cX4_atom 2 = .ok (.putfield 22, 3) := by decide +kernel
theorem dX4_atom_5 : decode cX4_atom 5 = .ok (.iload_n 1, 1) := by decide +kernel
theorem dX4_atom_6 : decode cX4_atom 6 = .ok (.iconst 0, 1) := by decide +kernel
theorem dX4_atom_7 : decode cX4_atom 7 = .ok (.iconst 3, 1) := by decide +kernel
theorem dX4_atom_8 : decode cX4_atom 8 = .ok (.invokestatic 29, 3) := by decide +kernel
theorem dX4_atom_11 : decode cX4_atom 11 = .ok (.ifCond .eq 15, 3) := by decide +kernel
theorem dX4_atom_14 : decode cX4_atom 14 = .ok (.aload_n 0, 1) := by decide +kernel
theorem dX4_atom_15 : decode cX4_atom 15 = .ok (.iload_n 1, 1) := by decide +kernel
theorem dX4_atom_16 : decode cX4_atom 16 = .ok (.invokestatic 44, 3) := by decide +kernel
theorem dX4_atom_19 : decode cX4_atom 19 = .ok (.iconst 2, 1) := by decide +kernel
theorem dX4_atom_20 : decode cX4_atom 20 = .ok (.invokevirtual 47, 3) := by decide +kernel
theorem dX4_atom_23 : decode cX4_atom 23 = .ok (.goto 8, 3) := by decide +kernel
theorem dX4_atom_26 : decode cX4_atom 26 = .ok (.aload_n 0, 1) := by decide +kernel
theorem dX4_atom_27 : decode cX4_atom 27 = .ok (.iconst 1, 1) := by decide +kernel
theorem dX4_atom_28 : decode cX4_atom 28 = .ok (.invokevirtual 40, 3) := by decide +kernel
theorem dX4_atom_31 : decode cX4_atom 31 = .ok (.ireturn, 1) := by decide +kernel
set_option maxRecDepth 20000 in
theorem ggX4_constant_X4_push : GoodIn wsX4_constant wsX4_push := goodIn_r _ [7, 8, 9, 10, 11, 12, 6, 13, 1, 14, 15, 16, 17, 18, 19, 20] (by decide +kernel) (by decide +kernel)
set_option maxRecDepth 20000 in
theorem gX4_constant_X4_push : GoodIn wsX4_constant (wsV RX4 47 RX4 yX4_push wsX4_push) := goodIn_app (goodIn_of _ (by decide +kernel)) ggX4_constant_X4_push
theorem dX4_constant_0 : decode cX4_constant 0 = .ok (.aload_n 0, 1) := by decide +kernel
theorem dX4_constant_1 : decode cX4_constant 1 = .ok (.iconst 0, 1) := by decide +kernel
theorem dX4_constant_2 : decode cX4_constant 2 = .ok (.putfield 22, 3) := by decide +kernel
theorem dX4_constant_5 : decode cX4_constant 5 = .ok (.aload_n 0, 1) := by decide +kernel
theorem dX4_constant_6 : decode cX4_constant 6 = .ok (.iload_n 1, 1) := by decide +kernel
theorem dX4_constant_7 : decode cX4_constant 7 = .ok (.ifCond .eq 8, 3) := by decide +kernel
theorem dX4_constant_10 : decode cX4_constant 10 = .ok (.ldc 51, 2) := by decide +kernel
theorem dX4_constant_12 : decode cX4_constant 12 = .ok (.goto 4, 3) := by decide +kernel
theorem dX4_constant_15 : decode cX4_constant 15 = .ok (.iconst 0, 1) := by decide +kernel
theorem dX4_constant_16 : decode cX4_constant 16 = .ok (.iconst 1, 1) := by decide +kernel
theorem dX4_constant_17 : decode cX4_constant 17 = .ok (.invokevirtual 47, 3) := by decide +kernel
theorem dX4_constant_20 : decode cX4_constant 20 = .ok (.ireturn, 1) := by decide +kernel
set_option maxRecDepth 20000 in
theorem ggX4_recall_X4_isSentence : GoodIn wsX4_recall wsX4_isSentence := goodIn_r _ [7, 8, 9, 10, 6, 11, 22, 23, 24, 25, 26, 27, 28] (by decide +kernel) (by decide +kernel)
set_option maxRecDepth 20000 in
theorem gX4_recall_X4_isSentence : GoodIn wsX4_recall (wsV RX4 52 RX4 yX4_isSentence wsX4_isSentence) := goodIn_app (goodIn_of _ (by decide +kernel)) ggX4_recall_X4_isSentence
set_option maxRecDepth 20000 in
theorem ggX4_recall_X4_push : GoodIn wsX4_recall wsX4_push := goodIn_r _ [15, 16, 17, 18, 19, 20, 6, 21, 1, 22, 23, 24, 25, 26, 27, 28] (by decide +kernel) (by decide +kernel)
set_option maxRecDepth 20000 in
theorem gX4_recall_X4_push : GoodIn wsX4_recall (wsV RX4 47 RX4 yX4_push wsX4_push) := goodIn_app (goodIn_of _ (by decide +kernel)) ggX4_recall_X4_push
set_option maxRecDepth 20000 in
theorem ggX4_recall_X4_no : GoodIn wsX4_recall wsX4_no := goodIn_r _ [21, 1, 22, 23, 24, 25, 26, 27, 28] (by decide +kernel) (by decide +kernel)
set_option maxRecDepth 20000 in
theorem gX4_recall_X4_no : GoodIn wsX4_recall (wsV RX4 40 RX4 yX4_no wsX4_no) := goodIn_app (goodIn_of _ (by decide +kernel)) ggX4_recall_X4_no
theorem dX4_recall_0 : decode cX4_recall 0 = .ok (.aload_n 0, 1) := by decide +kernel
theorem dX4_recall_1 : decode cX4_recall 1 = .ok (.iconst 0, 1) := by decide +kernel
theorem dX4_recall_2 : decode cX4_recall 2 = .ok (.putfield 22, 3) := by decide +kernel
theorem dX4_recall_5 : decode cX4_recall 5 = .ok (.aload_n 0, 1) := by decide +kernel
theorem dX4_recall_6 : decode cX4_recall 6 = .ok (.iload_n 1, 1) := by decide +kernel
theorem dX4_recall_7 : decode cX4_recall 7 = .ok (.invokevirtual 52, 3) := by decide +kernel
theorem dX4_recall_10 : decode cX4_recall 10 = .ok (.ifCond .eq 17, 3) := by decide +kernel
theorem dX4_recall_13 : decode cX4_recall 13 = .ok (.aload_n 0, 1) := by decide +kernel
theorem dX4_recall_14 : decode cX4_recall 14 = .ok (.aload_n 0, 1) := by decide +kernel
theorem dX4_recall_15 : decode cX4_recall 15 = .ok (.getfield 13, 3) := by decide +kernel
theorem dX4_recall_18 : decode cX4_recall 18 = .ok (.iload_n 1, 1) := by decide +kernel
theorem dX4_recall_19 : decode cX4_recall 19 = .ok (.iaload, 1) := by decide +kernel
theorem dX4_recall_20 : decode cX4_recall 20 = .ok (.iconst 2, 1) := by decide +kernel
theorem dX4_recall_21 : decode cX4_recall 21 = .ok (.invokevirtual 47, 3) := by decide +kernel
theorem dX4_recall_24 : decode cX4_recall 24 = .ok (.goto 8, 3) := by decide +kernel
theorem dX4_recall_27 : decode cX4_recall 27 = .ok (.aload_n 0, 1) := by decide +kernel
theorem dX4_recall_28 : decode cX4_recall 28 = .ok (.iconst 1, 1) := by decide +kernel
theorem dX4_recall_29 : decode cX4_recall 29 = .ok (.invokevirtual 40, 3) := by decide +kernel
theorem dX4_recall_32 : decode cX4_recall 32 = .ok (.ireturn, 1) := by decide +kernel
set_option maxRecDepth 20000 in
theorem ggX4_negate_X4_no : GoodIn wsX4_negate wsX4_no := goodIn_r _ [9, 1, 14, 15, 16, 17, 18, 19, 20] (by decide +kernel) (by decide +kernel)
set_option maxRecDepth 20000 in
theorem gX4_negate_X4_no : GoodIn wsX4_negate (wsV RX4 40 RX4 yX4_no wsX4_no) := goodIn_app (goodIn_of _ (by decide +kernel)) ggX4_negate_X4_no
set_option maxRecDepth 20000 in
theorem ggX4_negate_X4_top : GoodIn wsX4_negate wsX4_top := goodIn_r _ [13, 3, 2, 14, 15, 16, 17, 18, 19, 20] (by decide +kernel) (by decide +kernel)
set_option maxRecDepth 20000 in
theorem gX4_negate_X4_top : GoodIn wsX4_negate (wsV RX4 56 RX4 yX4_top wsX4_top) := goodIn_app (goodIn_of _ (by decide +kernel)) ggX4_negate_X4_top
theorem dX4_negate_0 : decode cX4_negate 0 = .ok (.aload_n 0, 1) := by decide +kernel
theorem dX4_negate_1 : decode cX4_negate 1 = .ok (.iconst 0, 1) := by decide +kernel
theorem dX4_negate_2 : decode cX4_negate 2 = .ok (.putfield 22, 3) := by decide +kernel
theorem dX4_negate_5 : decode cX4_negate 5 = .ok (.aload_n 0, 1) := by decide +kernel
theorem dX4_negate_6 : decode cX4_negate 6 = .ok (.getfield 33, 3) := by decide +kernel
theorem dX4_negate_9 : decode cX4_negate 9 = .ok (.ifCond .ne 9, 3) := by decide +kernel
theorem dX4_negate_12 : decode cX4_negate 12 = .ok (.aload_n 0, 1) := by decide +kernel
theorem dX4_negate_13 : decode cX4_negate 13 = .ok (.iconst 1, 1) := by decide +kernel
theorem dX4_negate_14 : decode cX4_negate 14 = .ok (.invokevirtual 40, 3) := by decide +kernel
theorem dX4_negate_17 : decode cX4_negate 17 = .ok (.ireturn, 1) := by decide +kernel
theorem dX4_negate_18 : decode cX4_negate 18 = .ok (.aload_n 0, 1) := by decide +kernel
theorem dX4_negate_19 : decode cX4_negate 19 = .ok (.getfield 9, 3) := by decide +kernel
theorem dX4_negate_22 : decode cX4_negate 22 = .ok (.aload_n 0, 1) := by decide +kernel
theorem dX4_negate_23 : decode cX4_negate 23 = .ok (.getfield 33, 3) := by decide +kernel
theorem dX4_negate_26 : decode cX4_negate 26 = .ok (.iconst 1, 1) := by decide +kernel
theorem dX4_negate_27 : decode cX4_negate 27 = .ok (.isub, 1) := by decide +kernel
theorem dX4_negate_28 : decode cX4_negate 28 = .ok (.dup2, 1) := by decide +kernel
theorem dX4_negate_29 : decode cX4_negate 29 = .ok (.iaload, 1) := by decide +kernel
theorem dX4_negate_30 : decode cX4_negate 30 = .ok (.ldc 51, 2) := by decide +kernel
theorem dX4_negate_32 : decode cX4_negate 32 = .ok (.ixor, 1) := by decide +kernel
theorem dX4_negate_33 : decode cX4_negate 33 = .ok (.iastore, 1) := by decide +kernel
theorem dX4_negate_34 : decode cX4_negate 34 = .ok (.aload_n 0, 1) := by decide +kernel
theorem dX4_negate_35 : decode cX4_negate 35 = .ok (.iconst 0, 1) := by decide +kernel
theorem dX4_negate_36 : decode cX4_negate 36 = .ok (.invokevirtual 56, 3) := by decide +kernel
theorem dX4_negate_39 : decode cX4_negate 39 = .ok (.ireturn, 1) := by decide +kernel
set_option maxRecDepth 20000 in
theorem ggX4_join_X4_isIn : GoodIn wsX4_join wsX4_isIn := goodIn_r _ [8] (by decide +kernel) (by decide +kernel)
set_option maxRecDepth 20000 in
theorem gX4_join_X4_isIn : GoodIn wsX4_join (va_wsS RX4 29 yX4_isIn wsX4_isIn) := goodIn_app (goodIn_of _ (by decide +kernel)) ggX4_join_X4_isIn
set_option maxRecDepth 20000 in
theorem ggX4_join_X4_no : GoodIn wsX4_join wsX4_no := goodIn_r _ [12, 1, 17, 18, 19, 20, 21, 22, 23] (by decide +kernel) (by decide +kernel)
set_option maxRecDepth 20000 in
theorem gX4_join_X4_no : GoodIn wsX4_join (wsV RX4 40 RX4 yX4_no wsX4_no) := goodIn_app (goodIn_of _ (by decide +kernel)) ggX4_join_X4_no
set_option maxRecDepth 20000 in
theorem ggX4_join_X4_top : GoodIn wsX4_join wsX4_top := goodIn_r _ [16, 3, 2, 17, 18, 19, 20, 21, 22, 23] (by decide +kernel) (by decide +kernel)
set_option maxRecDepth 20000 in
theorem gX4_join_X4_top : GoodIn wsX4_join (wsV RX4 56 RX4 yX4_top wsX4_top) := goodIn_app (goodIn_of _ (by decide +kernel)) ggX4_join_X4_top
theorem dX4_join_0 : decode cX4_join 0 = .ok (.aload_n 0, 1) := by decide +kernel
theorem dX4_join_1 : decode cX4_join 1 = .ok (.iconst 0, 1) := by decide +kernel
theorem dX4_join_2 : decode cX4_join 2 = .ok (.putfield 22, 3) := by decide +kernel
theorem dX4_join_5 : decode cX4_join 5 = .ok (.iload_n 1, 1) := by decide +kernel
theorem dX4_join_6 : decode cX4_join 6 = .ok (.iconst 0, 1) := by decide +kernel
theorem dX4_join_7 : decode cX4_join 7 = .ok (.iconst 3, 1) := by decide +kernel
theorem dX4_join_8 : decode cX4_join 8 = .ok (.invokestatic 29, 3) := by decide +kernel
theorem dX4_join_11 : decode cX4_join 11 = .ok (.ifCond .ne 9, 3) := by decide +kernel
theorem dX4_join_14 : decode cX4_join 14 = .ok (.aload_n 0, 1) := by decide +kernel
theorem dX4_join_15 : decode cX4_join 15 = .ok (.iconst 1, 1) := by decide +kernel
theorem dX4_join_16 : decode cX4_join 16 = .ok (.invokevirtual 40, 3) := by decide +kernel
theorem dX4_join_19 : decode cX4_join 19 = .ok (.ireturn, 1) := by decide +kernel
theorem dX4_join_20 : decode cX4_join 20 = .ok (.aload_n 0, 1) := by decide +kernel
theorem dX4_join_21 : decode cX4_join 21 = .ok (.getfield 33, 3) := by decide +kernel
theorem dX4_join_24 : decode cX4_join 24 = .ok (.iconst 2, 1) := by decide +kernel
theorem dX4_join_25 : decode cX4_join 25 = .ok (.if_icmp .ge 9, 3) := by decide +kernel
theorem dX4_join_28 : decode cX4_join 28 = .ok (.aload_n 0, 1) := by decide +kernel
theorem dX4_join_29 : decode cX4_join 29 = .ok (.iconst 2, 1) := by decide +kernel
theorem dX4_join_30 : decode cX4_join 30 = .ok (.invokevirtual 40, 3) := by decide +kernel
theorem dX4_join_33 : decode cX4_join 33 = .ok (.ireturn, 1) := by decide +kernel
theorem dX4_join_34 : decode cX4_join 34 = .ok (.aload_n 0, 1) := by decide +kernel
theorem dX4_join_35 : decode cX4_join 35 = .ok (.iconst 1, 1) := by decide +kernel
theorem dX4_join_36 : decode cX4_join 36 = .ok (.invokevirtual 56, 3) := by decide +kernel
theorem dX4_join_39 : decode cX4_join 39 = .ok (.istore_n 2, 1) := by decide +kernel
theorem dX4_join_40 : decode cX4_join 40 = .ok (.aload_n 0, 1) := by decide +kernel
theorem dX4_join_41 : decode cX4_join 41 = .ok (.iconst 0, 1) := by decide +kernel
theorem dX4_join_42 : decode cX4_join 42 = .ok (.invokevirtual 56, 3) := by decide +kernel
theorem dX4_join_45 : decode cX4_join 45 = .ok (.istore_n 3, 1) := by decide +kernel
theorem dX4_join_46 : decode cX4_join 46 = .ok (.aload_n 0, 1) := by decide +kernel
theorem dX4_join_47 : decode cX4_join 47 = .ok (.dup, 1) := by decide +kernel
theorem dX4_join_48 : decode cX4_join 48 = .ok (.getfield 33, 3) := by decide +kernel
theorem dX4_join_51 : decode cX4_join 51 = .ok (.iconst 1, 1) := by decide +kernel
theorem dX4_join_52 : decode cX4_join 52 = .ok (.isub, 1) := by decide +kernel
theorem dX4_join_53 : decode cX4_join 53 = .ok (.putfield 33, 3) := by decide +kernel
theorem dX4_join_56 : decode cX4_join 56 = .ok (.aload_n 0, 1) := by decide +kernel
theorem dX4_join_57 : decode cX4_join 57 = .ok (.getfield 9, 3) := by decide +kernel
theorem dX4_join_60 : decode cX4_join 60 = .ok (.aload_n 0, 1) := by decide +kernel
theorem dX4_join_61 : decode cX4_join 61 = .ok (.getfield 33, 3) := by decide +kernel
theorem dX4_join_64 : decode cX4_join 64 = .ok (.iconst 1, 1) := by decide +kernel
theorem dX4_join_65 : decode cX4_join 65 = .ok (.isub, 1) := by decide +kernel
theorem dX4_join_66 : decode cX4_join 66 = .ok (.iload_n 1, 1) := by decide +kernel
theorem dX4_join_67 : decode cX4_join 67 = .ok (.ifCond .ne 9, 3) := by decide +kernel
theorem dX4_join_70 : decode cX4_join 70 = .ok (.iload_n 2, 1) := by decide +kernel
theorem dX4_join_71 : decode cX4_join 71 = .ok (.iload_n 3, 1) := by decide +kernel
theorem dX4_join_72 : decode cX4_join 72 = .ok (.iand, 1) := by decide +kernel
theorem dX4_join_73 : decode cX4_join 73 = .ok (.goto 38, 3) := by decide +kernel
theorem dX4_join_76 : decode cX4_join 76 = .ok (.iload_n 1, 1) := by decide +kernel
theorem dX4_join_77 : decode cX4_join 77 = .ok (.iconst 1, 1) := by decide +kernel
theorem dX4_join_78 : decode cX4_join 78 = .ok (.if_icmp .ne 9, 3) := by decide +kernel
theorem dX4_join_81 : decode cX4_join 81 = .ok (.iload_n 2, 1) := by decide +kernel
theorem dX4_join_82 : decode cX4_join 82 = .ok (.iload_n 3, 1) := by decide +kernel
theorem dX4_join_83 : decode cX4_join 83 = .ok (.ior, 1) := by decide +kernel
theorem dX4_join_84 : decode cX4_join 84 = .ok (.goto 27, 3) := by decide +kernel
theorem dX4_join_87 : decode cX4_join 87 = .ok (.iload_n 1, 1) := by decide +kernel
theorem dX4_join_88 : decode cX4_join 88 = .ok (.iconst 2, 1) := by decide +kernel
theorem dX4_join_89 : decode cX4_join 89 = .ok (.if_icmp .ne 14, 3) := by decide +kernel
theorem dX4_join_92 : decode cX4_join 92 = .ok (.iload_n 2, 1) := by decide +kernel
theorem dX4_join_93 : decode cX4_join 93 = .ok (.iload_n 3, 1) := by decide +kernel
theorem dX4_join_94 : decode cX4_join 94 = .ok (.iconst (-1), 1) := by decide +kernel
theorem dX4_join_95 : decode cX4_join 95 = .ok (.ixor, 1) := by decide +kernel
theorem dX4_join_96 : decode cX4_join 96 = .ok (.ldc 51, 2) := by decide +kernel
theorem dX4_join_98 : decode cX4_join 98 = .ok (.iand, 1) := by decide +kernel
theorem dX4_join_99 : decode cX4_join 99 = .ok (.ior, 1) := by decide +kernel
theorem dX4_join_100 : decode cX4_join 100 = .ok (.goto 11, 3) := by decide +kernel
theorem dX4_join_103 : decode cX4_join 103 = .ok (.iload_n 2, 1) := by decide +kernel
theorem dX4_join_104 : decode cX4_join 104 = .ok (.iload_n 3, 1) := by decide +kernel
theorem dX4_join_105 : decode cX4_join 105 = .ok (.ixor, 1) := by decide +kernel
theorem dX4_join_106 : decode cX4_join 106 = .ok (.iconst (-1), 1) := by decide +kernel
theorem dX4_join_107 : decode cX4_join 107 = .ok (.ixor, 1) := by decide +kernel
theorem dX4_join_108 : decode cX4_join 108 = .ok (.ldc 51, 2) := by decide +kernel
theorem dX4_join_110 : decode cX4_join 110 = .ok (.iand, 1) := by decide +kernel
theorem dX4_join_111 : decode cX4_join 111 = .ok (.iastore, 1) := by decide +kernel
theorem dX4_join_112 : decode cX4_join 112 = .ok (.aload_n 0, 1) := by decide +kernel
theorem dX4_join_113 : decode cX4_join 113 = .ok (.iconst 0, 1) := by decide +kernel
theorem dX4_join_114 : decode cX4_join 114 = .ok (.invokevirtual 56, 3) := by decide +kernel
theorem dX4_join_117 : decode cX4_join 117 = .ok (.ireturn, 1) := by decide +kernel
set_option maxRecDepth 20000 in
theorem ggX4_pop_X4_no : GoodIn wsX4_pop wsX4_no := goodIn_r _ [7, 1, 8, 9, 10, 11, 12, 13, 14] (by decide +kernel) (by decide +kernel)
set_option maxRecDepth 20000 in
theorem gX4_pop_X4_no : GoodIn wsX4_pop (wsV RX4 40 RX4 yX4_no wsX4_no) := goodIn_app (goodIn_of _ (by decide +kernel)) ggX4_pop_X4_no
theorem dX4_pop_0 : decode cX4_pop 0 = .ok (.aload_n 0, 1) := by decide +kernel
theorem dX4_pop_1 : decode cX4_pop 1 = .ok (.iconst 0, 1) := by decide +kernel
theorem dX4_pop_2 : decode cX4_pop 2 = .ok (.putfield 22, 3) := by decide +kernel
theorem dX4_pop_5 : decode cX4_pop 5 = .ok (.aload_n 0, 1) := by decide +kernel
theorem dX4_pop_6 : decode cX4_pop 6 = .ok (.getfield 33, 3) := by decide +kernel
theorem dX4_pop_9 : decode cX4_pop 9 = .ok (.ifCond .ne 9, 3) := by decide +kernel
theorem dX4_pop_12 : decode cX4_pop 12 = .ok (.aload_n 0, 1) := by decide +kernel
theorem dX4_pop_13 : decode cX4_pop 13 = .ok (.iconst 1, 1) := by decide +kernel
theorem dX4_pop_14 : decode cX4_pop 14 = .ok (.invokevirtual 40, 3) := by decide +kernel
theorem dX4_pop_17 : decode cX4_pop 17 = .ok (.ireturn, 1) := by decide +kernel
theorem dX4_pop_18 : decode cX4_pop 18 = .ok (.aload_n 0, 1) := by decide +kernel
theorem dX4_pop_19 : decode cX4_pop 19 = .ok (.dup, 1) := by decide +kernel
theorem dX4_pop_20 : decode cX4_pop 20 = .ok (.getfield 33, 3) := by decide +kernel
theorem dX4_pop_23 : decode cX4_pop 23 = .ok (.iconst 1, 1) := by decide +kernel
theorem dX4_pop_24 : decode cX4_pop 24 = .ok (.isub, 1) := by decide +kernel
theorem dX4_pop_25 : decode cX4_pop 25 = .ok (.putfield 33, 3) := by decide +kernel
theorem dX4_pop_28 : decode cX4_pop 28 = .ok (.aload_n 0, 1) := by decide +kernel
theorem dX4_pop_29 : decode cX4_pop 29 = .ok (.getfield 33, 3) := by decide +kernel
theorem dX4_pop_32 : decode cX4_pop 32 = .ok (.ireturn, 1) := by decide +kernel
theorem dX4_height_0 : decode cX4_height 0 = .ok (.aload_n 0, 1) := by decide +kernel
theorem dX4_height_1 : decode cX4_height 1 = .ok (.iconst 0, 1) := by decide +kernel
theorem dX4_height_2 : decode cX4_height 2 = .ok (.putfield 22, 3) := by decide +kernel
theorem dX4_height_5 : decode cX4_height 5 = .ok (.aload_n 0, 1) := by decide +kernel
theorem dX4_height_6 : decode cX4_height 6 = .ok (.getfield 33, 3) := by decide +kernel
theorem dX4_height_9 : decode cX4_height 9 = .ok (.ireturn, 1) := by decide +kernel
set_option maxRecDepth 20000 in
theorem ggX4_top__X4_no : GoodIn wsX4_top_ wsX4_no := goodIn_r _ [7, 1, 13, 14, 15, 16, 17, 18, 19] (by decide +kernel) (by decide +kernel)
set_option maxRecDepth 20000 in
theorem gX4_top__X4_no : GoodIn wsX4_top_ (wsV RX4 40 RX4 yX4_no wsX4_no) := goodIn_app (goodIn_of _ (by decide +kernel)) ggX4_top__X4_no
set_option maxRecDepth 20000 in
theorem ggX4_top__X4_top : GoodIn wsX4_top_ wsX4_top := goodIn_r _ [11, 12, 2, 13, 14, 15, 16, 17, 18, 19] (by decide +kernel) (by decide +kernel)
set_option maxRecDepth 20000 in
theorem gX4_top__X4_top : GoodIn wsX4_top_ (wsV RX4 56 RX4 yX4_top wsX4_top) := goodIn_app (goodIn_of _ (by decide +kernel)) ggX4_top__X4_top
theorem dX4_top__0 : decode cX4_top_ 0 = .ok (.aload_n 0, 1) := by decide +kernel
theorem dX4_top__1 : decode cX4_top_ 1 = .ok (.iconst 0, 1) := by decide +kernel
theorem dX4_top__2 : decode cX4_top_ 2 = .ok (.putfield 22, 3) := by decide +kernel
theorem dX4_top__5 : decode cX4_top_ 5 = .ok (.aload_n 0, 1) := by decide +kernel
theorem dX4_top__6 : decode cX4_top_ 6 = .ok (.getfield 33, 3) := by decide +kernel
theorem dX4_top__9 : decode cX4_top_ 9 = .ok (.ifCond .ne 11, 3) := by decide +kernel
theorem dX4_top__12 : decode cX4_top_ 12 = .ok (.aload_n 0, 1) := by decide +kernel
theorem dX4_top__13 : decode cX4_top_ 13 = .ok (.iconst 1, 1) := by decide +kernel
theorem dX4_top__14 : decode cX4_top_ 14 = .ok (.invokevirtual 40, 3) := by decide +kernel
theorem dX4_top__17 : decode cX4_top_ 17 = .ok (.goto 8, 3) := by decide +kernel
theorem dX4_top__20 : decode cX4_top_ 20 = .ok (.aload_n 0, 1) := by decide +kernel
theorem dX4_top__21 : decode cX4_top_ 21 = .ok (.iconst 0, 1) := by decide +kernel
theorem dX4_top__22 : decode cX4_top_ 22 = .ok (.invokevirtual 56, 3) := by decide +kernel
theorem dX4_top__25 : decode cX4_top_ 25 = .ok (.ireturn, 1) := by decide +kernel
set_option maxRecDepth 20000 in
theorem ggX4_add_X4_isIn : GoodIn wsX4_add wsX4_isIn := goodIn_r _ [9] (by decide +kernel) (by decide +kernel)
set_option maxRecDepth 20000 in
theorem gX4_add_X4_isIn : GoodIn wsX4_add (va_wsS RX4 29 yX4_isIn wsX4_isIn) := goodIn_app (goodIn_of _ (by decide +kernel)) ggX4_add_X4_isIn
set_option maxRecDepth 20000 in
theorem ggX4_add_X4_no : GoodIn wsX4_add wsX4_no := goodIn_r _ [13, 1, 19, 20, 21, 22, 23, 24, 25] (by decide +kernel) (by decide +kernel)
set_option maxRecDepth 20000 in
theorem gX4_add_X4_no : GoodIn wsX4_add (wsV RX4 40 RX4 yX4_no wsX4_no) := goodIn_app (goodIn_of _ (by decide +kernel)) ggX4_add_X4_no
set_option maxRecDepth 20000 in
theorem ggX4_add_X4_top : GoodIn wsX4_add wsX4_top := goodIn_r _ [17, 18, 2, 19, 20, 21, 22, 23, 24, 25] (by decide +kernel) (by decide +kernel)
set_option maxRecDepth 20000 in
theorem gX4_add_X4_top : GoodIn wsX4_add (wsV RX4 56 RX4 yX4_top wsX4_top) := goodIn_app (goodIn_of _ (by decide +kernel)) ggX4_add_X4_top
theorem dX4_add_0 : decode cX4_add 0 = .ok (.aload_n 0, 1) := by decide +kernel
theorem dX4_add_1 : decode cX4_add 1 = .ok (.iconst 0, 1) := by decide +kernel
theorem dX4_add_2 : decode cX4_add 2 = .ok (.putfield 22, 3) := by decide +kernel
theorem dX4_add_5 : decode cX4_add 5 = .ok (.iload_n 1, 1) := by decide +kernel
theorem dX4_add_6 : decode cX4_add 6 = .ok (.iconst 1, 1) := by decide +kernel
theorem dX4_add_7 : decode cX4_add 7 = .ok (.bipush 9, 2) := by decide +kernel
theorem dX4_add_9 : decode cX4_add 9 = .ok (.invokestatic 29, 3) := by decide +kernel
theorem dX4_add_12 : decode cX4_add 12 = .ok (.ifCond .ne 9, 3) := by decide +kernel
theorem dX4_add_15 : decode cX4_add 15 = .ok (.aload_n 0, 1) := by decide +kernel
theorem dX4_add_16 : decode cX4_add 16 = .ok (.iconst 1, 1) := by decide +kernel
theorem dX4_add_17 : decode cX4_add 17 = .ok (.invokevirtual 40, 3) := by decide +kernel
theorem dX4_add_20 : decode cX4_add 20 = .ok (.ireturn, 1) := by decide +kernel
theorem dX4_add_21 : decode cX4_add 21 = .ok (.aload_n 0, 1) := by decide +kernel
theorem dX4_add_22 : decode cX4_add 22 = .ok (.getfield 33, 3) := by decide +kernel
theorem dX4_add_25 : decode cX4_add 25 = .ok (.ifCond .eq 12, 3) := by decide +kernel
theorem dX4_add_28 : decode cX4_add 28 = .ok (.aload_n 0, 1) := by decide +kernel
theorem dX4_add_29 : decode cX4_add 29 = .ok (.getfield 26, 3) := by decide +kernel
theorem dX4_add_32 : decode cX4_add 32 = .ok (.bipush 10, 2) := by decide +kernel
theorem dX4_add_34 : decode cX4_add 34 = .ok (.if_icmp .ne 9, 3) := by decide +kernel
theorem dX4_add_37 : decode cX4_add 37 = .ok (.aload_n 0, 1) := by decide +kernel
theorem dX4_add_38 : decode cX4_add 38 = .ok (.iconst 2, 1) := by decide +kernel
theorem dX4_add_39 : decode cX4_add 39 = .ok (.invokevirtual 40, 3) := by decide +kernel
theorem dX4_add_42 : decode cX4_add 42 = .ok (.ireturn, 1) := by decide +kernel
theorem dX4_add_43 : decode cX4_add 43 = .ok (.aload_n 0, 1) := by decide +kernel
theorem dX4_add_44 : decode cX4_add 44 = .ok (.getfield 13, 3) := by decide +kernel
theorem dX4_add_47 : decode cX4_add 47 = .ok (.aload_n 0, 1) := by decide +kernel
theorem dX4_add_48 : decode cX4_add 48 = .ok (.getfield 26, 3) := by decide +kernel
theorem dX4_add_51 : decode cX4_add 51 = .ok (.aload_n 0, 1) := by decide +kernel
theorem dX4_add_52 : decode cX4_add 52 = .ok (.iconst 0, 1) := by decide +kernel
theorem dX4_add_53 : decode cX4_add 53 = .ok (.invokevirtual 56, 3) := by decide +kernel
theorem dX4_add_56 : decode cX4_add 56 = .ok (.iastore, 1) := by decide +kernel
theorem dX4_add_57 : decode cX4_add 57 = .ok (.aload_n 0, 1) := by decide +kernel
theorem dX4_add_58 : decode cX4_add 58 = .ok (.getfield 16, 3) := by decide +kernel
theorem dX4_add_61 : decode cX4_add 61 = .ok (.aload_n 0, 1) := by decide +kernel
theorem dX4_add_62 : decode cX4_add 62 = .ok (.getfield 26, 3) := by decide +kernel
theorem dX4_add_65 : decode cX4_add 65 = .ok (.iload_n 1, 1) := by decide +kernel
theorem dX4_add_66 : decode cX4_add 66 = .ok (.iastore, 1) := by decide +kernel
theorem dX4_add_67 : decode cX4_add 67 = .ok (.aload_n 0, 1) := by decide +kernel
theorem dX4_add_68 : decode cX4_add 68 = .ok (.dup, 1) := by decide +kernel
theorem dX4_add_69 : decode cX4_add 69 = .ok (.getfield 26, 3) := by decide +kernel
theorem dX4_add_72 : decode cX4_add 72 = .ok (.iconst 1, 1) := by decide +kernel
theorem dX4_add_73 : decode cX4_add 73 = .ok (.iadd, 1) := by decide +kernel
theorem dX4_add_74 : decode cX4_add 74 = .ok (.putfield 26, 3) := by decide +kernel
theorem dX4_add_77 : decode cX4_add 77 = .ok (.aload_n 0, 1) := by decide +kernel
theorem dX4_add_78 : decode cX4_add 78 = .ok (.getfield 26, 3) := by decide +kernel
theorem dX4_add_81 : decode cX4_add 81 = .ok (.iconst 1, 1) := by decide +kernel
theorem dX4_add_82 : decode cX4_add 82 = .ok (.isub, 1) := by decide +kernel
theorem dX4_add_83 : decode cX4_add 83 = .ok (.ireturn, 1) := by decide +kernel
set_option maxRecDepth 20000 in
theorem ggX4_setRank_X4_isSentence : GoodIn wsX4_setRank wsX4_isSentence := goodIn_r _ [7, 8, 9, 10, 6, 11, 16, 17, 18, 19, 20, 21, 22] (by decide +kernel) (by decide +kernel)
set_option maxRecDepth 20000 in
theorem gX4_setRank_X4_isSentence : GoodIn wsX4_setRank (wsV RX4 52 RX4 yX4_isSentence wsX4_isSentence) := goodIn_app (goodIn_of _ (by decide +kernel)) ggX4_setRank_X4_isSentence
set_option maxRecDepth 20000 in
theorem ggX4_setRank_X4_no : GoodIn wsX4_setRank wsX4_no := goodIn_r _ [15, 1, 16, 17, 18, 19, 20, 21, 22] (by decide +kernel) (by decide +kernel)
set_option maxRecDepth 20000 in
theorem gX4_setRank_X4_no : GoodIn wsX4_setRank (wsV RX4 40 RX4 yX4_no wsX4_no) := goodIn_app (goodIn_of _ (by decide +kernel)) ggX4_setRank_X4_no
set_option maxRecDepth 20000 in
theorem ggX4_setRank_X4_isIn : GoodIn wsX4_setRank wsX4_isIn := goodIn_r _ [11] (by decide +kernel) (by decide +kernel)
set_option maxRecDepth 20000 in
theorem gX4_setRank_X4_isIn : GoodIn wsX4_setRank (va_wsS RX4 29 yX4_isIn wsX4_isIn) := goodIn_app (goodIn_of _ (by decide +kernel)) ggX4_setRank_X4_isIn
theorem dX4_setRank_0 : decode cX4_setRank 0 = .ok (.aload_n 0, 1) := by decide +kernel
theorem dX4_setRank_1 : decode cX4_setRank 1 = .ok (.iconst 0, 1) := by decide +kernel
theorem dX4_setRank_2 : decode cX4_setRank 2 = .ok (.putfield 22, 3) := by decide +kernel
theorem dX4_setRank_5 : decode cX4_setRank 5 = .ok (.aload_n 0, 1) := by decide +kernel
theorem dX4_setRank_6 : decode cX4_setRank 6 = .ok (.iload_n 1, 1) := by decide +kernel
theorem dX4_setRank_7 : decode cX4_setRank 7 = .ok (.invokevirtual 52, 3) := by decide +kernel
theorem dX4_setRank_10 : decode cX4_setRank 10 = .ok (.ifCond .ne 9, 3) := by decide +kernel
theorem dX4_setRank_13 : decode cX4_setRank 13 = .ok (.aload_n 0, 1) := by decide +kernel
theorem dX4_setRank_14 : decode cX4_setRank 14 = .ok (.iconst 1, 1) := by decide +kernel
theorem dX4_setRank_15 : decode cX4_setRank 15 = .ok (.invokevirtual 40, 3) := by decide +kernel
theorem dX4_setRank_18 : decode cX4_setRank 18 = .ok (.ireturn, 1) := by decide +kernel
theorem dX4_setRank_19 : decode cX4_setRank 19 = .ok (.iload_n 2, 1) := by decide +kernel
theorem dX4_setRank_20 : decode cX4_setRank 20 = .ok (.iconst 1, 1) := by decide +kernel
theorem dX4_setRank_21 : decode cX4_setRank 21 = .ok (.bipush 9, 2) := by decide +kernel
theorem dX4_setRank_23 : decode cX4_setRank 23 = .ok (.invokestatic 29, 3) := by decide +kernel
theorem dX4_setRank_26 : decode cX4_setRank 26 = .ok (.ifCond .ne 9, 3) := by decide +kernel
theorem dX4_setRank_29 : decode cX4_setRank 29 = .ok (.aload_n 0, 1) := by decide +kernel
theorem dX4_setRank_30 : decode cX4_setRank 30 = .ok (.iconst 2, 1) := by decide +kernel
theorem dX4_setRank_31 : decode cX4_setRank 31 = .ok (.invokevirtual 40, 3) := by decide +kernel
theorem dX4_setRank_34 : decode cX4_setRank 34 = .ok (.ireturn, 1) := by decide +kernel
theorem dX4_setRank_35 : decode cX4_setRank 35 = .ok (.aload_n 0, 1) := by decide +kernel
theorem dX4_setRank_36 : decode cX4_setRank 36 = .ok (.getfield 16, 3) := by decide +kernel
theorem dX4_setRank_39 : decode cX4_setRank 39 = .ok (.iload_n 1, 1) := by decide +kernel
theorem dX4_setRank_40 : decode cX4_setRank 40 = .ok (.iaload, 1) := by decide +kernel
theorem dX4_setRank_41 : decode cX4_setRank 41 = .ok (.istore_n 3, 1) := by decide +kernel
theorem dX4_setRank_42 : decode cX4_setRank 42 = .ok (.aload_n 0, 1) := by decide +kernel
theorem dX4_setRank_43 : decode cX4_setRank 43 = .ok (.getfield 16, 3) := by decide +kernel
theorem dX4_setRank_46 : decode cX4_setRank 46 = .ok (.iload_n 1, 1) := by decide +kernel
theorem dX4_setRank_47 : decode cX4_setRank 47 = .ok (.iload_n 2, 1) := by decide +kernel
theorem dX4_setRank_48 : decode cX4_setRank 48 = .ok (.iastore, 1) := by decide +kernel
theorem dX4_setRank_49 : decode cX4_setRank 49 = .ok (.iload_n 3, 1) := by decide +kernel
theorem dX4_setRank_50 : decode cX4_setRank 50 = .ok (.ireturn, 1) := by decide +kernel
set_option maxRecDepth 20000 in
theorem ggX4_drop_X4_no : GoodIn wsX4_drop wsX4_no := goodIn_r _ [7, 1, 8, 9, 10, 11, 12, 13, 14] (by decide +kernel) (by decide +kernel)
set_option maxRecDepth 20000 in
theorem gX4_drop_X4_no : GoodIn wsX4_drop (wsV RX4 40 RX4 yX4_no wsX4_no) := goodIn_app (goodIn_of _ (by decide +kernel)) ggX4_drop_X4_no
theorem dX4_drop_0 : decode cX4_drop 0 = .ok (.aload_n 0, 1) := by decide +kernel
theorem dX4_drop_1 : decode cX4_drop 1 = .ok (.iconst 0, 1) := by decide +kernel
theorem dX4_drop_2 : decode cX4_drop 2 = .ok (.putfield 22, 3) := by decide +kernel
theorem dX4_drop_5 : decode cX4_drop 5 = .ok (.aload_n 0, 1) := by decide +kernel
theorem dX4_drop_6 : decode cX4_drop 6 = .ok (.getfield 26, 3) := by decide +kernel
theorem dX4_drop_9 : decode cX4_drop 9 = .ok (.ifCond .ne 9, 3) := by decide +kernel
theorem dX4_drop_12 : decode cX4_drop 12 = .ok (.aload_n 0, 1) := by decide +kernel
theorem dX4_drop_13 : decode cX4_drop 13 = .ok (.iconst 1, 1) := by decide +kernel
theorem dX4_drop_14 : decode cX4_drop 14 = .ok (.invokevirtual 40, 3) := by decide +kernel
theorem dX4_drop_17 : decode cX4_drop 17 = .ok (.ireturn, 1) := by decide +kernel
theorem dX4_drop_18 : decode cX4_drop 18 = .ok (.aload_n 0, 1) := by decide +kernel
theorem dX4_drop_19 : decode cX4_drop 19 = .ok (.dup, 1) := by decide +kernel
theorem dX4_drop_20 : decode cX4_drop 20 = .ok (.getfield 26, 3) := by decide +kernel
theorem dX4_drop_23 : decode cX4_drop 23 = .ok (.iconst 1, 1) := by decide +kernel
theorem dX4_drop_24 : decode cX4_drop 24 = .ok (.isub, 1) := by decide +kernel
theorem dX4_drop_25 : decode cX4_drop 25 = .ok (.putfield 26, 3) := by decide +kernel
theorem dX4_drop_28 : decode cX4_drop 28 = .ok (.aload_n 0, 1) := by decide +kernel
theorem dX4_drop_29 : decode cX4_drop 29 = .ok (.getfield 26, 3) := by decide +kernel
theorem dX4_drop_32 : decode cX4_drop 32 = .ok (.ireturn, 1) := by decide +kernel
set_option maxRecDepth 20000 in
theorem ggX4_giveUp_X4_isSet : GoodIn wsX4_giveUp wsX4_isSet := goodIn_r _ [9, 2, 10, 11, 8, 12, 20, 21, 22, 23, 24, 25, 26] (by decide +kernel) (by decide +kernel)
set_option maxRecDepth 20000 in
theorem gX4_giveUp_X4_isSet : GoodIn wsX4_giveUp (wsV RX4 59 RX4 yX4_isSet wsX4_isSet) := goodIn_app (goodIn_of _ (by decide +kernel)) ggX4_giveUp_X4_isSet
set_option maxRecDepth 20000 in
theorem ggX4_giveUp_X4_no : GoodIn wsX4_giveUp wsX4_no := goodIn_r _ [16, 1, 20, 21, 22, 23, 24, 25, 26] (by decide +kernel) (by decide +kernel)
set_option maxRecDepth 20000 in
theorem gX4_giveUp_X4_no : GoodIn wsX4_giveUp (wsV RX4 40 RX4 yX4_no wsX4_no) := goodIn_app (goodIn_of _ (by decide +kernel)) ggX4_giveUp_X4_no
set_option maxRecDepth 20000 in
theorem ggX4_giveUp_X4_has : GoodIn wsX4_giveUp wsX4_has := goodIn_r _ [19] (by decide +kernel) (by decide +kernel)
set_option maxRecDepth 20000 in
theorem gX4_giveUp_X4_has : GoodIn wsX4_giveUp (va_wsS RX4 36 yX4_has wsX4_has) := goodIn_app (goodIn_of _ (by decide +kernel)) ggX4_giveUp_X4_has
theorem dX4_giveUp_0 : decode cX4_giveUp 0 = .ok (.aload_n 0, 1) := by decide +kernel
theorem dX4_giveUp_1 : decode cX4_giveUp 1 = .ok (.iconst 0, 1) := by decide +kernel
theorem dX4_giveUp_2 : decode cX4_giveUp 2 = .ok (.putfield 22, 3) := by decide +kernel
theorem dX4_giveUp_5 : decode cX4_giveUp 5 = .ok (.aload_n 0, 1) := by decide +kernel
theorem dX4_giveUp_6 : decode cX4_giveUp 6 = .ok (.iload_n 1, 1) := by decide +kernel
theorem dX4_giveUp_7 : decode cX4_giveUp 7 = .ok (.invokevirtual 59, 3) := by decide +kernel
theorem dX4_giveUp_10 : decode cX4_giveUp 10 = .ok (.ifCond .ne 9, 3) := by decide +kernel
theorem dX4_giveUp_13 : decode cX4_giveUp 13 = .ok (.aload_n 0, 1) := by decide +kernel
theorem dX4_giveUp_14 : decode cX4_giveUp 14 = .ok (.iconst 1, 1) := by decide +kernel
theorem dX4_giveUp_15 : decode cX4_giveUp 15 = .ok (.invokevirtual 40, 3) := by decide +kernel
theorem dX4_giveUp_18 : decode cX4_giveUp 18 = .ok (.ireturn, 1) := by decide +kernel
theorem dX4_giveUp_19 : decode cX4_giveUp 19 = .ok (.iconst 0, 1) := by decide +kernel
theorem dX4_giveUp_20 : decode cX4_giveUp 20 = .ok (.istore_n 2, 1) := by decide +kernel
theorem dX4_giveUp_21 : decode cX4_giveUp 21 = .ok (.iconst 0, 1) := by decide +kernel
theorem dX4_giveUp_22 : decode cX4_giveUp 22 = .ok (.istore_n 3, 1) := by decide +kernel
theorem dX4_giveUp_23 : decode cX4_giveUp 23 = .ok (.iload_n 3, 1) := by decide +kernel
theorem dX4_giveUp_24 : decode cX4_giveUp 24 = .ok (.aload_n 0, 1) := by decide +kernel
theorem dX4_giveUp_25 : decode cX4_giveUp 25 = .ok (.getfield 26, 3) := by decide +kernel
theorem dX4_giveUp_28 : decode cX4_giveUp 28 = .ok (.if_icmp .ge 47, 3) := by decide +kernel
theorem dX4_giveUp_31 : decode cX4_giveUp 31 = .ok (.iload_n 1, 1) := by decide +kernel
theorem dX4_giveUp_32 : decode cX4_giveUp 32 = .ok (.iload_n 3, 1) := by decide +kernel
theorem dX4_giveUp_33 : decode cX4_giveUp 33 = .ok (.invokestatic 36, 3) := by decide +kernel
theorem dX4_giveUp_36 : decode cX4_giveUp 36 = .ok (.ifCond .eq 6, 3) := by decide +kernel
theorem dX4_giveUp_39 : decode cX4_giveUp 39 = .ok (.goto 30, 3) := by decide +kernel
theorem dX4_giveUp_42 : decode cX4_giveUp 42 = .ok (.aload_n 0, 1) := by decide +kernel
theorem dX4_giveUp_43 : decode cX4_giveUp 43 = .ok (.getfield 13, 3) := by decide +kernel
theorem dX4_giveUp_46 : decode cX4_giveUp 46 = .ok (.iload_n 2, 1) := by decide +kernel
theorem dX4_giveUp_47 : decode cX4_giveUp 47 = .ok (.aload_n 0, 1) := by decide +kernel
theorem dX4_giveUp_48 : decode cX4_giveUp 48 = .ok (.getfield 13, 3) := by decide +kernel
theorem dX4_giveUp_51 : decode cX4_giveUp 51 = .ok (.iload_n 3, 1) := by decide +kernel
theorem dX4_giveUp_52 : decode cX4_giveUp 52 = .ok (.iaload, 1) := by decide +kernel
theorem dX4_giveUp_53 : decode cX4_giveUp 53 = .ok (.iastore, 1) := by decide +kernel
theorem dX4_giveUp_54 : decode cX4_giveUp 54 = .ok (.aload_n 0, 1) := by decide +kernel
theorem dX4_giveUp_55 : decode cX4_giveUp 55 = .ok (.getfield 16, 3) := by decide +kernel
theorem dX4_giveUp_58 : decode cX4_giveUp 58 = .ok (.iload_n 2, 1) := by decide +kernel
theorem dX4_giveUp_59 : decode cX4_giveUp 59 = .ok (.aload_n 0, 1) := by decide +kernel
theorem dX4_giveUp_60 : decode cX4_giveUp 60 = .ok (.getfield 16, 3) := by decide +kernel
theorem dX4_giveUp_63 : decode cX4_giveUp 63 = .ok (.iload_n 3, 1) := by decide +kernel
theorem dX4_giveUp_64 : decode cX4_giveUp 64 = .ok (.iaload, 1) := by decide +kernel
theorem dX4_giveUp_65 : decode cX4_giveUp 65 = .ok (.iastore, 1) := by decide +kernel
theorem dX4_giveUp_66 : decode cX4_giveUp 66 = .ok (.iinc 2 1, 3) := by decide +kernel
theorem dX4_giveUp_69 : decode cX4_giveUp 69 = .ok (.iinc 3 1, 3) := by decide +kernel
theorem dX4_giveUp_72 : decode cX4_giveUp 72 = .ok (.goto (-49), 3) := by decide +kernel
theorem dX4_giveUp_75 : decode cX4_giveUp 75 = .ok (.aload_n 0, 1) := by decide +kernel
theorem dX4_giveUp_76 : decode cX4_giveUp 76 = .ok (.iload_n 2, 1) := by decide +kernel
theorem dX4_giveUp_77 : decode cX4_giveUp 77 = .ok (.putfield 26, 3) := by decide +kernel
theorem dX4_giveUp_80 : decode cX4_giveUp 80 = .ok (.aload_n 0, 1) := by decide +kernel
theorem dX4_giveUp_81 : decode cX4_giveUp 81 = .ok (.getfield 26, 3) := by decide +kernel
theorem dX4_giveUp_84 : decode cX4_giveUp 84 = .ok (.ireturn, 1) := by decide +kernel
theorem dX4_size_0 : decode cX4_size 0 = .ok (.aload_n 0, 1) := by decide +kernel
theorem dX4_size_1 : decode cX4_size 1 = .ok (.iconst 0, 1) := by decide +kernel
theorem dX4_size_2 : decode cX4_size 2 = .ok (.putfield 22, 3) := by decide +kernel
theorem dX4_size_5 : decode cX4_size 5 = .ok (.aload_n 0, 1) := by decide +kernel
theorem dX4_size_6 : decode cX4_size 6 = .ok (.getfield 26, 3) := by decide +kernel
theorem dX4_size_9 : decode cX4_size 9 = .ok (.ireturn, 1) := by decide +kernel
set_option maxRecDepth 20000 in
theorem ggX4_sentence_X4_isSentence : GoodIn wsX4_sentence wsX4_isSentence := goodIn_r _ [8, 9, 10, 11, 7, 12, 17, 18, 19, 20, 21, 22, 23] (by decide +kernel) (by decide +kernel)
set_option maxRecDepth 20000 in
theorem gX4_sentence_X4_isSentence : GoodIn wsX4_sentence (wsV RX4 52 RX4 yX4_isSentence wsX4_isSentence) := goodIn_app (goodIn_of _ (by decide +kernel)) ggX4_sentence_X4_isSentence
set_option maxRecDepth 20000 in
theorem ggX4_sentence_X4_no : GoodIn wsX4_sentence wsX4_no := goodIn_r _ [16, 1, 17, 18, 19, 20, 21, 22, 23] (by decide +kernel) (by decide +kernel)
set_option maxRecDepth 20000 in
theorem gX4_sentence_X4_no : GoodIn wsX4_sentence (wsV RX4 40 RX4 yX4_no wsX4_no) := goodIn_app (goodIn_of _ (by decide +kernel)) ggX4_sentence_X4_no
theorem dX4_sentence_0 : decode cX4_sentence 0 = .ok (.aload_n 0, 1) := by decide +kernel
theorem dX4_sentence_1 : decode cX4_sentence 1 = .ok (.iconst 0, 1) := by decide +kernel
theorem dX4_sentence_2 : decode cX4_sentence 2 = .ok (.putfield 22, 3) := by decide +kernel
theorem dX4_sentence_5 : decode cX4_sentence 5 = .ok (.aload_n 0, 1) := by decide +kernel
theorem dX4_sentence_6 : decode cX4_sentence 6 = .ok (.iload_n 1, 1) := by decide +kernel
theorem dX4_sentence_7 : decode cX4_sentence 7 = .ok (.invokevirtual 52, 3) := by decide +kernel
theorem dX4_sentence_10 : decode cX4_sentence 10 = .ok (.ifCond .ne 11, 3) := by decide +kernel
theorem dX4_sentence_13 : decode cX4_sentence 13 = .ok (.aload_n 0, 1) := by decide +kernel
theorem dX4_sentence_14 : decode cX4_sentence 14 = .ok (.iconst 1, 1) := by decide +kernel
theorem dX4_sentence_15 : decode cX4_sentence 15 = .ok (.invokevirtual 40, 3) := by decide +kernel
theorem dX4_sentence_18 : decode cX4_sentence 18 = .ok (.goto 22, 3) := by decide +kernel
theorem dX4_sentence_21 : decode cX4_sentence 21 = .ok (.iload_n 2, 1) := by decide +kernel
theorem dX4_sentence_22 : decode cX4_sentence 22 = .ok (.ifCond .eq 12, 3) := by decide +kernel
theorem dX4_sentence_25 : decode cX4_sentence 25 = .ok (.aload_n 0, 1) := by decide +kernel
theorem dX4_sentence_26 : decode cX4_sentence 26 = .ok (.getfield 16, 3) := by decide +kernel
theorem dX4_sentence_29 : decode cX4_sentence 29 = .ok (.iload_n 1, 1) := by decide +kernel
theorem dX4_sentence_30 : decode cX4_sentence 30 = .ok (.iaload, 1) := by decide +kernel
theorem dX4_sentence_31 : decode cX4_sentence 31 = .ok (.goto 9, 3) := by decide +kernel
theorem dX4_sentence_34 : decode cX4_sentence 34 = .ok (.aload_n 0, 1) := by decide +kernel
theorem dX4_sentence_35 : decode cX4_sentence 35 = .ok (.getfield 13, 3) := by decide +kernel
theorem dX4_sentence_38 : decode cX4_sentence 38 = .ok (.iload_n 1, 1) := by decide +kernel
theorem dX4_sentence_39 : decode cX4_sentence 39 = .ok (.iaload, 1) := by decide +kernel
theorem dX4_sentence_40 : decode cX4_sentence 40 = .ok (.ireturn, 1) := by decide +kernel
set_option maxRecDepth 20000 in
theorem ggX4_worldsIn_X4_has : GoodIn wsX4_worldsIn wsX4_has := goodIn_r _ [7] (by decide +kernel) (by decide +kernel)
set_option maxRecDepth 20000 in
theorem gX4_worldsIn_X4_has : GoodIn wsX4_worldsIn (va_wsS RX4 36 yX4_has wsX4_has) := goodIn_app (goodIn_of _ (by decide +kernel)) ggX4_worldsIn_X4_has
theorem dX4_worldsIn_0 : decode cX4_worldsIn 0 = .ok (.ldc 51, 2) := by decide +kernel
theorem dX4_worldsIn_2 : decode cX4_worldsIn 2 = .ok (.istore_n 2, 1) := by decide +kernel
theorem dX4_worldsIn_3 : decode cX4_worldsIn 3 = .ok (.iconst 0, 1) := by decide +kernel
theorem dX4_worldsIn_4 : decode cX4_worldsIn 4 = .ok (.istore_n 3, 1) := by decide +kernel
theorem dX4_worldsIn_5 : decode cX4_worldsIn 5 = .ok (.iload_n 3, 1) := by decide +kernel
theorem dX4_worldsIn_6 : decode cX4_worldsIn 6 = .ok (.aload_n 0, 1) := by decide +kernel
theorem dX4_worldsIn_7 : decode cX4_worldsIn 7 = .ok (.getfield 26, 3) := by decide +kernel
theorem dX4_worldsIn_10 : decode cX4_worldsIn 10 = .ok (.if_icmp .ge 26, 3) := by decide +kernel
theorem dX4_worldsIn_13 : decode cX4_worldsIn 13 = .ok (.iload_n 1, 1) := by decide +kernel
theorem dX4_worldsIn_14 : decode cX4_worldsIn 14 = .ok (.iload_n 3, 1) := by decide +kernel
theorem dX4_worldsIn_15 : decode cX4_worldsIn 15 = .ok (.invokestatic 36, 3) := by decide +kernel
theorem dX4_worldsIn_18 : decode cX4_worldsIn 18 = .ok (.ifCond .eq 12, 3) := by decide +kernel
theorem dX4_worldsIn_21 : decode cX4_worldsIn 21 = .ok (.iload_n 2, 1) := by decide +kernel
theorem dX4_worldsIn_22 : decode cX4_worldsIn 22 = .ok (.aload_n 0, 1) := by decide +kernel
theorem dX4_worldsIn_23 : decode cX4_worldsIn 23 = .ok (.getfield 13, 3) := by decide +kernel
theorem dX4_worldsIn_26 : decode cX4_worldsIn 26 = .ok (.iload_n 3, 1) := by decide +kernel
theorem dX4_worldsIn_27 : decode cX4_worldsIn 27 = .ok (.iaload, 1) := by decide +kernel
theorem dX4_worldsIn_28 : decode cX4_worldsIn 28 = .ok (.iand, 1) := by decide +kernel
theorem dX4_worldsIn_29 : decode cX4_worldsIn 29 = .ok (.istore_n 2, 1) := by decide +kernel
theorem dX4_worldsIn_30 : decode cX4_worldsIn 30 = .ok (.iinc 3 1, 3) := by decide +kernel
theorem dX4_worldsIn_33 : decode cX4_worldsIn 33 = .ok (.goto (-28), 3) := by decide +kernel
theorem dX4_worldsIn_36 : decode cX4_worldsIn 36 = .ok (.iload_n 2, 1) := by decide +kernel
theorem dX4_worldsIn_37 : decode cX4_worldsIn 37 = .ok (.ireturn, 1) := by decide +kernel
set_option maxRecDepth 20000 in
theorem ggX4_worlds_X4_isSet : GoodIn wsX4_worlds wsX4_isSet := goodIn_r _ [6, 7, 8, 9, 5, 10, 24, 25, 26, 27, 28, 29, 30] (by decide +kernel) (by decide +kernel)
set_option maxRecDepth 20000 in
theorem gX4_worlds_X4_isSet : GoodIn wsX4_worlds (wsV RX4 59 RX4 yX4_isSet wsX4_isSet) := goodIn_app (goodIn_of _ (by decide +kernel)) ggX4_worlds_X4_isSet
set_option maxRecDepth 20000 in
theorem ggX4_worlds_X4_worldsIn : GoodIn wsX4_worlds wsX4_worldsIn := goodIn_r _ [14, 15, 7, 16, 17, 18, 5, 19, 24, 25, 26, 27, 28, 29, 30] (by decide +kernel) (by decide +kernel)
set_option maxRecDepth 20000 in
theorem gX4_worlds_X4_worldsIn : GoodIn wsX4_worlds (wsV RX4 62 RX4 yX4_worldsIn wsX4_worldsIn) := goodIn_app (goodIn_of _ (by decide +kernel)) ggX4_worlds_X4_worldsIn
set_option maxRecDepth 20000 in
theorem ggX4_worlds_X4_no : GoodIn wsX4_worlds wsX4_no := goodIn_r _ [23, 1, 24, 25, 26, 27, 28, 29, 30] (by decide +kernel) (by decide +kernel)
set_option maxRecDepth 20000 in
theorem gX4_worlds_X4_no : GoodIn wsX4_worlds (wsV RX4 40 RX4 yX4_no wsX4_no) := goodIn_app (goodIn_of _ (by decide +kernel)) ggX4_worlds_X4_no
theorem dX4_worlds_0 : decode cX4_worlds 0 = .ok (.aload_n 0, 1) := by decide +kernel
theorem dX4_worlds_1 : decode cX4_worlds 1 = .ok (.iconst 0, 1) := by decide +kernel
theorem dX4_worlds_2 : decode cX4_worlds 2 = .ok (.putfield 22, 3) := by decide +kernel
theorem dX4_worlds_5 : decode cX4_worlds 5 = .ok (.aload_n 0, 1) := by decide +kernel
theorem dX4_worlds_6 : decode cX4_worlds 6 = .ok (.iload_n 1, 1) := by decide +kernel
theorem dX4_worlds_7 : decode cX4_worlds 7 = .ok (.invokevirtual 59, 3) := by decide +kernel
theorem dX4_worlds_10 : decode cX4_worlds 10 = .ok (.ifCond .eq 11, 3) := by decide +kernel
theorem dX4_worlds_13 : decode cX4_worlds 13 = .ok (.aload_n 0, 1) := by decide +kernel
theorem dX4_worlds_14 : decode cX4_worlds 14 = .ok (.iload_n 1, 1) := by decide +kernel
theorem dX4_worlds_15 : decode cX4_worlds 15 = .ok (.invokevirtual 62, 3) := by decide +kernel
theorem dX4_worlds_18 : decode cX4_worlds 18 = .ok (.goto 8, 3) := by decide +kernel
theorem dX4_worlds_21 : decode cX4_worlds 21 = .ok (.aload_n 0, 1) := by decide +kernel
theorem dX4_worlds_22 : decode cX4_worlds 22 = .ok (.iconst 1, 1) := by decide +kernel
theorem dX4_worlds_23 : decode cX4_worlds 23 = .ok (.invokevirtual 40, 3) := by decide +kernel
theorem dX4_worlds_26 : decode cX4_worlds 26 = .ok (.ireturn, 1) := by decide +kernel
set_option maxRecDepth 20000 in
theorem ggX4_doEntail_X4_worldsIn : GoodIn wsX4_doEntail wsX4_worldsIn := goodIn_r _ [5, 6, 7, 8, 9, 10, 4, 11, 12, 13, 14, 15, 16, 17, 18] (by decide +kernel) (by decide +kernel)
set_option maxRecDepth 20000 in
theorem gX4_doEntail_X4_worldsIn : GoodIn wsX4_doEntail (wsV RX4 62 RX4 yX4_worldsIn wsX4_worldsIn) := goodIn_app (goodIn_of _ (by decide +kernel)) ggX4_doEntail_X4_worldsIn
theorem dX4_doEntail_0 : decode cX4_doEntail 0 = .ok (.aload_n 0, 1) := by decide +kernel
theorem dX4_doEntail_1 : decode cX4_doEntail 1 = .ok (.iload_n 1, 1) := by decide +kernel
theorem dX4_doEntail_2 : decode cX4_doEntail 2 = .ok (.invokevirtual 62, 3) := by decide +kernel
theorem dX4_doEntail_5 : decode cX4_doEntail 5 = .ok (.iload_n 2, 1) := by decide +kernel
theorem dX4_doEntail_6 : decode cX4_doEntail 6 = .ok (.iconst (-1), 1) := by decide +kernel
theorem dX4_doEntail_7 : decode cX4_doEntail 7 = .ok (.ixor, 1) := by decide +kernel
theorem dX4_doEntail_8 : decode cX4_doEntail 8 = .ok (.iand, 1) := by decide +kernel
theorem dX4_doEntail_9 : decode cX4_doEntail 9 = .ok (.ifCond .ne 7, 3) := by decide +kernel
theorem dX4_doEntail_12 : decode cX4_doEntail 12 = .ok (.iconst 1, 1) := by decide +kernel
theorem dX4_doEntail_13 : decode cX4_doEntail 13 = .ok (.goto 4, 3) := by decide +kernel
theorem dX4_doEntail_16 : decode cX4_doEntail 16 = .ok (.iconst 0, 1) := by decide +kernel
theorem dX4_doEntail_17 : decode cX4_doEntail 17 = .ok (.ireturn, 1) := by decide +kernel
set_option maxRecDepth 20000 in
theorem ggX4_entails_X4_isSet : GoodIn wsX4_entails wsX4_isSet := goodIn_r _ [7, 8, 9, 10, 6, 11, 30, 31, 32, 33, 34, 35, 36] (by decide +kernel) (by decide +kernel)
set_option maxRecDepth 20000 in
theorem gX4_entails_X4_isSet : GoodIn wsX4_entails (wsV RX4 59 RX4 yX4_isSet wsX4_isSet) := goodIn_app (goodIn_of _ (by decide +kernel)) ggX4_entails_X4_isSet
set_option maxRecDepth 20000 in
theorem ggX4_entails_X4_top : GoodIn wsX4_entails wsX4_top := goodIn_r _ [15, 16, 1, 30, 31, 32, 33, 34, 35, 36] (by decide +kernel) (by decide +kernel)
set_option maxRecDepth 20000 in
theorem gX4_entails_X4_top : GoodIn wsX4_entails (wsV RX4 56 RX4 yX4_top wsX4_top) := goodIn_app (goodIn_of _ (by decide +kernel)) ggX4_entails_X4_top
set_option maxRecDepth 20000 in
theorem ggX4_entails_X4_doEntail : GoodIn wsX4_entails wsX4_doEntail := goodIn_r _ [20, 21, 22, 23, 6, 24, 25, 8, 26, 27, 28, 29, 30, 31, 32, 33, 34, 35, 36] (by decide +kernel) (by decide +kernel)
set_option maxRecDepth 20000 in
theorem gX4_entails_X4_doEntail : GoodIn wsX4_entails (wsV RX4 65 RX4 yX4_doEntail wsX4_doEntail) := goodIn_app (goodIn_of _ (by decide +kernel)) ggX4_entails_X4_doEntail
theorem dX4_entails_0 : decode cX4_entails 0 = .ok (.aload_n 0, 1) := by decide +kernel
theorem dX4_entails_1 : decode cX4_entails 1 = .ok (.aload_n 0, 1) := by decide +kernel
theorem dX4_entails_2 : decode cX4_entails 2 = .ok (.getfield 33, 3) := by decide +kernel
theorem dX4_entails_5 : decode cX4_entails 5 = .ok (.ifCond .ne 7, 3) := by decide +kernel
theorem dX4_entails_8 : decode cX4_entails 8 = .ok (.iconst 1, 1) := by decide +kernel
theorem dX4_entails_9 : decode cX4_entails 9 = .ok (.goto 16, 3) := by decide +kernel
theorem dX4_entails_12 : decode cX4_entails 12 = .ok (.aload_n 0, 1) := by decide +kernel
theorem dX4_entails_13 : decode cX4_entails 13 = .ok (.iload_n 1, 1) := by decide +kernel
theorem dX4_entails_14 : decode cX4_entails 14 = .ok (.invokevirtual 59, 3) := by decide +kernel
theorem dX4_entails_17 : decode cX4_entails 17 = .ok (.ifCond .eq 7, 3) := by decide +kernel
theorem dX4_entails_20 : decode cX4_entails 20 = .ok (.iconst 0, 1) := by decide +kernel
theorem dX4_entails_21 : decode cX4_entails 21 = .ok (.goto 4, 3) := by decide +kernel
theorem dX4_entails_24 : decode cX4_entails 24 = .ok (.iconst 2, 1) := by decide +kernel
theorem dX4_entails_25 : decode cX4_entails 25 = .ok (.putfield 22, 3) := by decide +kernel
theorem dX4_entails_28 : decode cX4_entails 28 = .ok (.aload_n 0, 1) := by decide +kernel
theorem dX4_entails_29 : decode cX4_entails 29 = .ok (.getfield 22, 3) := by decide +kernel
theorem dX4_entails_32 : decode cX4_entails 32 = .ok (.ifCond .ne 20, 3) := by decide +kernel
theorem dX4_entails_35 : decode cX4_entails 35 = .ok (.aload_n 0, 1) := by decide +kernel
theorem dX4_entails_36 : decode cX4_entails 36 = .ok (.iload_n 1, 1) := by decide +kernel
theorem dX4_entails_37 : decode cX4_entails 37 = .ok (.aload_n 0, 1) := by decide +kernel
theorem dX4_entails_38 : decode cX4_entails 38 = .ok (.iconst 0, 1) := by decide +kernel
theorem dX4_entails_39 : decode cX4_entails 39 = .ok (.invokevirtual 56, 3) := by decide +kernel
theorem dX4_entails_42 : decode cX4_entails 42 = .ok (.invokevirtual 65, 3) := by decide +kernel
theorem dX4_entails_45 : decode cX4_entails 45 = .ok (.ifCond .eq 7, 3) := by decide +kernel
theorem dX4_entails_48 : decode cX4_entails 48 = .ok (.iconst 1, 1) := by decide +kernel
theorem dX4_entails_49 : decode cX4_entails 49 = .ok (.goto 4, 3) := by decide +kernel
theorem dX4_entails_52 : decode cX4_entails 52 = .ok (.iconst 0, 1) := by decide +kernel
theorem dX4_entails_53 : decode cX4_entails 53 = .ok (.ireturn, 1) := by decide +kernel
set_option maxRecDepth 20000 in
theorem ggX4_isKernel_X4_doEntail : GoodIn wsX4_isKernel wsX4_doEntail := goodIn_r _ [6, 7, 8, 9, 5, 10, 11, 1, 12, 13, 14, 15, 16, 17, 18, 19, 20, 21, 22] (by decide +kernel) (by decide +kernel)
set_option maxRecDepth 20000 in
theorem gX4_isKernel_X4_doEntail : GoodIn wsX4_isKernel (wsV RX4 65 RX4 yX4_doEntail wsX4_doEntail) := goodIn_app (goodIn_of _ (by decide +kernel)) ggX4_isKernel_X4_doEntail
set_option maxRecDepth 20000 in
theorem ggX4_isKernel_X4_has : GoodIn wsX4_isKernel wsX4_has := goodIn_r _ [15] (by decide +kernel) (by decide +kernel)
set_option maxRecDepth 20000 in
theorem gX4_isKernel_X4_has : GoodIn wsX4_isKernel (va_wsS RX4 36 yX4_has wsX4_has) := goodIn_app (goodIn_of _ (by decide +kernel)) ggX4_isKernel_X4_has
theorem dX4_isKernel_0 : decode cX4_isKernel 0 = .ok (.aload_n 0, 1) := by decide +kernel
theorem dX4_isKernel_1 : decode cX4_isKernel 1 = .ok (.iload_n 1, 1) := by decide +kernel
theorem dX4_isKernel_2 : decode cX4_isKernel 2 = .ok (.iload_n 2, 1) := by decide +kernel
theorem dX4_isKernel_3 : decode cX4_isKernel 3 = .ok (.invokevirtual 65, 3) := by decide +kernel
theorem dX4_isKernel_6 : decode cX4_isKernel 6 = .ok (.istore_n 3, 1) := by decide +kernel
theorem dX4_isKernel_7 : decode cX4_isKernel 7 = .ok (.iconst 0, 1) := by decide +kernel
theorem dX4_isKernel_8 : decode cX4_isKernel 8 = .ok (.istore 4, 2) := by decide +kernel
theorem dX4_isKernel_10 : decode cX4_isKernel 10 = .ok (.iload 4, 2) := by decide +kernel
theorem dX4_isKernel_12 : decode cX4_isKernel 12 = .ok (.aload_n 0, 1) := by decide +kernel
theorem dX4_isKernel_13 : decode cX4_isKernel 13 = .ok (.getfield 26, 3) := by decide +kernel
theorem dX4_isKernel_16 : decode cX4_isKernel 16 = .ok (.if_icmp .ge 44, 3) := by decide +kernel
theorem dX4_isKernel_19 : decode cX4_isKernel 19 = .ok (.iload_n 3, 1) := by decide +kernel
theorem dX4_isKernel_20 : decode cX4_isKernel 20 = .ok (.ifCond .eq 32, 3) := by decide +kernel
theorem dX4_isKernel_23 : decode cX4_isKernel 23 = .ok (.iload_n 1, 1) := by decide +kernel
theorem dX4_isKernel_24 : decode cX4_isKernel 24 = .ok (.iload 4, 2) := by decide +kernel
theorem dX4_isKernel_26 : decode cX4_isKernel 26 = .ok (.invokestatic 36, 3) := by decide +kernel
theorem dX4_isKernel_29 : decode cX4_isKernel 29 = .ok (.ifCond .eq 19, 3) := by decide +kernel
theorem dX4_isKernel_32 : decode cX4_isKernel 32 = .ok (.aload_n 0, 1) := by decide +kernel
theorem dX4_isKernel_33 : decode cX4_isKernel 33 = .ok (.iload_n 1, 1) := by decide +kernel
theorem dX4_isKernel_34 : decode cX4_isKernel 34 = .ok (.iconst 1, 1) := by decide +kernel
theorem dX4_isKernel_35 : decode cX4_isKernel 35 = .ok (.iload 4, 2) := by decide +kernel
theorem dX4_isKernel_37 : decode cX4_isKernel 37 = .ok (.ishl, 1) := by decide +kernel
theorem dX4_isKernel_38 : decode cX4_isKernel 38 = .ok (.iconst (-1), 1) := by decide +kernel
theorem dX4_isKernel_39 : decode cX4_isKernel 39 = .ok (.ixor, 1) := by decide +kernel
theorem dX4_isKernel_40 : decode cX4_isKernel 40 = .ok (.iand, 1) := by decide +kernel
theorem dX4_isKernel_41 : decode cX4_isKernel 41 = .ok (.iload_n 2, 1) := by decide +kernel
theorem dX4_isKernel_42 : decode cX4_isKernel 42 = .ok (.invokevirtual 65, 3) := by decide +kernel
theorem dX4_isKernel_45 : decode cX4_isKernel 45 = .ok (.ifCond .ne 7, 3) := by decide +kernel
theorem dX4_isKernel_48 : decode cX4_isKernel 48 = .ok (.iconst 1, 1) := by decide +kernel
theorem dX4_isKernel_49 : decode cX4_isKernel 49 = .ok (.goto 4, 3) := by decide +kernel
theorem dX4_isKernel_52 : decode cX4_isKernel 52 = .ok (.iconst 0, 1) := by decide +kernel
theorem dX4_isKernel_53 : decode cX4_isKernel 53 = .ok (.istore_n 3, 1) := by decide +kernel
theorem dX4_isKernel_54 : decode cX4_isKernel 54 = .ok (.iinc 4 1, 3) := by decide +kernel
theorem dX4_isKernel_57 : decode cX4_isKernel 57 = .ok (.goto (-47), 3) := by decide +kernel
theorem dX4_isKernel_60 : decode cX4_isKernel 60 = .ok (.iload_n 3, 1) := by decide +kernel
theorem dX4_isKernel_61 : decode cX4_isKernel 61 = .ok (.ireturn, 1) := by decide +kernel
set_option maxRecDepth 20000 in
theorem ggX4_isRemainder_X4_doEntail : GoodIn wsX4_isRemainder wsX4_doEntail := goodIn_r _ [6, 7, 8, 9, 5, 10, 11, 1, 12, 13, 14, 15, 16, 17, 18, 19, 20, 21, 22] (by decide +kernel) (by decide +kernel)
set_option maxRecDepth 20000 in
theorem gX4_isRemainder_X4_doEntail : GoodIn wsX4_isRemainder (wsV RX4 65 RX4 yX4_doEntail wsX4_doEntail) := goodIn_app (goodIn_of _ (by decide +kernel)) ggX4_isRemainder_X4_doEntail
set_option maxRecDepth 20000 in
theorem ggX4_isRemainder_X4_has : GoodIn wsX4_isRemainder wsX4_has := goodIn_r _ [15] (by decide +kernel) (by decide +kernel)
set_option maxRecDepth 20000 in
theorem gX4_isRemainder_X4_has : GoodIn wsX4_isRemainder (va_wsS RX4 36 yX4_has wsX4_has) := goodIn_app (goodIn_of _ (by decide +kernel)) ggX4_isRemainder_X4_has
theorem dX4_isRemainder_0 : decode cX4_isRemainder 0 = .ok (.aload_n 0, 1) := by decide +kernel
theorem dX4_isRemainder_1 : decode cX4_isRemainder 1 = .ok (.iload_n 1, 1) := by decide +kernel
theorem dX4_isRemainder_2 : decode cX4_isRemainder 2 = .ok (.iload_n 2, 1) := by decide +kernel
theorem dX4_isRemainder_3 : decode cX4_isRemainder 3 = .ok (.invokevirtual 65, 3) := by decide +kernel
theorem dX4_isRemainder_6 : decode cX4_isRemainder 6 = .ok (.ifCond .ne 7, 3) := by decide +kernel
theorem dX4_isRemainder_9 : decode cX4_isRemainder 9 = .ok (.iconst 1, 1) := by decide +kernel
theorem dX4_isRemainder_10 : decode cX4_isRemainder 10 = .ok (.goto 4, 3) := by decide +kernel
theorem dX4_isRemainder_13 : decode cX4_isRemainder 13 = .ok (.iconst 0, 1) := by decide +kernel
theorem dX4_isRemainder_14 : decode cX4_isRemainder 14 = .ok (.istore_n 3, 1) := by decide +kernel
theorem dX4_isRemainder_15 : decode cX4_isRemainder 15 = .ok (.iconst 0, 1) := by decide +kernel
theorem dX4_isRemainder_16 : decode cX4_isRemainder 16 = .ok (.istore 4, 2) := by decide +kernel
theorem dX4_isRemainder_18 : decode cX4_isRemainder 18 = .ok (.iload 4, 2) := by decide +kernel
theorem dX4_isRemainder_20 : decode cX4_isRemainder 20 = .ok (.aload_n 0, 1) := by decide +kernel
theorem dX4_isRemainder_21 : decode cX4_isRemainder 21 = .ok (.getfield 26, 3) := by decide +kernel
theorem dX4_isRemainder_24 : decode cX4_isRemainder 24 = .ok (.if_icmp .ge 42, 3) := by decide +kernel
theorem dX4_isRemainder_27 : decode cX4_isRemainder 27 = .ok (.iload_n 3, 1) := by decide +kernel
theorem dX4_isRemainder_28 : decode cX4_isRemainder 28 = .ok (.ifCond .eq 30, 3) := by decide +kernel
theorem dX4_isRemainder_31 : decode cX4_isRemainder 31 = .ok (.iload_n 1, 1) := by decide +kernel
theorem dX4_isRemainder_32 : decode cX4_isRemainder 32 = .ok (.iload 4, 2) := by decide +kernel
theorem dX4_isRemainder_34 : decode cX4_isRemainder 34 = .ok (.invokestatic 36, 3) := by decide +kernel
theorem dX4_isRemainder_37 : decode cX4_isRemainder 37 = .ok (.ifCond .ne 17, 3) := by decide +kernel
theorem dX4_isRemainder_40 : decode cX4_isRemainder 40 = .ok (.aload_n 0, 1) := by decide +kernel
theorem dX4_isRemainder_41 : decode cX4_isRemainder 41 = .ok (.iload_n 1, 1) := by decide +kernel
theorem dX4_isRemainder_42 : decode cX4_isRemainder 42 = .ok (.iconst 1, 1) := by decide +kernel
theorem dX4_isRemainder_43 : decode cX4_isRemainder 43 = .ok (.iload 4, 2) := by decide +kernel
theorem dX4_isRemainder_45 : decode cX4_isRemainder 45 = .ok (.ishl, 1) := by decide +kernel
theorem dX4_isRemainder_46 : decode cX4_isRemainder 46 = .ok (.ior, 1) := by decide +kernel
theorem dX4_isRemainder_47 : decode cX4_isRemainder 47 = .ok (.iload_n 2, 1) := by decide +kernel
theorem dX4_isRemainder_48 : decode cX4_isRemainder 48 = .ok (.invokevirtual 65, 3) := by decide +kernel
theorem dX4_isRemainder_51 : decode cX4_isRemainder 51 = .ok (.ifCond .eq 7, 3) := by decide +kernel
theorem dX4_isRemainder_54 : decode cX4_isRemainder 54 = .ok (.iconst 1, 1) := by decide +kernel
theorem dX4_isRemainder_55 : decode cX4_isRemainder 55 = .ok (.goto 4, 3) := by decide +kernel
theorem dX4_isRemainder_58 : decode cX4_isRemainder 58 = .ok (.iconst 0, 1) := by decide +kernel
theorem dX4_isRemainder_59 : decode cX4_isRemainder 59 = .ok (.istore_n 3, 1) := by decide +kernel
theorem dX4_isRemainder_60 : decode cX4_isRemainder 60 = .ok (.iinc 4 1, 3) := by decide +kernel
theorem dX4_isRemainder_63 : decode cX4_isRemainder 63 = .ok (.goto (-45), 3) := by decide +kernel
theorem dX4_isRemainder_66 : decode cX4_isRemainder 66 = .ok (.iload_n 3, 1) := by decide +kernel
theorem dX4_isRemainder_67 : decode cX4_isRemainder 67 = .ok (.ireturn, 1) := by decide +kernel
set_option maxRecDepth 20000 in
theorem ggX4_is_X4_top : GoodIn wsX4_is wsX4_top := goodIn_r _ [5, 6, 7, 30, 31, 32, 33, 34, 35, 36] (by decide +kernel) (by decide +kernel)
set_option maxRecDepth 20000 in
theorem gX4_is_X4_top : GoodIn wsX4_is (wsV RX4 56 RX4 yX4_top wsX4_top) := goodIn_app (goodIn_of _ (by decide +kernel)) ggX4_is_X4_top
set_option maxRecDepth 20000 in
theorem ggX4_is_X4_isKernel : GoodIn wsX4_is wsX4_isKernel := goodIn_r _ [11, 12, 13, 14, 15, 4, 16, 17, 18, 19, 20, 21, 22, 23, 24, 25, 30, 31, 32, 33, 34, 35, 36] (by decide +kernel) (by decide +kernel)
set_option maxRecDepth 20000 in
theorem gX4_is_X4_isKernel : GoodIn wsX4_is (wsV RX4 68 RX4 yX4_isKernel wsX4_isKernel) := goodIn_app (goodIn_of _ (by decide +kernel)) ggX4_is_X4_isKernel
set_option maxRecDepth 20000 in
theorem ggX4_is_X4_isRemainder : GoodIn wsX4_is wsX4_isRemainder := goodIn_r _ [29, 12, 13, 14, 15, 4, 16, 17, 18, 19, 20, 21, 22, 23, 24, 25, 30, 31, 32, 33, 34, 35, 36] (by decide +kernel) (by decide +kernel)
set_option maxRecDepth 20000 in
theorem gX4_is_X4_isRemainder : GoodIn wsX4_is (wsV RX4 71 RX4 yX4_isRemainder wsX4_isRemainder) := goodIn_app (goodIn_of _ (by decide +kernel)) ggX4_is_X4_isRemainder
theorem dX4_is_0 : decode cX4_is 0 = .ok (.iload_n 1, 1) := by decide +kernel
theorem dX4_is_1 : decode cX4_is 1 = .ok (.ifCond .eq 16, 3) := by decide +kernel
theorem dX4_is_4 : decode cX4_is 4 = .ok (.aload_n 0, 1) := by decide +kernel
theorem dX4_is_5 : decode cX4_is 5 = .ok (.iload_n 2, 1) := by decide +kernel
theorem dX4_is_6 : decode cX4_is 6 = .ok (.aload_n 0, 1) := by decide +kernel
theorem dX4_is_7 : decode cX4_is 7 = .ok (.iconst 0, 1) := by decide +kernel
theorem dX4_is_8 : decode cX4_is 8 = .ok (.invokevirtual 56, 3) := by decide +kernel
theorem dX4_is_11 : decode cX4_is 11 = .ok (.invokevirtual 68, 3) := by decide +kernel
theorem dX4_is_14 : decode cX4_is 14 = .ok (.goto 13, 3) := by decide +kernel
theorem dX4_is_17 : decode cX4_is 17 = .ok (.aload_n 0, 1) := by decide +kernel
theorem dX4_is_18 : decode cX4_is 18 = .ok (.iload_n 2, 1) := by decide +kernel
theorem dX4_is_19 : decode cX4_is 19 = .ok (.aload_n 0, 1) := by decide +kernel
theorem dX4_is_20 : decode cX4_is 20 = .ok (.iconst 0, 1) := by decide +kernel
theorem dX4_is_21 : decode cX4_is 21 = .ok (.invokevirtual 56, 3) := by decide +kernel
theorem dX4_is_24 : decode cX4_is 24 = .ok (.invokevirtual 71, 3) := by decide +kernel
theorem dX4_is_27 : decode cX4_is 27 = .ok (.ireturn, 1) := by decide +kernel
set_option maxRecDepth 20000 in
theorem ggX4_count_X4_is : GoodIn wsX4_count wsX4_is := goodIn_r _ [8, 9, 10, 11, 7, 12, 13, 1, 14, 15, 16, 17, 3, 18, 19, 20, 21, 22, 23, 24, 25, 26, 27, 28, 29, 30, 31, 32, 33, 34, 35, 36, 37, 38, 39, 40, 41] (by decide +kernel) (by decide +kernel)
set_option maxRecDepth 20000 in
theorem gX4_count_X4_is : GoodIn wsX4_count (wsV RX4 74 RX4 yX4_is wsX4_is) := goodIn_app (goodIn_of _ (by decide +kernel)) ggX4_count_X4_is
theorem dX4_count_0 : decode cX4_count 0 = .ok (.aload_n 0, 1) := by decide +kernel
theorem dX4_count_1 : decode cX4_count 1 = .ok (.aload_n 0, 1) := by decide +kernel
theorem dX4_count_2 : decode cX4_count 2 = .ok (.getfield 33, 3) := by decide +kernel
theorem dX4_count_5 : decode cX4_count 5 = .ok (.ifCond .ne 7, 3) := by decide +kernel
theorem dX4_count_8 : decode cX4_count 8 = .ok (.iconst 1, 1) := by decide +kernel
theorem dX4_count_9 : decode cX4_count 9 = .ok (.goto 4, 3) := by decide +kernel
theorem dX4_count_12 : decode cX4_count 12 = .ok (.iconst 0, 1) := by decide +kernel
theorem dX4_count_13 : decode cX4_count 13 = .ok (.putfield 22, 3) := by decide +kernel
theorem dX4_count_16 : decode cX4_count 16 = .ok (.iconst 0, 1) := by decide +kernel
theorem dX4_count_17 : decode cX4_count 17 = .ok (.istore_n 2, 1) := by decide +kernel
theorem dX4_count_18 : decode cX4_count 18 = .ok (.iconst 0, 1) := by decide +kernel
theorem dX4_count_19 : decode cX4_count 19 = .ok (.istore_n 3, 1) := by decide +kernel
theorem dX4_count_20 : decode cX4_count 20 = .ok (.iload_n 3, 1) := by decide +kernel
theorem dX4_count_21 : decode cX4_count 21 = .ok (.iconst 1, 1) := by decide +kernel
theorem dX4_count_22 : decode cX4_count 22 = .ok (.aload_n 0, 1) := by decide +kernel
theorem dX4_count_23 : decode cX4_count 23 = .ok (.getfield 26, 3) := by decide +kernel
theorem dX4_count_26 : decode cX4_count 26 = .ok (.ishl, 1) := by decide +kernel
theorem dX4_count_27 : decode cX4_count 27 = .ok (.if_icmp .ge 33, 3) := by decide +kernel
theorem dX4_count_30 : decode cX4_count 30 = .ok (.aload_n 0, 1) := by decide +kernel
theorem dX4_count_31 : decode cX4_count 31 = .ok (.getfield 22, 3) := by decide +kernel
theorem dX4_count_34 : decode cX4_count 34 = .ok (.ifCond .ne 26, 3) := by decide +kernel
theorem dX4_count_37 : decode cX4_count 37 = .ok (.iload_n 2, 1) := by decide +kernel
theorem dX4_count_38 : decode cX4_count 38 = .ok (.aload_n 0, 1) := by decide +kernel
theorem dX4_count_39 : decode cX4_count 39 = .ok (.iload_n 1, 1) := by decide +kernel
theorem dX4_count_40 : decode cX4_count 40 = .ok (.iload_n 3, 1) := by decide +kernel
theorem dX4_count_41 : decode cX4_count 41 = .ok (.invokevirtual 74, 3) := by decide +kernel
theorem dX4_count_44 : decode cX4_count 44 = .ok (.ifCond .eq 7, 3) := by decide +kernel
theorem dX4_count_47 : decode cX4_count 47 = .ok (.iconst 1, 1) := by decide +kernel
theorem dX4_count_48 : decode cX4_count 48 = .ok (.goto 4, 3) := by decide +kernel
theorem dX4_count_51 : decode cX4_count 51 = .ok (.iconst 0, 1) := by decide +kernel
theorem dX4_count_52 : decode cX4_count 52 = .ok (.iadd, 1) := by decide +kernel
theorem dX4_count_53 : decode cX4_count 53 = .ok (.istore_n 2, 1) := by decide +kernel
theorem dX4_count_54 : decode cX4_count 54 = .ok (.iinc 3 1, 3) := by decide +kernel
theorem dX4_count_57 : decode cX4_count 57 = .ok (.goto (-37), 3) := by decide +kernel
theorem dX4_count_60 : decode cX4_count 60 = .ok (.iload_n 2, 1) := by decide +kernel
theorem dX4_count_61 : decode cX4_count 61 = .ok (.ireturn, 1) := by decide +kernel
set_option maxRecDepth 20000 in
theorem ggX4_at_X4_no : GoodIn wsX4_at wsX4_no := goodIn_r _ [8, 1, 39, 40, 41, 42, 43, 44, 45] (by decide +kernel) (by decide +kernel)
set_option maxRecDepth 20000 in
theorem gX4_at_X4_no : GoodIn wsX4_at (wsV RX4 40 RX4 yX4_no wsX4_no) := goodIn_app (goodIn_of _ (by decide +kernel)) ggX4_at_X4_no
set_option maxRecDepth 20000 in
theorem ggX4_at_X4_is : GoodIn wsX4_at wsX4_is := goodIn_r _ [12, 13, 14, 15, 7, 16, 17, 2, 18, 19, 20, 21, 3, 22, 23, 24, 25, 26, 27, 28, 29, 30, 31, 32, 33, 34, 35, 36, 37, 38, 39, 40, 41, 42, 43, 44, 45] (by decide +kernel) (by decide +kernel)
set_option maxRecDepth 20000 in
theorem gX4_at_X4_is : GoodIn wsX4_at (wsV RX4 74 RX4 yX4_is wsX4_is) := goodIn_app (goodIn_of _ (by decide +kernel)) ggX4_at_X4_is
theorem dX4_at_0 : decode cX4_at 0 = .ok (.aload_n 0, 1) := by decide +kernel
theorem dX4_at_1 : decode cX4_at 1 = .ok (.iconst 0, 1) := by decide +kernel
theorem dX4_at_2 : decode cX4_at 2 = .ok (.putfield 22, 3) := by decide +kernel
theorem dX4_at_5 : decode cX4_at 5 = .ok (.aload_n 0, 1) := by decide +kernel
theorem dX4_at_6 : decode cX4_at 6 = .ok (.getfield 33, 3) := by decide +kernel
theorem dX4_at_9 : decode cX4_at 9 = .ok (.ifCond .ne 9, 3) := by decide +kernel
theorem dX4_at_12 : decode cX4_at 12 = .ok (.aload_n 0, 1) := by decide +kernel
theorem dX4_at_13 : decode cX4_at 13 = .ok (.iconst 1, 1) := by decide +kernel
theorem dX4_at_14 : decode cX4_at 14 = .ok (.invokevirtual 40, 3) := by decide +kernel
theorem dX4_at_17 : decode cX4_at 17 = .ok (.ireturn, 1) := by decide +kernel
theorem dX4_at_18 : decode cX4_at 18 = .ok (.iload_n 2, 1) := by decide +kernel
theorem dX4_at_19 : decode cX4_at 19 = .ok (.istore_n 3, 1) := by decide +kernel
theorem dX4_at_20 : decode cX4_at 20 = .ok (.iconst 0, 1) := by decide +kernel
theorem dX4_at_21 : decode cX4_at 21 = .ok (.istore 4, 2) := by decide +kernel
theorem dX4_at_23 : decode cX4_at 23 = .ok (.iload 4, 2) := by decide +kernel
theorem dX4_at_25 : decode cX4_at 25 = .ok (.iconst 1, 1) := by decide +kernel
theorem dX4_at_26 : decode cX4_at 26 = .ok (.aload_n 0, 1) := by decide +kernel
theorem dX4_at_27 : decode cX4_at 27 = .ok (.getfield 26, 3) := by decide +kernel
theorem dX4_at_30 : decode cX4_at 30 = .ok (.ishl, 1) := by decide +kernel
theorem dX4_at_31 : decode cX4_at 31 = .ok (.if_icmp .ge 36, 3) := by decide +kernel
theorem dX4_at_34 : decode cX4_at 34 = .ok (.iload_n 3, 1) := by decide +kernel
theorem dX4_at_35 : decode cX4_at 35 = .ok (.ifCond .lt 32, 3) := by decide +kernel
theorem dX4_at_38 : decode cX4_at 38 = .ok (.aload_n 0, 1) := by decide +kernel
theorem dX4_at_39 : decode cX4_at 39 = .ok (.iload_n 1, 1) := by decide +kernel
theorem dX4_at_40 : decode cX4_at 40 = .ok (.iload 4, 2) := by decide +kernel
theorem dX4_at_42 : decode cX4_at 42 = .ok (.invokevirtual 74, 3) := by decide +kernel
theorem dX4_at_45 : decode cX4_at 45 = .ok (.ifCond .ne 6, 3) := by decide +kernel
theorem dX4_at_48 : decode cX4_at 48 = .ok (.goto 13, 3) := by decide +kernel
theorem dX4_at_51 : decode cX4_at 51 = .ok (.iload_n 3, 1) := by decide +kernel
theorem dX4_at_52 : decode cX4_at 52 = .ok (.ifCond .ne 6, 3) := by decide +kernel
theorem dX4_at_55 : decode cX4_at 55 = .ok (.iload 4, 2) := by decide +kernel
theorem dX4_at_57 : decode cX4_at 57 = .ok (.ireturn, 1) := by decide +kernel
theorem dX4_at_58 : decode cX4_at 58 = .ok (.iinc 3 (-1), 3) := by decide +kernel
theorem dX4_at_61 : decode cX4_at 61 = .ok (.iinc 4 1, 3) := by decide +kernel
theorem dX4_at_64 : decode cX4_at 64 = .ok (.goto (-41), 3) := by decide +kernel
theorem dX4_at_67 : decode cX4_at 67 = .ok (.aload_n 0, 1) := by decide +kernel
theorem dX4_at_68 : decode cX4_at 68 = .ok (.iconst 2, 1) := by decide +kernel
theorem dX4_at_69 : decode cX4_at 69 = .ok (.invokevirtual 40, 3) := by decide +kernel
theorem dX4_at_72 : decode cX4_at 72 = .ok (.ireturn, 1) := by decide +kernel
set_option maxRecDepth 20000 in
theorem ggX4_kernels_X4_count : GoodIn wsX4_kernels wsX4_count := goodIn_r _ [5, 6, 7, 8, 9, 10, 11, 4, 12, 13, 14, 15, 16, 17, 18, 19, 20, 21, 22, 23, 24, 25, 26, 27, 28, 29, 30, 31, 32, 33, 34, 35, 36, 37, 38, 39, 40, 41, 42, 43, 44, 45] (by decide +kernel) (by decide +kernel)
set_option maxRecDepth 20000 in
theorem gX4_kernels_X4_count : GoodIn wsX4_kernels (wsV RX4 78 RX4 yX4_count wsX4_count) := goodIn_app (goodIn_of _ (by decide +kernel)) ggX4_kernels_X4_count
theorem dX4_kernels_0 : decode cX4_kernels 0 = .ok (.aload_n 0, 1) := by decide +kernel
theorem dX4_kernels_1 : decode cX4_kernels 1 = .ok (.iconst 1, 1) := by decide +kernel
theorem dX4_kernels_2 : decode cX4_kernels 2 = .ok (.invokevirtual 78, 3) := by decide +kernel
theorem dX4_kernels_5 : decode cX4_kernels 5 = .ok (.ireturn, 1) := by decide +kernel
set_option maxRecDepth 20000 in
theorem ggX4_kernel_X4_at : GoodIn wsX4_kernel wsX4_at := goodIn_r _ [5, 6, 7, 8, 9, 10, 11, 4, 12, 13, 14, 15, 16, 17, 18, 19, 20, 21, 22, 23, 24, 25, 26, 27, 28, 29, 30, 31, 32, 33, 34, 35, 36, 37, 38, 39, 40, 41, 42, 43, 44, 45, 46, 47, 48, 49] (by decide +kernel) (by decide +kernel)
set_option maxRecDepth 20000 in
theorem gX4_kernel_X4_at : GoodIn wsX4_kernel (wsV RX4 82 RX4 yX4_at wsX4_at) := goodIn_app (goodIn_of _ (by decide +kernel)) ggX4_kernel_X4_at
theorem dX4_kernel_0 : decode cX4_kernel 0 = .ok (.aload_n 0, 1) := by decide +kernel
theorem dX4_kernel_1 : decode cX4_kernel 1 = .ok (.iconst 1, 1) := by decide +kernel
theorem dX4_kernel_2 : decode cX4_kernel 2 = .ok (.iload_n 1, 1) := by decide +kernel
theorem dX4_kernel_3 : decode cX4_kernel 3 = .ok (.invokevirtual 82, 3) := by decide +kernel
theorem dX4_kernel_6 : decode cX4_kernel 6 = .ok (.ireturn, 1) := by decide +kernel
set_option maxRecDepth 20000 in
theorem ggX4_remainders_X4_count : GoodIn wsX4_remainders wsX4_count := goodIn_r _ [5, 6, 7, 8, 9, 10, 11, 4, 12, 13, 14, 15, 16, 17, 18, 19, 20, 21, 22, 23, 24, 25, 26, 27, 28, 29, 30, 31, 32, 33, 34, 35, 36, 37, 38, 39, 40, 41, 42, 43, 44, 45] (by decide +kernel) (by decide +kernel)
set_option maxRecDepth 20000 in
theorem gX4_remainders_X4_count : GoodIn wsX4_remainders (wsV RX4 78 RX4 yX4_count wsX4_count) := goodIn_app (goodIn_of _ (by decide +kernel)) ggX4_remainders_X4_count
theorem dX4_remainders_0 : decode cX4_remainders 0 = .ok (.aload_n 0, 1) := by decide +kernel
theorem dX4_remainders_1 : decode cX4_remainders 1 = .ok (.iconst 0, 1) := by decide +kernel
theorem dX4_remainders_2 : decode cX4_remainders 2 = .ok (.invokevirtual 78, 3) := by decide +kernel
theorem dX4_remainders_5 : decode cX4_remainders 5 = .ok (.ireturn, 1) := by decide +kernel
set_option maxRecDepth 20000 in
theorem ggX4_remainder_X4_at : GoodIn wsX4_remainder wsX4_at := goodIn_r _ [5, 6, 7, 8, 9, 10, 11, 4, 12, 13, 14, 15, 16, 17, 18, 19, 20, 21, 22, 23, 24, 25, 26, 27, 28, 29, 30, 31, 32, 33, 34, 35, 36, 37, 38, 39, 40, 41, 42, 43, 44, 45, 46, 47, 48, 49] (by decide +kernel) (by decide +kernel)
set_option maxRecDepth 20000 in
theorem gX4_remainder_X4_at : GoodIn wsX4_remainder (wsV RX4 82 RX4 yX4_at wsX4_at) := goodIn_app (goodIn_of _ (by decide +kernel)) ggX4_remainder_X4_at
theorem dX4_remainder_0 : decode cX4_remainder 0 = .ok (.aload_n 0, 1) := by decide +kernel
theorem dX4_remainder_1 : decode cX4_remainder 1 = .ok (.iconst 0, 1) := by decide +kernel
theorem dX4_remainder_2 : decode cX4_remainder 2 = .ok (.iload_n 1, 1) := by decide +kernel
theorem dX4_remainder_3 : decode cX4_remainder 3 = .ok (.invokevirtual 82, 3) := by decide +kernel
theorem dX4_remainder_6 : decode cX4_remainder 6 = .ok (.ireturn, 1) := by decide +kernel
theorem dX4_isBetter_0 : decode cX4_isBetter 0 = .ok (.bipush 9, 2) := by decide +kernel
theorem dX4_isBetter_2 : decode cX4_isBetter 2 = .ok (.istore_n 3, 1) := by decide +kernel
theorem dX4_isBetter_3 : decode cX4_isBetter 3 = .ok (.iload_n 3, 1) := by decide +kernel
theorem dX4_isBetter_4 : decode cX4_isBetter 4 = .ok (.ifCond .le 75, 3) := by decide +kernel
theorem dX4_isBetter_7 : decode cX4_isBetter 7 = .ok (.iconst 0, 1) := by decide +kernel
theorem dX4_isBetter_8 : decode cX4_isBetter 8 = .ok (.istore 4, 2) := by decide +kernel
theorem dX4_isBetter_10 : decode cX4_isBetter 10 = .ok (.iconst 0, 1) := by decide +kernel
theorem dX4_isBetter_11 : decode cX4_isBetter 11 = .ok (.istore 5, 2) := by decide +kernel
theorem dX4_isBetter_13 : decode cX4_isBetter 13 = .ok (.iload 5, 2) := by decide +kernel
theorem dX4_isBetter_15 : decode cX4_isBetter 15 = .ok (.aload_n 0, 1) := by decide +kernel
theorem dX4_isBetter_16 : decode cX4_isBetter 16 = .ok (.getfield 26, 3) := by decide +kernel
theorem dX4_isBetter_19 : decode cX4_isBetter 19 = .ok (.if_icmp .ge 38, 3) := by decide +kernel
theorem dX4_isBetter_22 : decode cX4_isBetter 22 = .ok (.aload_n 0, 1) := by decide +kernel
theorem dX4_isBetter_23 : decode cX4_isBetter 23 = .ok (.getfield 16, 3) := by decide +kernel
theorem dX4_isBetter_26 : decode cX4_isBetter 26 = .ok (.iload 5, 2) := by decide +kernel
theorem dX4_isBetter_28 : decode cX4_isBetter 28 = .ok (.iaload, 1) := by decide +kernel
theorem dX4_isBetter_29 : decode cX4_isBetter 29 = .ok (.iload_n 3, 1) := by decide +kernel
theorem dX4_isBetter_30 : decode cX4_isBetter 30 = .ok (.if_icmp .ne 21, 3) := by decide +kernel
theorem dX4_isBetter_33 : decode cX4_isBetter 33 = .ok (.iload 4, 2) := by decide +kernel
theorem dX4_isBetter_35 : decode cX4_isBetter 35 = .ok (.iload_n 1, 1) := by decide +kernel
theorem dX4_isBetter_36 : decode cX4_isBetter 36 = .ok (.iload 5, 2) := by decide +kernel
theorem dX4_isBetter_38 : decode cX4_isBetter 38 = .ok (.ishr, 1) := by decide +kernel
theorem dX4_isBetter_39 : decode cX4_isBetter 39 = .ok (.iconst 1, 1) := by decide +kernel
theorem dX4_isBetter_40 : decode cX4_isBetter 40 = .ok (.iand, 1) := by decide +kernel
theorem dX4_isBetter_41 : decode cX4_isBetter 41 = .ok (.iload_n 2, 1) := by decide +kernel
theorem dX4_isBetter_42 : decode cX4_isBetter 42 = .ok (.iload 5, 2) := by decide +kernel
theorem dX4_isBetter_44 : decode cX4_isBetter 44 = .ok (.ishr, 1) := by decide +kernel
theorem dX4_isBetter_45 : decode cX4_isBetter 45 = .ok (.iconst 1, 1) := by decide +kernel
theorem dX4_isBetter_46 : decode cX4_isBetter 46 = .ok (.iand, 1) := by decide +kernel
theorem dX4_isBetter_47 : decode cX4_isBetter 47 = .ok (.isub, 1) := by decide +kernel
theorem dX4_isBetter_48 : decode cX4_isBetter 48 = .ok (.iadd, 1) := by decide +kernel
theorem dX4_isBetter_49 : decode cX4_isBetter 49 = .ok (.istore 4, 2) := by decide +kernel
theorem dX4_isBetter_51 : decode cX4_isBetter 51 = .ok (.iinc 5 1, 3) := by decide +kernel
theorem dX4_isBetter_54 : decode cX4_isBetter 54 = .ok (.goto (-41), 3) := by decide +kernel
theorem dX4_isBetter_57 : decode cX4_isBetter 57 = .ok (.iload 4, 2) := by decide +kernel
theorem dX4_isBetter_59 : decode cX4_isBetter 59 = .ok (.ifCond .eq 14, 3) := by decide +kernel
theorem dX4_isBetter_62 : decode cX4_isBetter 62 = .ok (.iload 4, 2) := by decide +kernel
theorem dX4_isBetter_64 : decode cX4_isBetter 64 = .ok (.ifCond .le 7, 3) := by decide +kernel
theorem dX4_isBetter_67 : decode cX4_isBetter 67 = .ok (.iconst 1, 1) := by decide +kernel
theorem dX4_isBetter_68 : decode cX4_isBetter 68 = .ok (.goto 4, 3) := by decide +kernel
theorem dX4_isBetter_71 : decode cX4_isBetter 71 = .ok (.iconst 0, 1) := by decide +kernel
theorem dX4_isBetter_72 : decode cX4_isBetter 72 = .ok (.ireturn, 1) := by decide +kernel
theorem dX4_isBetter_73 : decode cX4_isBetter 73 = .ok (.iinc 3 (-1), 3) := by decide +kernel
theorem dX4_isBetter_76 : decode cX4_isBetter 76 = .ok (.goto (-73), 3) := by decide +kernel
theorem dX4_isBetter_79 : decode cX4_isBetter 79 = .ok (.iconst 0, 1) := by decide +kernel
theorem dX4_isBetter_80 : decode cX4_isBetter 80 = .ok (.ireturn, 1) := by decide +kernel
set_option maxRecDepth 20000 in
theorem ggX4_bestRemainder_X4_is : GoodIn wsX4_bestRemainder wsX4_is := goodIn_r _ [8, 9, 10, 11, 7, 12, 13, 1, 14, 15, 16, 17, 3, 18, 19, 20, 21, 22, 23, 24, 25, 26, 27, 28, 29, 30, 31, 32, 33, 34, 40, 41, 42, 43, 44, 45, 46] (by decide +kernel) (by decide +kernel)
set_option maxRecDepth 20000 in
theorem gX4_bestRemainder_X4_is : GoodIn wsX4_bestRemainder (wsV RX4 74 RX4 yX4_is wsX4_is) := goodIn_app (goodIn_of _ (by decide +kernel)) ggX4_bestRemainder_X4_is
set_option maxRecDepth 20000 in
theorem ggX4_bestRemainder_X4_isBetter : GoodIn wsX4_bestRemainder wsX4_isBetter := goodIn_r _ [38, 3, 39, 40, 41, 42, 43, 44, 45, 46] (by decide +kernel) (by decide +kernel)
set_option maxRecDepth 20000 in
theorem gX4_bestRemainder_X4_isBetter : GoodIn wsX4_bestRemainder (wsV RX4 86 RX4 yX4_isBetter wsX4_isBetter) := goodIn_app (goodIn_of _ (by decide +kernel)) ggX4_bestRemainder_X4_isBetter
theorem dX4_bestRemainder_0 : decode cX4_bestRemainder 0 = .ok (.aload_n 0, 1) := by decide +kernel
theorem dX4_bestRemainder_1 : decode cX4_bestRemainder 1 = .ok (.aload_n 0, 1) := by decide +kernel
theorem dX4_bestRemainder_2 : decode cX4_bestRemainder 2 = .ok (.getfield 33, 3) := by decide +kernel
theorem dX4_bestRemainder_5 : decode cX4_bestRemainder 5 = .ok (.ifCond .ne 7, 3) := by decide +kernel
theorem dX4_bestRemainder_8 : decode cX4_bestRemainder 8 = .ok (.iconst 1, 1) := by decide +kernel
theorem dX4_bestRemainder_9 : decode cX4_bestRemainder 9 = .ok (.goto 4, 3) := by decide +kernel
theorem dX4_bestRemainder_12 : decode cX4_bestRemainder 12 = .ok (.iconst 0, 1) := by decide +kernel
theorem dX4_bestRemainder_13 : decode cX4_bestRemainder 13 = .ok (.putfield 22, 3) := by decide +kernel
theorem dX4_bestRemainder_16 : decode cX4_bestRemainder 16 = .ok (.iconst (-1), 1) := by decide +kernel
theorem dX4_bestRemainder_17 : decode cX4_bestRemainder 17 = .ok (.istore_n 1, 1) := by decide +kernel
theorem dX4_bestRemainder_18 : decode cX4_bestRemainder 18 = .ok (.iconst 0, 1) := by decide +kernel
theorem dX4_bestRemainder_19 : decode cX4_bestRemainder 19 = .ok (.istore_n 2, 1) := by decide +kernel
theorem dX4_bestRemainder_20 : decode cX4_bestRemainder 20 = .ok (.iload_n 2, 1) := by decide +kernel
theorem dX4_bestRemainder_21 : decode cX4_bestRemainder 21 = .ok (.iconst 1, 1) := by decide +kernel
theorem dX4_bestRemainder_22 : decode cX4_bestRemainder 22 = .ok (.aload_n 0, 1) := by decide +kernel
theorem dX4_bestRemainder_23 : decode cX4_bestRemainder 23 = .ok (.getfield 26, 3) := by decide +kernel
theorem dX4_bestRemainder_26 : decode cX4_bestRemainder 26 = .ok (.ishl, 1) := by decide +kernel
theorem dX4_bestRemainder_27 : decode cX4_bestRemainder 27 = .ok (.if_icmp .ge 41, 3) := by decide +kernel
theorem dX4_bestRemainder_30 : decode cX4_bestRemainder 30 = .ok (.aload_n 0, 1) := by decide +kernel
theorem dX4_bestRemainder_31 : decode cX4_bestRemainder 31 = .ok (.getfield 22, 3) := by decide +kernel
theorem dX4_bestRemainder_34 : decode cX4_bestRemainder 34 = .ok (.ifCond .ne 34, 3) := by decide +kernel
theorem dX4_bestRemainder_37 : decode cX4_bestRemainder 37 = .ok (.aload_n 0, 1) := by decide +kernel
theorem dX4_bestRemainder_38 : decode cX4_bestRemainder 38 = .ok (.iconst 0, 1) := by decide +kernel
theorem dX4_bestRemainder_39 : decode cX4_bestRemainder 39 = .ok (.iload_n 2, 1) := by decide +kernel
theorem dX4_bestRemainder_40 : decode cX4_bestRemainder 40 = .ok (.invokevirtual 74, 3) := by decide +kernel
theorem dX4_bestRemainder_43 : decode cX4_bestRemainder 43 = .ok (.ifCond .eq 19, 3) := by decide +kernel
theorem dX4_bestRemainder_46 : decode cX4_bestRemainder 46 = .ok (.iload_n 1, 1) := by decide +kernel
theorem dX4_bestRemainder_47 : decode cX4_bestRemainder 47 = .ok (.iconst (-1), 1) := by decide +kernel
theorem dX4_bestRemainder_48 : decode cX4_bestRemainder 48 = .ok (.if_icmp .eq 12, 3) := by decide +kernel
theorem dX4_bestRemainder_51 : decode cX4_bestRemainder 51 = .ok (.aload_n 0, 1) := by decide +kernel
theorem dX4_bestRemainder_52 : decode cX4_bestRemainder 52 = .ok (.iload_n 2, 1) := by decide +kernel
theorem dX4_bestRemainder_53 : decode cX4_bestRemainder 53 = .ok (.iload_n 1, 1) := by decide +kernel
theorem dX4_bestRemainder_54 : decode cX4_bestRemainder 54 = .ok (.invokevirtual 86, 3) := by decide +kernel
theorem dX4_bestRemainder_57 : decode cX4_bestRemainder 57 = .ok (.ifCond .eq 5, 3) := by decide +kernel
theorem dX4_bestRemainder_60 : decode cX4_bestRemainder 60 = .ok (.iload_n 2, 1) := by decide +kernel
theorem dX4_bestRemainder_61 : decode cX4_bestRemainder 61 = .ok (.istore_n 1, 1) := by decide +kernel
theorem dX4_bestRemainder_62 : decode cX4_bestRemainder 62 = .ok (.iinc 2 1, 3) := by decide +kernel
theorem dX4_bestRemainder_65 : decode cX4_bestRemainder 65 = .ok (.goto (-45), 3) := by decide +kernel
theorem dX4_bestRemainder_68 : decode cX4_bestRemainder 68 = .ok (.aload_n 0, 1) := by decide +kernel
theorem dX4_bestRemainder_69 : decode cX4_bestRemainder 69 = .ok (.getfield 22, 3) := by decide +kernel
theorem dX4_bestRemainder_72 : decode cX4_bestRemainder 72 = .ok (.ifCond .ne 7, 3) := by decide +kernel
theorem dX4_bestRemainder_75 : decode cX4_bestRemainder 75 = .ok (.iload_n 1, 1) := by decide +kernel
theorem dX4_bestRemainder_76 : decode cX4_bestRemainder 76 = .ok (.goto 4, 3) := by decide +kernel
theorem dX4_bestRemainder_79 : decode cX4_bestRemainder 79 = .ok (.iconst 0, 1) := by decide +kernel
theorem dX4_bestRemainder_80 : decode cX4_bestRemainder 80 = .ok (.ireturn, 1) := by decide +kernel
set_option maxRecDepth 20000 in
theorem ggX4_cut_X4_is : GoodIn wsX4_cut wsX4_is := goodIn_r _ [13, 14, 15, 16, 12, 17, 18, 1, 19, 20, 21, 22, 3, 23, 24, 25, 26, 27, 28, 29, 30, 31, 32, 33, 34, 35, 36, 37, 38, 39, 40, 41, 42, 43, 44, 45, 46] (by decide +kernel) (by decide +kernel)
set_option maxRecDepth 20000 in
theorem gX4_cut_X4_is : GoodIn wsX4_cut (wsV RX4 74 RX4 yX4_is wsX4_is) := goodIn_app (goodIn_of _ (by decide +kernel)) ggX4_cut_X4_is
set_option maxRecDepth 20000 in
theorem ggX4_cut_X4_has : GoodIn wsX4_cut wsX4_has := goodIn_r _ [35] (by decide +kernel) (by decide +kernel)
set_option maxRecDepth 20000 in
theorem gX4_cut_X4_has : GoodIn wsX4_cut (va_wsS RX4 36 yX4_has wsX4_has) := goodIn_app (goodIn_of _ (by decide +kernel)) ggX4_cut_X4_has
theorem dX4_cut_0 : decode cX4_cut 0 = .ok (.aload_n 0, 1) := by decide +kernel
theorem dX4_cut_1 : decode cX4_cut 1 = .ok (.aload_n 0, 1) := by decide +kernel
theorem dX4_cut_2 : decode cX4_cut 2 = .ok (.getfield 33, 3) := by decide +kernel
theorem dX4_cut_5 : decode cX4_cut 5 = .ok (.ifCond .ne 7, 3) := by decide +kernel
theorem dX4_cut_8 : decode cX4_cut 8 = .ok (.iconst 1, 1) := by decide +kernel
theorem dX4_cut_9 : decode cX4_cut 9 = .ok (.goto 4, 3) := by decide +kernel
theorem dX4_cut_12 : decode cX4_cut 12 = .ok (.iconst 0, 1) := by decide +kernel
theorem dX4_cut_13 : decode cX4_cut 13 = .ok (.putfield 22, 3) := by decide +kernel
theorem dX4_cut_16 : decode cX4_cut 16 = .ok (.iconst 0, 1) := by decide +kernel
theorem dX4_cut_17 : decode cX4_cut 17 = .ok (.istore_n 1, 1) := by decide +kernel
theorem dX4_cut_18 : decode cX4_cut 18 = .ok (.iconst 0, 1) := by decide +kernel
theorem dX4_cut_19 : decode cX4_cut 19 = .ok (.istore_n 2, 1) := by decide +kernel
theorem dX4_cut_20 : decode cX4_cut 20 = .ok (.iload_n 2, 1) := by decide +kernel
theorem dX4_cut_21 : decode cX4_cut 21 = .ok (.iconst 1, 1) := by decide +kernel
theorem dX4_cut_22 : decode cX4_cut 22 = .ok (.aload_n 0, 1) := by decide +kernel
theorem dX4_cut_23 : decode cX4_cut 23 = .ok (.getfield 26, 3) := by decide +kernel
theorem dX4_cut_26 : decode cX4_cut 26 = .ok (.ishl, 1) := by decide +kernel
theorem dX4_cut_27 : decode cX4_cut 27 = .ok (.if_icmp .ge 115, 3) := by decide +kernel
theorem dX4_cut_30 : decode cX4_cut 30 = .ok (.aload_n 0, 1) := by decide +kernel
theorem dX4_cut_31 : decode cX4_cut 31 = .ok (.getfield 22, 3) := by decide +kernel
theorem dX4_cut_34 : decode cX4_cut 34 = .ok (.ifCond .ne 108, 3) := by decide +kernel
theorem dX4_cut_37 : decode cX4_cut 37 = .ok (.aload_n 0, 1) := by decide +kernel
theorem dX4_cut_38 : decode cX4_cut 38 = .ok (.iconst 1, 1) := by decide +kernel
theorem dX4_cut_39 : decode cX4_cut 39 = .ok (.iload_n 2, 1) := by decide +kernel
theorem dX4_cut_40 : decode cX4_cut 40 = .ok (.invokevirtual 74, 3) := by decide +kernel
theorem dX4_cut_43 : decode cX4_cut 43 = .ok (.ifCond .ne 6, 3) := by decide +kernel
theorem dX4_cut_46 : decode cX4_cut 46 = .ok (.goto 90, 3) := by decide +kernel
theorem dX4_cut_49 : decode cX4_cut 49 = .ok (.bipush 9, 2) := by decide +kernel
theorem dX4_cut_51 : decode cX4_cut 51 = .ok (.istore_n 3, 1) := by decide +kernel
theorem dX4_cut_52 : decode cX4_cut 52 = .ok (.iconst 0, 1) := by decide +kernel
theorem dX4_cut_53 : decode cX4_cut 53 = .ok (.istore 4, 2) := by decide +kernel
theorem dX4_cut_55 : decode cX4_cut 55 = .ok (.iload 4, 2) := by decide +kernel
theorem dX4_cut_57 : decode cX4_cut 57 = .ok (.aload_n 0, 1) := by decide +kernel
theorem dX4_cut_58 : decode cX4_cut 58 = .ok (.getfield 26, 3) := by decide +kernel
theorem dX4_cut_61 : decode cX4_cut 61 = .ok (.if_icmp .ge 30, 3) := by decide +kernel
theorem dX4_cut_64 : decode cX4_cut 64 = .ok (.iload_n 2, 1) := by decide +kernel
theorem dX4_cut_65 : decode cX4_cut 65 = .ok (.iload 4, 2) := by decide +kernel
theorem dX4_cut_67 : decode cX4_cut 67 = .ok (.invokestatic 36, 3) := by decide +kernel
theorem dX4_cut_70 : decode cX4_cut 70 = .ok (.ifCond .eq 15, 3) := by decide +kernel
theorem dX4_cut_73 : decode cX4_cut 73 = .ok (.iload_n 3, 1) := by decide +kernel
theorem dX4_cut_74 : decode cX4_cut 74 = .ok (.aload_n 0, 1) := by decide +kernel
theorem dX4_cut_75 : decode cX4_cut 75 = .ok (.getfield 16, 3) := by decide +kernel
theorem dX4_cut_78 : decode cX4_cut 78 = .ok (.iload 4, 2) := by decide +kernel
theorem dX4_cut_80 : decode cX4_cut 80 = .ok (.iaload, 1) := by decide +kernel
theorem dX4_cut_81 : decode cX4_cut 81 = .ok (.invokestatic 89, 3) := by decide +kernel
theorem dX4_cut_84 : decode cX4_cut 84 = .ok (.istore_n 3, 1) := by decide +kernel
theorem dX4_cut_85 : decode cX4_cut 85 = .ok (.iinc 4 1, 3) := by decide +kernel
theorem dX4_cut_88 : decode cX4_cut 88 = .ok (.goto (-33), 3) := by decide +kernel
theorem dX4_cut_91 : decode cX4_cut 91 = .ok (.iconst 0, 1) := by decide +kernel
theorem dX4_cut_92 : decode cX4_cut 92 = .ok (.istore 4, 2) := by decide +kernel
theorem dX4_cut_94 : decode cX4_cut 94 = .ok (.iload 4, 2) := by decide +kernel
theorem dX4_cut_96 : decode cX4_cut 96 = .ok (.aload_n 0, 1) := by decide +kernel
theorem dX4_cut_97 : decode cX4_cut 97 = .ok (.getfield 26, 3) := by decide +kernel
theorem dX4_cut_100 : decode cX4_cut 100 = .ok (.if_icmp .ge 36, 3) := by decide +kernel
theorem dX4_cut_103 : decode cX4_cut 103 = .ok (.iload_n 2, 1) := by decide +kernel
theorem dX4_cut_104 : decode cX4_cut 104 = .ok (.iload 4, 2) := by decide +kernel
theorem dX4_cut_106 : decode cX4_cut 106 = .ok (.invokestatic 36, 3) := by decide +kernel
theorem dX4_cut_109 : decode cX4_cut 109 = .ok (.ifCond .eq 21, 3) := by decide +kernel
theorem dX4_cut_112 : decode cX4_cut 112 = .ok (.aload_n 0, 1) := by decide +kernel
theorem dX4_cut_113 : decode cX4_cut 113 = .ok (.getfield 16, 3) := by decide +kernel
theorem dX4_cut_116 : decode cX4_cut 116 = .ok (.iload 4, 2) := by decide +kernel
theorem dX4_cut_118 : decode cX4_cut 118 = .ok (.iaload, 1) := by decide +kernel
theorem dX4_cut_119 : decode cX4_cut 119 = .ok (.iload_n 3, 1) := by decide +kernel
theorem dX4_cut_120 : decode cX4_cut 120 = .ok (.if_icmp .ne 10, 3) := by decide +kernel
theorem dX4_cut_123 : decode cX4_cut 123 = .ok (.iload_n 1, 1) := by decide +kernel
theorem dX4_cut_124 : decode cX4_cut 124 = .ok (.iconst 1, 1) := by decide +kernel
theorem dX4_cut_125 : decode cX4_cut 125 = .ok (.iload 4, 2) := by decide +kernel
theorem dX4_cut_127 : decode cX4_cut 127 = .ok (.ishl, 1) := by decide +kernel
theorem dX4_cut_128 : decode cX4_cut 128 = .ok (.ior, 1) := by decide +kernel
theorem dX4_cut_129 : decode cX4_cut 129 = .ok (.istore_n 1, 1) := by decide +kernel
theorem dX4_cut_130 : decode cX4_cut 130 = .ok (.iinc 4 1, 3) := by decide +kernel
theorem dX4_cut_133 : decode cX4_cut 133 = .ok (.goto (-39), 3) := by decide +kernel
theorem dX4_cut_136 : decode cX4_cut 136 = .ok (.iinc 2 1, 3) := by decide +kernel
theorem dX4_cut_139 : decode cX4_cut 139 = .ok (.goto (-119), 3) := by decide +kernel
theorem dX4_cut_142 : decode cX4_cut 142 = .ok (.iload_n 1, 1) := by decide +kernel
theorem dX4_cut_143 : decode cX4_cut 143 = .ok (.ireturn, 1) := by decide +kernel
theorem dX4_from_0 : decode cX4_from 0 = .ok (.iconst 0, 1) := by decide +kernel
theorem dX4_from_1 : decode cX4_from 1 = .ok (.istore_n 2, 1) := by decide +kernel
theorem dX4_from_2 : decode cX4_from 2 = .ok (.iconst 0, 1) := by decide +kernel
theorem dX4_from_3 : decode cX4_from 3 = .ok (.istore_n 3, 1) := by decide +kernel
theorem dX4_from_4 : decode cX4_from 4 = .ok (.iload_n 3, 1) := by decide +kernel
theorem dX4_from_5 : decode cX4_from 5 = .ok (.aload_n 0, 1) := by decide +kernel
theorem dX4_from_6 : decode cX4_from 6 = .ok (.getfield 26, 3) := by decide +kernel
theorem dX4_from_9 : decode cX4_from 9 = .ok (.if_icmp .ge 25, 3) := by decide +kernel
theorem dX4_from_12 : decode cX4_from 12 = .ok (.aload_n 0, 1) := by decide +kernel
theorem dX4_from_13 : decode cX4_from 13 = .ok (.getfield 16, 3) := by decide +kernel
theorem dX4_from_16 : decode cX4_from 16 = .ok (.iload_n 3, 1) := by decide +kernel
theorem dX4_from_17 : decode cX4_from 17 = .ok (.iaload, 1) := by decide +kernel
theorem dX4_from_18 : decode cX4_from 18 = .ok (.iload_n 1, 1) := by decide +kernel
theorem dX4_from_19 : decode cX4_from 19 = .ok (.if_icmp .lt 9, 3) := by decide +kernel
theorem dX4_from_22 : decode cX4_from 22 = .ok (.iload_n 2, 1) := by decide +kernel
theorem dX4_from_23 : decode cX4_from 23 = .ok (.iconst 1, 1) := by decide +kernel
theorem dX4_from_24 : decode cX4_from 24 = .ok (.iload_n 3, 1) := by decide +kernel
theorem dX4_from_25 : decode cX4_from 25 = .ok (.ishl, 1) := by decide +kernel
theorem dX4_from_26 : decode cX4_from 26 = .ok (.ior, 1) := by decide +kernel
theorem dX4_from_27 : decode cX4_from 27 = .ok (.istore_n 2, 1) := by decide +kernel
theorem dX4_from_28 : decode cX4_from 28 = .ok (.iinc 3 1, 3) := by decide +kernel
theorem dX4_from_31 : decode cX4_from 31 = .ok (.goto (-27), 3) := by decide +kernel
theorem dX4_from_34 : decode cX4_from 34 = .ok (.iload_n 2, 1) := by decide +kernel
theorem dX4_from_35 : decode cX4_from 35 = .ok (.ireturn, 1) := by decide +kernel
set_option maxRecDepth 20000 in
theorem ggX4_degreeOf_X4_from : GoodIn wsX4_degreeOf wsX4_from := goodIn_r _ [6, 7, 8, 21, 22, 23, 24, 25, 26, 27] (by decide +kernel) (by decide +kernel)
set_option maxRecDepth 20000 in
theorem gX4_degreeOf_X4_from : GoodIn wsX4_degreeOf (wsV RX4 94 RX4 yX4_from wsX4_from) := goodIn_app (goodIn_of _ (by decide +kernel)) ggX4_degreeOf_X4_from
set_option maxRecDepth 20000 in
theorem ggX4_degreeOf_X4_doEntail : GoodIn wsX4_degreeOf wsX4_doEntail := goodIn_r _ [12, 13, 14, 15, 5, 16, 1, 7, 17, 18, 19, 20, 21, 22, 23, 24, 25, 26, 27] (by decide +kernel) (by decide +kernel)
set_option maxRecDepth 20000 in
theorem gX4_degreeOf_X4_doEntail : GoodIn wsX4_degreeOf (wsV RX4 65 RX4 yX4_doEntail wsX4_doEntail) := goodIn_app (goodIn_of _ (by decide +kernel)) ggX4_degreeOf_X4_doEntail
theorem dX4_degreeOf_0 : decode cX4_degreeOf 0 = .ok (.iload_n 1, 1) := by decide +kernel
theorem dX4_degreeOf_1 : decode cX4_degreeOf 1 = .ok (.ldc 51, 2) := by decide +kernel
theorem dX4_degreeOf_3 : decode cX4_degreeOf 3 = .ok (.if_icmp .ne 6, 3) := by decide +kernel
theorem dX4_degreeOf_6 : decode cX4_degreeOf 6 = .ok (.bipush 10, 2) := by decide +kernel
theorem dX4_degreeOf_8 : decode cX4_degreeOf 8 = .ok (.ireturn, 1) := by decide +kernel
theorem dX4_degreeOf_9 : decode cX4_degreeOf 9 = .ok (.bipush 9, 2) := by decide +kernel
theorem dX4_degreeOf_11 : decode cX4_degreeOf 11 = .ok (.istore_n 2, 1) := by decide +kernel
theorem dX4_degreeOf_12 : decode cX4_degreeOf 12 = .ok (.iload_n 2, 1) := by decide +kernel
theorem dX4_degreeOf_13 : decode cX4_degreeOf 13 = .ok (.ifCond .le 22, 3) := by decide +kernel
theorem dX4_degreeOf_16 : decode cX4_degreeOf 16 = .ok (.aload_n 0, 1) := by decide +kernel
theorem dX4_degreeOf_17 : decode cX4_degreeOf 17 = .ok (.aload_n 0, 1) := by decide +kernel
theorem dX4_degreeOf_18 : decode cX4_degreeOf 18 = .ok (.iload_n 2, 1) := by decide +kernel
theorem dX4_degreeOf_19 : decode cX4_degreeOf 19 = .ok (.invokevirtual 94, 3) := by decide +kernel
theorem dX4_degreeOf_22 : decode cX4_degreeOf 22 = .ok (.iload_n 1, 1) := by decide +kernel
theorem dX4_degreeOf_23 : decode cX4_degreeOf 23 = .ok (.invokevirtual 65, 3) := by decide +kernel
theorem dX4_degreeOf_26 : decode cX4_degreeOf 26 = .ok (.ifCond .ne 9, 3) := by decide +kernel
theorem dX4_degreeOf_29 : decode cX4_degreeOf 29 = .ok (.iinc 2 (-1), 3) := by decide +kernel
theorem dX4_degreeOf_32 : decode cX4_degreeOf 32 = .ok (.goto (-20), 3) := by decide +kernel
theorem dX4_degreeOf_35 : decode cX4_degreeOf 35 = .ok (.iload_n 2, 1) := by decide +kernel
theorem dX4_degreeOf_36 : decode cX4_degreeOf 36 = .ok (.ireturn, 1) := by decide +kernel
set_option maxRecDepth 20000 in
theorem ggX4_degree_X4_top : GoodIn wsX4_degree wsX4_top := goodIn_r _ [7, 8, 1, 32, 33, 34, 35, 36, 37, 38] (by decide +kernel) (by decide +kernel)
set_option maxRecDepth 20000 in
theorem gX4_degree_X4_top : GoodIn wsX4_degree (wsV RX4 56 RX4 yX4_top wsX4_top) := goodIn_app (goodIn_of _ (by decide +kernel)) ggX4_degree_X4_top
set_option maxRecDepth 20000 in
theorem ggX4_degree_X4_degreeOf : GoodIn wsX4_degree wsX4_degreeOf := goodIn_r _ [12, 13, 14, 15, 16, 6, 17, 18, 19, 20, 21, 22, 23, 24, 25, 26, 27, 28, 29, 30, 31, 32, 33, 34, 35, 36, 37, 38] (by decide +kernel) (by decide +kernel)
set_option maxRecDepth 20000 in
theorem gX4_degree_X4_degreeOf : GoodIn wsX4_degree (wsV RX4 97 RX4 yX4_degreeOf wsX4_degreeOf) := goodIn_app (goodIn_of _ (by decide +kernel)) ggX4_degree_X4_degreeOf
theorem dX4_degree_0 : decode cX4_degree 0 = .ok (.aload_n 0, 1) := by decide +kernel
theorem dX4_degree_1 : decode cX4_degree 1 = .ok (.aload_n 0, 1) := by decide +kernel
theorem dX4_degree_2 : decode cX4_degree 2 = .ok (.getfield 33, 3) := by decide +kernel
theorem dX4_degree_5 : decode cX4_degree 5 = .ok (.ifCond .ne 7, 3) := by decide +kernel
theorem dX4_degree_8 : decode cX4_degree 8 = .ok (.iconst 1, 1) := by decide +kernel
theorem dX4_degree_9 : decode cX4_degree 9 = .ok (.goto 4, 3) := by decide +kernel
theorem dX4_degree_12 : decode cX4_degree 12 = .ok (.iconst 0, 1) := by decide +kernel
theorem dX4_degree_13 : decode cX4_degree 13 = .ok (.putfield 22, 3) := by decide +kernel
theorem dX4_degree_16 : decode cX4_degree 16 = .ok (.aload_n 0, 1) := by decide +kernel
theorem dX4_degree_17 : decode cX4_degree 17 = .ok (.getfield 22, 3) := by decide +kernel
theorem dX4_degree_20 : decode cX4_degree 20 = .ok (.ifCond .ne 15, 3) := by decide +kernel
theorem dX4_degree_23 : decode cX4_degree 23 = .ok (.aload_n 0, 1) := by decide +kernel
theorem dX4_degree_24 : decode cX4_degree 24 = .ok (.aload_n 0, 1) := by decide +kernel
theorem dX4_degree_25 : decode cX4_degree 25 = .ok (.iconst 0, 1) := by decide +kernel
theorem dX4_degree_26 : decode cX4_degree 26 = .ok (.invokevirtual 56, 3) := by decide +kernel
theorem dX4_degree_29 : decode cX4_degree 29 = .ok (.invokevirtual 97, 3) := by decide +kernel
theorem dX4_degree_32 : decode cX4_degree 32 = .ok (.goto 4, 3) := by decide +kernel
theorem dX4_degree_35 : decode cX4_degree 35 = .ok (.iconst 0, 1) := by decide +kernel
theorem dX4_degree_36 : decode cX4_degree 36 = .ok (.ireturn, 1) := by decide +kernel
set_option maxRecDepth 20000 in
theorem ggX4_isBelieved_X4_top : GoodIn wsX4_isBelieved wsX4_top := goodIn_r _ [7, 8, 1, 32, 33, 34, 35, 36, 37, 38] (by decide +kernel) (by decide +kernel)
set_option maxRecDepth 20000 in
theorem gX4_isBelieved_X4_top : GoodIn wsX4_isBelieved (wsV RX4 56 RX4 yX4_top wsX4_top) := goodIn_app (goodIn_of _ (by decide +kernel)) ggX4_isBelieved_X4_top
set_option maxRecDepth 20000 in
theorem ggX4_isBelieved_X4_degreeOf : GoodIn wsX4_isBelieved wsX4_degreeOf := goodIn_r _ [12, 13, 14, 15, 16, 6, 17, 18, 19, 20, 21, 22, 23, 24, 25, 26, 27, 28, 29, 30, 31, 32, 33, 34, 35, 36, 37, 38] (by decide +kernel) (by decide +kernel)
set_option maxRecDepth 20000 in
theorem gX4_isBelieved_X4_degreeOf : GoodIn wsX4_isBelieved (wsV RX4 97 RX4 yX4_degreeOf wsX4_degreeOf) := goodIn_app (goodIn_of _ (by decide +kernel)) ggX4_isBelieved_X4_degreeOf
theorem dX4_isBelieved_0 : decode cX4_isBelieved 0 = .ok (.aload_n 0, 1) := by decide +kernel
theorem dX4_isBelieved_1 : decode cX4_isBelieved 1 = .ok (.aload_n 0, 1) := by decide +kernel
theorem dX4_isBelieved_2 : decode cX4_isBelieved 2 = .ok (.getfield 33, 3) := by decide +kernel
theorem dX4_isBelieved_5 : decode cX4_isBelieved 5 = .ok (.ifCond .ne 7, 3) := by decide +kernel
theorem dX4_isBelieved_8 : decode cX4_isBelieved 8 = .ok (.iconst 1, 1) := by decide +kernel
theorem dX4_isBelieved_9 : decode cX4_isBelieved 9 = .ok (.goto 4, 3) := by decide +kernel
theorem dX4_isBelieved_12 : decode cX4_isBelieved 12 = .ok (.iconst 0, 1) := by decide +kernel
theorem dX4_isBelieved_13 : decode cX4_isBelieved 13 = .ok (.putfield 22, 3) := by decide +kernel
theorem dX4_isBelieved_16 : decode cX4_isBelieved 16 = .ok (.aload_n 0, 1) := by decide +kernel
theorem dX4_isBelieved_17 : decode cX4_isBelieved 17 = .ok (.getfield 22, 3) := by decide +kernel
theorem dX4_isBelieved_20 : decode cX4_isBelieved 20 = .ok (.ifCond .ne 24, 3) := by decide +kernel
theorem dX4_isBelieved_23 : decode cX4_isBelieved 23 = .ok (.aload_n 0, 1) := by decide +kernel
theorem dX4_isBelieved_24 : decode cX4_isBelieved 24 = .ok (.aload_n 0, 1) := by decide +kernel
theorem dX4_isBelieved_25 : decode cX4_isBelieved 25 = .ok (.iconst 0, 1) := by decide +kernel
theorem dX4_isBelieved_26 : decode cX4_isBelieved 26 = .ok (.invokevirtual 56, 3) := by decide +kernel
theorem dX4_isBelieved_29 : decode cX4_isBelieved 29 = .ok (.invokevirtual 97, 3) := by decide +kernel
theorem dX4_isBelieved_32 : decode cX4_isBelieved 32 = .ok (.aload_n 0, 1) := by decide +kernel
theorem dX4_isBelieved_33 : decode cX4_isBelieved 33 = .ok (.iconst 0, 1) := by decide +kernel
theorem dX4_isBelieved_34 : decode cX4_isBelieved 34 = .ok (.invokevirtual 97, 3) := by decide +kernel
theorem dX4_isBelieved_37 : decode cX4_isBelieved 37 = .ok (.if_icmp .le 7, 3) := by decide +kernel
theorem dX4_isBelieved_40 : decode cX4_isBelieved 40 = .ok (.iconst 1, 1) := by decide +kernel
theorem dX4_isBelieved_41 : decode cX4_isBelieved 41 = .ok (.goto 4, 3) := by decide +kernel
theorem dX4_isBelieved_44 : decode cX4_isBelieved 44 = .ok (.iconst 0, 1) := by decide +kernel
theorem dX4_isBelieved_45 : decode cX4_isBelieved 45 = .ok (.ireturn, 1) := by decide +kernel
set_option maxRecDepth 20000 in
theorem ggX4_conflict_X4_degreeOf : GoodIn wsX4_conflict wsX4_degreeOf := goodIn_r _ [6, 7, 8, 9, 10, 5, 11, 12, 13, 14, 15, 16, 17, 18, 19, 20, 21, 22, 23, 24, 25, 26, 27, 28, 29, 30, 31, 32] (by decide +kernel) (by decide +kernel)
set_option maxRecDepth 20000 in
theorem gX4_conflict_X4_degreeOf : GoodIn wsX4_conflict (wsV RX4 97 RX4 yX4_degreeOf wsX4_degreeOf) := goodIn_app (goodIn_of _ (by decide +kernel)) ggX4_conflict_X4_degreeOf
theorem dX4_conflict_0 : decode cX4_conflict 0 = .ok (.aload_n 0, 1) := by decide +kernel
theorem dX4_conflict_1 : decode cX4_conflict 1 = .ok (.iconst 0, 1) := by decide +kernel
theorem dX4_conflict_2 : decode cX4_conflict 2 = .ok (.putfield 22, 3) := by decide +kernel
theorem dX4_conflict_5 : decode cX4_conflict 5 = .ok (.aload_n 0, 1) := by decide +kernel
theorem dX4_conflict_6 : decode cX4_conflict 6 = .ok (.iconst 0, 1) := by decide +kernel
theorem dX4_conflict_7 : decode cX4_conflict 7 = .ok (.invokevirtual 97, 3) := by decide +kernel
theorem dX4_conflict_10 : decode cX4_conflict 10 = .ok (.ireturn, 1) := by decide +kernel
set_option maxRecDepth 20000 in
theorem ggX4_core_X4_degreeOf : GoodIn wsX4_core wsX4_degreeOf := goodIn_r _ [6, 7, 8, 9, 10, 5, 11, 12, 13, 14, 15, 16, 17, 18, 19, 20, 21, 22, 23, 24, 25, 26, 27, 28, 29, 30, 31, 32] (by decide +kernel) (by decide +kernel)
set_option maxRecDepth 20000 in
theorem gX4_core_X4_degreeOf : GoodIn wsX4_core (wsV RX4 97 RX4 yX4_degreeOf wsX4_degreeOf) := goodIn_app (goodIn_of _ (by decide +kernel)) ggX4_core_X4_degreeOf
set_option maxRecDepth 20000 in
theorem ggX4_core_X4_from : GoodIn wsX4_core wsX4_from := goodIn_r _ [11, 12, 13, 26, 27, 28, 29, 30, 31, 32] (by decide +kernel) (by decide +kernel)
set_option maxRecDepth 20000 in
theorem gX4_core_X4_from : GoodIn wsX4_core (wsV RX4 94 RX4 yX4_from wsX4_from) := goodIn_app (goodIn_of _ (by decide +kernel)) ggX4_core_X4_from
set_option maxRecDepth 20000 in
theorem ggX4_core_X4_worldsIn : GoodIn wsX4_core wsX4_worldsIn := goodIn_r _ [21, 7, 12, 22, 23, 24, 5, 25, 26, 27, 28, 29, 30, 31, 32] (by decide +kernel) (by decide +kernel)
set_option maxRecDepth 20000 in
theorem gX4_core_X4_worldsIn : GoodIn wsX4_core (wsV RX4 62 RX4 yX4_worldsIn wsX4_worldsIn) := goodIn_app (goodIn_of _ (by decide +kernel)) ggX4_core_X4_worldsIn
theorem dX4_core_0 : decode cX4_core 0 = .ok (.aload_n 0, 1) := by decide +kernel
theorem dX4_core_1 : decode cX4_core 1 = .ok (.iconst 0, 1) := by decide +kernel
theorem dX4_core_2 : decode cX4_core 2 = .ok (.putfield 22, 3) := by decide +kernel
theorem dX4_core_5 : decode cX4_core 5 = .ok (.aload_n 0, 1) := by decide +kernel
theorem dX4_core_6 : decode cX4_core 6 = .ok (.aload_n 0, 1) := by decide +kernel
theorem dX4_core_7 : decode cX4_core 7 = .ok (.aload_n 0, 1) := by decide +kernel
theorem dX4_core_8 : decode cX4_core 8 = .ok (.iconst 0, 1) := by decide +kernel
theorem dX4_core_9 : decode cX4_core 9 = .ok (.invokevirtual 97, 3) := by decide +kernel
theorem dX4_core_12 : decode cX4_core 12 = .ok (.iconst 1, 1) := by decide +kernel
theorem dX4_core_13 : decode cX4_core 13 = .ok (.iadd, 1) := by decide +kernel
theorem dX4_core_14 : decode cX4_core 14 = .ok (.invokevirtual 94, 3) := by decide +kernel
theorem dX4_core_17 : decode cX4_core 17 = .ok (.invokevirtual 62, 3) := by decide +kernel
theorem dX4_core_20 : decode cX4_core 20 = .ok (.ireturn, 1) := by decide +kernel
set_option maxRecDepth 20000 in
theorem ggX4_least_X4_has : GoodIn wsX4_least wsX4_has := goodIn_r _ [10] (by decide +kernel) (by decide +kernel)
set_option maxRecDepth 20000 in
theorem gX4_least_X4_has : GoodIn wsX4_least (va_wsS RX4 36 yX4_has wsX4_has) := goodIn_app (goodIn_of _ (by decide +kernel)) ggX4_least_X4_has
theorem dX4_least_0 : decode cX4_least 0 = .ok (.ldc 102, 2) := by decide +kernel
theorem dX4_least_2 : decode cX4_least 2 = .ok (.istore_n 2, 1) := by decide +kernel
theorem dX4_least_3 : decode cX4_least 3 = .ok (.iconst 0, 1) := by decide +kernel
theorem dX4_least_4 : decode cX4_least 4 = .ok (.istore_n 3, 1) := by decide +kernel
theorem dX4_least_5 : decode cX4_least 5 = .ok (.iload_n 3, 1) := by decide +kernel
theorem dX4_least_6 : decode cX4_least 6 = .ok (.bipush 16, 2) := by decide +kernel
theorem dX4_least_8 : decode cX4_least 8 = .ok (.if_icmp .ge 28, 3) := by decide +kernel
theorem dX4_least_11 : decode cX4_least 11 = .ok (.iload_n 1, 1) := by decide +kernel
theorem dX4_least_12 : decode cX4_least 12 = .ok (.iload_n 3, 1) := by decide +kernel
theorem dX4_least_13 : decode cX4_least 13 = .ok (.invokestatic 36, 3) := by decide +kernel
theorem dX4_least_16 : decode cX4_least 16 = .ok (.ifCond .eq 14, 3) := by decide +kernel
theorem dX4_least_19 : decode cX4_least 19 = .ok (.iload_n 2, 1) := by decide +kernel
theorem dX4_least_20 : decode cX4_least 20 = .ok (.aload_n 0, 1) := by decide +kernel
theorem dX4_least_21 : decode cX4_least 21 = .ok (.getfield 19, 3) := by decide +kernel
theorem dX4_least_24 : decode cX4_least 24 = .ok (.iload_n 3, 1) := by decide +kernel
theorem dX4_least_25 : decode cX4_least 25 = .ok (.iaload, 1) := by decide +kernel
theorem dX4_least_26 : decode cX4_least 26 = .ok (.invokestatic 89, 3) := by decide +kernel
theorem dX4_least_29 : decode cX4_least 29 = .ok (.istore_n 2, 1) := by decide +kernel
theorem dX4_least_30 : decode cX4_least 30 = .ok (.iinc 3 1, 3) := by decide +kernel
theorem dX4_least_33 : decode cX4_least 33 = .ok (.goto (-28), 3) := by decide +kernel
theorem dX4_least_36 : decode cX4_least 36 = .ok (.iload_n 2, 1) := by decide +kernel
theorem dX4_least_37 : decode cX4_least 37 = .ok (.ireturn, 1) := by decide +kernel
set_option maxRecDepth 20000 in
theorem ggX4_withLevel_X4_has : GoodIn wsX4_withLevel wsX4_has := goodIn_r _ [5] (by decide +kernel) (by decide +kernel)
set_option maxRecDepth 20000 in
theorem gX4_withLevel_X4_has : GoodIn wsX4_withLevel (va_wsS RX4 36 yX4_has wsX4_has) := goodIn_app (goodIn_of _ (by decide +kernel)) ggX4_withLevel_X4_has
theorem dX4_withLevel_0 : decode cX4_withLevel 0 = .ok (.iconst 0, 1) := by decide +kernel
theorem dX4_withLevel_1 : decode cX4_withLevel 1 = .ok (.istore_n 3, 1) := by decide +kernel
theorem dX4_withLevel_2 : decode cX4_withLevel 2 = .ok (.iconst 0, 1) := by decide +kernel
theorem dX4_withLevel_3 : decode cX4_withLevel 3 = .ok (.istore 4, 2) := by decide +kernel
theorem dX4_withLevel_5 : decode cX4_withLevel 5 = .ok (.iload 4, 2) := by decide +kernel
theorem dX4_withLevel_7 : decode cX4_withLevel 7 = .ok (.bipush 16, 2) := by decide +kernel
theorem dX4_withLevel_9 : decode cX4_withLevel 9 = .ok (.if_icmp .ge 36, 3) := by decide +kernel
theorem dX4_withLevel_12 : decode cX4_withLevel 12 = .ok (.iload_n 1, 1) := by decide +kernel
theorem dX4_withLevel_13 : decode cX4_withLevel 13 = .ok (.iload 4, 2) := by decide +kernel
theorem dX4_withLevel_15 : decode cX4_withLevel 15 = .ok (.invokestatic 36, 3) := by decide +kernel
theorem dX4_withLevel_18 : decode cX4_withLevel 18 = .ok (.ifCond .eq 21, 3) := by decide +kernel
theorem dX4_withLevel_21 : decode cX4_withLevel 21 = .ok (.aload_n 0, 1) := by decide +kernel
theorem dX4_withLevel_22 : decode cX4_withLevel 22 = .ok (.getfield 19, 3) := by decide +kernel
theorem dX4_withLevel_25 : decode cX4_withLevel 25 = .ok (.iload 4, 2) := by decide +kernel
theorem dX4_withLevel_27 : decode cX4_withLevel 27 = .ok (.iaload, 1) := by decide +kernel
theorem dX4_withLevel_28 : decode cX4_withLevel 28 = .ok (.iload_n 2, 1) := by decide +kernel
theorem dX4_withLevel_29 : decode cX4_withLevel 29 = .ok (.if_icmp .ne 10, 3) := by decide +kernel
theorem dX4_withLevel_32 : decode cX4_withLevel 32 = .ok (.iload_n 3, 1) := by decide +kernel
theorem dX4_withLevel_33 : decode cX4_withLevel 33 = .ok (.iconst 1, 1) := by decide +kernel
theorem dX4_withLevel_34 : decode cX4_withLevel 34 = .ok (.iload 4, 2) := by decide +kernel
theorem dX4_withLevel_36 : decode cX4_withLevel 36 = .ok (.ishl, 1) := by decide +kernel
theorem dX4_withLevel_37 : decode cX4_withLevel 37 = .ok (.ior, 1) := by decide +kernel
theorem dX4_withLevel_38 : decode cX4_withLevel 38 = .ok (.istore_n 3, 1) := by decide +kernel
theorem dX4_withLevel_39 : decode cX4_withLevel 39 = .ok (.iinc 4 1, 3) := by decide +kernel
theorem dX4_withLevel_42 : decode cX4_withLevel 42 = .ok (.goto (-37), 3) := by decide +kernel
theorem dX4_withLevel_45 : decode cX4_withLevel 45 = .ok (.iload_n 3, 1) := by decide +kernel
theorem dX4_withLevel_46 : decode cX4_withLevel 46 = .ok (.ireturn, 1) := by decide +kernel
set_option maxRecDepth 20000 in
theorem ggX4_possibleNow_X4_withLevel : GoodIn wsX4_possibleNow wsX4_withLevel := goodIn_r _ [6, 7, 8, 9, 5, 10, 11, 12, 13, 14, 15, 16, 17] (by decide +kernel) (by decide +kernel)
set_option maxRecDepth 20000 in
theorem gX4_possibleNow_X4_withLevel : GoodIn wsX4_possibleNow (wsV RX4 103 RX4 yX4_withLevel wsX4_withLevel) := goodIn_app (goodIn_of _ (by decide +kernel)) ggX4_possibleNow_X4_withLevel
theorem dX4_possibleNow_0 : decode cX4_possibleNow 0 = .ok (.aload_n 0, 1) := by decide +kernel
theorem dX4_possibleNow_1 : decode cX4_possibleNow 1 = .ok (.ldc 51, 2) := by decide +kernel
theorem dX4_possibleNow_3 : decode cX4_possibleNow 3 = .ok (.iconst 0, 1) := by decide +kernel
theorem dX4_possibleNow_4 : decode cX4_possibleNow 4 = .ok (.invokevirtual 103, 3) := by decide +kernel
theorem dX4_possibleNow_7 : decode cX4_possibleNow 7 = .ok (.ireturn, 1) := by decide +kernel
set_option maxRecDepth 20000 in
theorem ggX4_add__X4_has : GoodIn wsX4_add_ wsX4_has := goodIn_r _ [5] (by decide +kernel) (by decide +kernel)
set_option maxRecDepth 20000 in
theorem gX4_add__X4_has : GoodIn wsX4_add_ (va_wsS RX4 36 yX4_has wsX4_has) := goodIn_app (goodIn_of _ (by decide +kernel)) ggX4_add__X4_has
theorem dX4_add__0 : decode cX4_add_ 0 = .ok (.iconst 0, 1) := by decide +kernel
theorem dX4_add__1 : decode cX4_add_ 1 = .ok (.istore_n 3, 1) := by decide +kernel
theorem dX4_add__2 : decode cX4_add_ 2 = .ok (.iload_n 3, 1) := by decide +kernel
theorem dX4_add__3 : decode cX4_add_ 3 = .ok (.bipush 16, 2) := by decide +kernel
theorem dX4_add__5 : decode cX4_add_ 5 = .ok (.if_icmp .ge 31, 3) := by decide +kernel
theorem dX4_add__8 : decode cX4_add_ 8 = .ok (.aload_n 0, 1) := by decide +kernel
theorem dX4_add__9 : decode cX4_add_ 9 = .ok (.getfield 19, 3) := by decide +kernel
theorem dX4_add__12 : decode cX4_add_ 12 = .ok (.iload_n 3, 1) := by decide +kernel
theorem dX4_add__13 : decode cX4_add_ 13 = .ok (.dup2, 1) := by decide +kernel
theorem dX4_add__14 : decode cX4_add_ 14 = .ok (.iaload, 1) := by decide +kernel
theorem dX4_add__15 : decode cX4_add_ 15 = .ok (.iload_n 1, 1) := by decide +kernel
theorem dX4_add__16 : decode cX4_add_ 16 = .ok (.iload_n 3, 1) := by decide +kernel
theorem dX4_add__17 : decode cX4_add_ 17 = .ok (.invokestatic 36, 3) := by decide +kernel
theorem dX4_add__20 : decode cX4_add_ 20 = .ok (.ifCond .eq 7, 3) := by decide +kernel
theorem dX4_add__23 : decode cX4_add_ 23 = .ok (.iload_n 2, 1) := by decide +kernel
theorem dX4_add__24 : decode cX4_add_ 24 = .ok (.goto 4, 3) := by decide +kernel
theorem dX4_add__27 : decode cX4_add_ 27 = .ok (.iconst 0, 1) := by decide +kernel
theorem dX4_add__28 : decode cX4_add_ 28 = .ok (.iadd, 1) := by decide +kernel
theorem dX4_add__29 : decode cX4_add_ 29 = .ok (.iastore, 1) := by decide +kernel
theorem dX4_add__30 : decode cX4_add_ 30 = .ok (.iinc 3 1, 3) := by decide +kernel
theorem dX4_add__33 : decode cX4_add_ 33 = .ok (.goto (-31), 3) := by decide +kernel
theorem dX4_add__36 : decode cX4_add_ 36 = .ok (.return_, 1) := by decide +kernel
set_option maxRecDepth 20000 in
theorem ggX4_load_X4_has : GoodIn wsX4_load wsX4_has := goodIn_r _ [14] (by decide +kernel) (by decide +kernel)
set_option maxRecDepth 20000 in
theorem gX4_load_X4_has : GoodIn wsX4_load (va_wsS RX4 36 yX4_has wsX4_has) := goodIn_app (goodIn_of _ (by decide +kernel)) ggX4_load_X4_has
set_option maxRecDepth 20000 in
theorem ggX4_load_X4_least : GoodIn wsX4_load wsX4_least := goodIn_r _ [18, 19, 2, 20, 21, 8, 22, 11, 12, 13, 14, 35, 36, 37, 38, 39, 40, 41] (by decide +kernel) (by decide +kernel)
set_option maxRecDepth 20000 in
theorem gX4_load_X4_least : GoodIn wsX4_load (wsV RX4 109 RX4 yX4_least wsX4_least) := goodIn_app (goodIn_of _ (by decide +kernel)) ggX4_load_X4_least
set_option maxRecDepth 20000 in
theorem ggX4_load_X4_add_ : GoodIn wsX4_load wsX4_add_ := goodIn_r _ [26, 2, 11, 12, 13, 14, 35, 36, 37, 38, 39, 40, 41] (by decide +kernel) (by decide +kernel)
set_option maxRecDepth 20000 in
theorem gX4_load_X4_add_ : GoodIn wsX4_load (wsV RX4 112 RX4 yX4_add_ wsX4_add_) := goodIn_app (goodIn_of _ (by decide +kernel)) ggX4_load_X4_add_
set_option maxRecDepth 20000 in
theorem ggX4_load_X4_possibleNow : GoodIn wsX4_load wsX4_possibleNow := goodIn_r _ [30, 10, 31, 32, 33, 13, 34, 2, 11, 12, 14, 35, 36, 37, 38, 39, 40, 41] (by decide +kernel) (by decide +kernel)
set_option maxRecDepth 20000 in
theorem gX4_load_X4_possibleNow : GoodIn wsX4_load (wsV RX4 116 RX4 yX4_possibleNow wsX4_possibleNow) := goodIn_app (goodIn_of _ (by decide +kernel)) ggX4_load_X4_possibleNow
theorem dX4_load_0 : decode cX4_load 0 = .ok (.aload_n 0, 1) := by decide +kernel
theorem dX4_load_1 : decode cX4_load 1 = .ok (.iconst 0, 1) := by decide +kernel
theorem dX4_load_2 : decode cX4_load 2 = .ok (.putfield 22, 3) := by decide +kernel
theorem dX4_load_5 : decode cX4_load 5 = .ok (.iconst 0, 1) := by decide +kernel
theorem dX4_load_6 : decode cX4_load 6 = .ok (.istore_n 1, 1) := by decide +kernel
theorem dX4_load_7 : decode cX4_load 7 = .ok (.iload_n 1, 1) := by decide +kernel
theorem dX4_load_8 : decode cX4_load 8 = .ok (.bipush 16, 2) := by decide +kernel
theorem dX4_load_10 : decode cX4_load 10 = .ok (.if_icmp .ge 66, 3) := by decide +kernel
theorem dX4_load_13 : decode cX4_load 13 = .ok (.aload_n 0, 1) := by decide +kernel
theorem dX4_load_14 : decode cX4_load 14 = .ok (.getfield 19, 3) := by decide +kernel
theorem dX4_load_17 : decode cX4_load 17 = .ok (.iload_n 1, 1) := by decide +kernel
theorem dX4_load_18 : decode cX4_load 18 = .ok (.iconst 0, 1) := by decide +kernel
theorem dX4_load_19 : decode cX4_load 19 = .ok (.iastore, 1) := by decide +kernel
theorem dX4_load_20 : decode cX4_load 20 = .ok (.iconst 0, 1) := by decide +kernel
theorem dX4_load_21 : decode cX4_load 21 = .ok (.istore_n 2, 1) := by decide +kernel
theorem dX4_load_22 : decode cX4_load 22 = .ok (.iload_n 2, 1) := by decide +kernel
theorem dX4_load_23 : decode cX4_load 23 = .ok (.aload_n 0, 1) := by decide +kernel
theorem dX4_load_24 : decode cX4_load 24 = .ok (.getfield 26, 3) := by decide +kernel
theorem dX4_load_27 : decode cX4_load 27 = .ok (.if_icmp .ge 43, 3) := by decide +kernel
theorem dX4_load_30 : decode cX4_load 30 = .ok (.aload_n 0, 1) := by decide +kernel
theorem dX4_load_31 : decode cX4_load 31 = .ok (.getfield 13, 3) := by decide +kernel
theorem dX4_load_34 : decode cX4_load 34 = .ok (.iload_n 2, 1) := by decide +kernel
theorem dX4_load_35 : decode cX4_load 35 = .ok (.iaload, 1) := by decide +kernel
theorem dX4_load_36 : decode cX4_load 36 = .ok (.iload_n 1, 1) := by decide +kernel
theorem dX4_load_37 : decode cX4_load 37 = .ok (.invokestatic 36, 3) := by decide +kernel
theorem dX4_load_40 : decode cX4_load 40 = .ok (.ifCond .ne 24, 3) := by decide +kernel
theorem dX4_load_43 : decode cX4_load 43 = .ok (.aload_n 0, 1) := by decide +kernel
theorem dX4_load_44 : decode cX4_load 44 = .ok (.getfield 19, 3) := by decide +kernel
theorem dX4_load_47 : decode cX4_load 47 = .ok (.iload_n 1, 1) := by decide +kernel
theorem dX4_load_48 : decode cX4_load 48 = .ok (.aload_n 0, 1) := by decide +kernel
theorem dX4_load_49 : decode cX4_load 49 = .ok (.getfield 19, 3) := by decide +kernel
theorem dX4_load_52 : decode cX4_load 52 = .ok (.iload_n 1, 1) := by decide +kernel
theorem dX4_load_53 : decode cX4_load 53 = .ok (.iaload, 1) := by decide +kernel
theorem dX4_load_54 : decode cX4_load 54 = .ok (.aload_n 0, 1) := by decide +kernel
theorem dX4_load_55 : decode cX4_load 55 = .ok (.getfield 16, 3) := by decide +kernel
theorem dX4_load_58 : decode cX4_load 58 = .ok (.iload_n 2, 1) := by decide +kernel
theorem dX4_load_59 : decode cX4_load 59 = .ok (.iaload, 1) := by decide +kernel
theorem dX4_load_60 : decode cX4_load 60 = .ok (.invokestatic 106, 3) := by decide +kernel
theorem dX4_load_63 : decode cX4_load 63 = .ok (.iastore, 1) := by decide +kernel
theorem dX4_load_64 : decode cX4_load 64 = .ok (.iinc 2 1, 3) := by decide +kernel
theorem dX4_load_67 : decode cX4_load 67 = .ok (.goto (-45), 3) := by decide +kernel
theorem dX4_load_70 : decode cX4_load 70 = .ok (.iinc 1 1, 3) := by decide +kernel
theorem dX4_load_73 : decode cX4_load 73 = .ok (.goto (-66), 3) := by decide +kernel
theorem dX4_load_76 : decode cX4_load 76 = .ok (.aload_n 0, 1) := by decide +kernel
theorem dX4_load_77 : decode cX4_load 77 = .ok (.ldc 51, 2) := by decide +kernel
theorem dX4_load_79 : decode cX4_load 79 = .ok (.aload_n 0, 1) := by decide +kernel
theorem dX4_load_80 : decode cX4_load 80 = .ok (.ldc 51, 2) := by decide +kernel
theorem dX4_load_82 : decode cX4_load 82 = .ok (.invokevirtual 109, 3) := by decide +kernel
theorem dX4_load_85 : decode cX4_load 85 = .ok (.ineg, 1) := by decide +kernel
theorem dX4_load_86 : decode cX4_load 86 = .ok (.invokevirtual 112, 3) := by decide +kernel
theorem dX4_load_89 : decode cX4_load 89 = .ok (.aload_n 0, 1) := by decide +kernel
theorem dX4_load_90 : decode cX4_load 90 = .ok (.invokevirtual 116, 3) := by decide +kernel
theorem dX4_load_93 : decode cX4_load 93 = .ok (.ireturn, 1) := by decide +kernel
set_option maxRecDepth 20000 in
theorem ggX4_level_X4_isIn : GoodIn wsX4_level wsX4_isIn := goodIn_r _ [6] (by decide +kernel) (by decide +kernel)
set_option maxRecDepth 20000 in
theorem gX4_level_X4_isIn : GoodIn wsX4_level (va_wsS RX4 29 yX4_isIn wsX4_isIn) := goodIn_app (goodIn_of _ (by decide +kernel)) ggX4_level_X4_isIn
set_option maxRecDepth 20000 in
theorem ggX4_level_X4_no : GoodIn wsX4_level wsX4_no := goodIn_r _ [10, 1, 11, 12, 13, 14, 15, 16, 17] (by decide +kernel) (by decide +kernel)
set_option maxRecDepth 20000 in
theorem gX4_level_X4_no : GoodIn wsX4_level (wsV RX4 40 RX4 yX4_no wsX4_no) := goodIn_app (goodIn_of _ (by decide +kernel)) ggX4_level_X4_no
theorem dX4_level_0 : decode cX4_level 0 = .ok (.aload_n 0, 1) := by decide +kernel
theorem dX4_level_1 : decode cX4_level 1 = .ok (.iconst 0, 1) := by decide +kernel
theorem dX4_level_2 : decode cX4_level 2 = .ok (.putfield 22, 3) := by decide +kernel
theorem dX4_level_5 : decode cX4_level 5 = .ok (.iload_n 1, 1) := by decide +kernel
theorem dX4_level_6 : decode cX4_level 6 = .ok (.iconst 0, 1) := by decide +kernel
theorem dX4_level_7 : decode cX4_level 7 = .ok (.bipush 15, 2) := by decide +kernel
theorem dX4_level_9 : decode cX4_level 9 = .ok (.invokestatic 29, 3) := by decide +kernel
theorem dX4_level_12 : decode cX4_level 12 = .ok (.ifCond .eq 12, 3) := by decide +kernel
theorem dX4_level_15 : decode cX4_level 15 = .ok (.aload_n 0, 1) := by decide +kernel
theorem dX4_level_16 : decode cX4_level 16 = .ok (.getfield 19, 3) := by decide +kernel
theorem dX4_level_19 : decode cX4_level 19 = .ok (.iload_n 1, 1) := by decide +kernel
theorem dX4_level_20 : decode cX4_level 20 = .ok (.iaload, 1) := by decide +kernel
theorem dX4_level_21 : decode cX4_level 21 = .ok (.goto 8, 3) := by decide +kernel
theorem dX4_level_24 : decode cX4_level 24 = .ok (.aload_n 0, 1) := by decide +kernel
theorem dX4_level_25 : decode cX4_level 25 = .ok (.iconst 1, 1) := by decide +kernel
theorem dX4_level_26 : decode cX4_level 26 = .ok (.invokevirtual 40, 3) := by decide +kernel
theorem dX4_level_29 : decode cX4_level 29 = .ok (.ireturn, 1) := by decide +kernel
set_option maxRecDepth 20000 in
theorem ggX4_possible_X4_possibleNow : GoodIn wsX4_possible wsX4_possibleNow := goodIn_r _ [6, 7, 8, 9, 10, 5, 11, 12, 13, 14, 15, 16, 17, 18, 19, 20, 21, 22] (by decide +kernel) (by decide +kernel)
set_option maxRecDepth 20000 in
theorem gX4_possible_X4_possibleNow : GoodIn wsX4_possible (wsV RX4 116 RX4 yX4_possibleNow wsX4_possibleNow) := goodIn_app (goodIn_of _ (by decide +kernel)) ggX4_possible_X4_possibleNow
theorem dX4_possible_0 : decode cX4_possible 0 = .ok (.aload_n 0, 1) := by decide +kernel
theorem dX4_possible_1 : decode cX4_possible 1 = .ok (.iconst 0, 1) := by decide +kernel
theorem dX4_possible_2 : decode cX4_possible 2 = .ok (.putfield 22, 3) := by decide +kernel
theorem dX4_possible_5 : decode cX4_possible 5 = .ok (.aload_n 0, 1) := by decide +kernel
theorem dX4_possible_6 : decode cX4_possible 6 = .ok (.invokevirtual 116, 3) := by decide +kernel
theorem dX4_possible_9 : decode cX4_possible 9 = .ok (.ireturn, 1) := by decide +kernel
set_option maxRecDepth 20000 in
theorem ggX4_order_X4_least : GoodIn wsX4_order wsX4_least := goodIn_r _ [12, 13, 3, 14, 15, 16, 17, 18, 19, 11, 20, 25, 26, 27, 28, 29, 30, 31] (by decide +kernel) (by decide +kernel)
set_option maxRecDepth 20000 in
theorem gX4_order_X4_least : GoodIn wsX4_order (wsV RX4 109 RX4 yX4_least wsX4_least) := goodIn_app (goodIn_of _ (by decide +kernel)) ggX4_order_X4_least
set_option maxRecDepth 20000 in
theorem ggX4_order_X4_withLevel : GoodIn wsX4_order wsX4_withLevel := goodIn_r _ [24, 3, 18, 19, 11, 20, 25, 26, 27, 28, 29, 30, 31] (by decide +kernel) (by decide +kernel)
set_option maxRecDepth 20000 in
theorem gX4_order_X4_withLevel : GoodIn wsX4_order (wsV RX4 103 RX4 yX4_withLevel wsX4_withLevel) := goodIn_app (goodIn_of _ (by decide +kernel)) ggX4_order_X4_withLevel
set_option maxRecDepth 20000 in
theorem ggX4_order_X4_has : GoodIn wsX4_order wsX4_has := goodIn_r _ [20] (by decide +kernel) (by decide +kernel)
set_option maxRecDepth 20000 in
theorem gX4_order_X4_has : GoodIn wsX4_order (va_wsS RX4 36 yX4_has wsX4_has) := goodIn_app (goodIn_of _ (by decide +kernel)) ggX4_order_X4_has
theorem dX4_order_0 : decode cX4_order 0 = .ok (.bipush 16, 2) := by decide +kernel
theorem dX4_order_2 : decode cX4_order 2 = .ok (.newarray .int, 2) := by decide +kernel
theorem dX4_order_4 : decode cX4_order 4 = .ok (.astore_n 2, 1) := by decide +kernel
theorem dX4_order_5 : decode cX4_order 5 = .ok (.iconst 0, 1) := by decide +kernel
theorem dX4_order_6 : decode cX4_order 6 = .ok (.istore_n 3, 1) := by decide +kernel
theorem dX4_order_7 : decode cX4_order 7 = .ok (.iconst 0, 1) := by decide +kernel
theorem dX4_order_8 : decode cX4_order 8 = .ok (.istore 4, 2) := by decide +kernel
theorem dX4_order_10 : decode cX4_order 10 = .ok (.iload 4, 2) := by decide +kernel
theorem dX4_order_12 : decode cX4_order 12 = .ok (.iconst 2, 1) := by decide +kernel
theorem dX4_order_13 : decode cX4_order 13 = .ok (.if_icmp .ge 91, 3) := by decide +kernel
theorem dX4_order_16 : decode cX4_order 16 = .ok (.iload 4, 2) := by decide +kernel
theorem dX4_order_18 : decode cX4_order 18 = .ok (.ifCond .ne 7, 3) := by decide +kernel
theorem dX4_order_21 : decode cX4_order 21 = .ok (.iload_n 1, 1) := by decide +kernel
theorem dX4_order_22 : decode cX4_order 22 = .ok (.goto 9, 3) := by decide +kernel
theorem dX4_order_25 : decode cX4_order 25 = .ok (.ldc 51, 2) := by decide +kernel
theorem dX4_order_27 : decode cX4_order 27 = .ok (.iload_n 1, 1) := by decide +kernel
theorem dX4_order_28 : decode cX4_order 28 = .ok (.iconst (-1), 1) := by decide +kernel
theorem dX4_order_29 : decode cX4_order 29 = .ok (.ixor, 1) := by decide +kernel
theorem dX4_order_30 : decode cX4_order 30 = .ok (.iand, 1) := by decide +kernel
theorem dX4_order_31 : decode cX4_order 31 = .ok (.istore 5, 2) := by decide +kernel
theorem dX4_order_33 : decode cX4_order 33 = .ok (.iload 5, 2) := by decide +kernel
theorem dX4_order_35 : decode cX4_order 35 = .ok (.ifCond .eq 63, 3) := by decide +kernel
theorem dX4_order_38 : decode cX4_order 38 = .ok (.aload_n 0, 1) := by decide +kernel
theorem dX4_order_39 : decode cX4_order 39 = .ok (.iload 5, 2) := by decide +kernel
theorem dX4_order_41 : decode cX4_order 41 = .ok (.aload_n 0, 1) := by decide +kernel
theorem dX4_order_42 : decode cX4_order 42 = .ok (.iload 5, 2) := by decide +kernel
theorem dX4_order_44 : decode cX4_order 44 = .ok (.invokevirtual 109, 3) := by decide +kernel
theorem dX4_order_47 : decode cX4_order 47 = .ok (.invokevirtual 103, 3) := by decide +kernel
theorem dX4_order_50 : decode cX4_order 50 = .ok (.istore 6, 2) := by decide +kernel
theorem dX4_order_52 : decode cX4_order 52 = .ok (.iconst 0, 1) := by decide +kernel
theorem dX4_order_53 : decode cX4_order 53 = .ok (.istore 7, 2) := by decide +kernel
theorem dX4_order_55 : decode cX4_order 55 = .ok (.iload 7, 2) := by decide +kernel
theorem dX4_order_57 : decode cX4_order 57 = .ok (.bipush 16, 2) := by decide +kernel
theorem dX4_order_59 : decode cX4_order 59 = .ok (.if_icmp .ge 24, 3) := by decide +kernel
theorem dX4_order_62 : decode cX4_order 62 = .ok (.iload 6, 2) := by decide +kernel
theorem dX4_order_64 : decode cX4_order 64 = .ok (.iload 7, 2) := by decide +kernel
theorem dX4_order_66 : decode cX4_order 66 = .ok (.invokestatic 36, 3) := by decide +kernel
theorem dX4_order_69 : decode cX4_order 69 = .ok (.ifCond .eq 8, 3) := by decide +kernel
theorem dX4_order_72 : decode cX4_order 72 = .ok (.aload_n 2, 1) := by decide +kernel
theorem dX4_order_73 : decode cX4_order 73 = .ok (.iload 7, 2) := by decide +kernel
theorem dX4_order_75 : decode cX4_order 75 = .ok (.iload_n 3, 1) := by decide +kernel
theorem dX4_order_76 : decode cX4_order 76 = .ok (.iastore, 1) := by decide +kernel
theorem dX4_order_77 : decode cX4_order 77 = .ok (.iinc 7 1, 3) := by decide +kernel
theorem dX4_order_80 : decode cX4_order 80 = .ok (.goto (-25), 3) := by decide +kernel
theorem dX4_order_83 : decode cX4_order 83 = .ok (.iload 5, 2) := by decide +kernel
theorem dX4_order_85 : decode cX4_order 85 = .ok (.iload 6, 2) := by decide +kernel
theorem dX4_order_87 : decode cX4_order 87 = .ok (.iconst (-1), 1) := by decide +kernel
theorem dX4_order_88 : decode cX4_order 88 = .ok (.ixor, 1) := by decide +kernel
theorem dX4_order_89 : decode cX4_order 89 = .ok (.iand, 1) := by decide +kernel
theorem dX4_order_90 : decode cX4_order 90 = .ok (.istore 5, 2) := by decide +kernel
theorem dX4_order_92 : decode cX4_order 92 = .ok (.iinc 3 1, 3) := by decide +kernel
theorem dX4_order_95 : decode cX4_order 95 = .ok (.goto (-62), 3) := by decide +kernel
theorem dX4_order_98 : decode cX4_order 98 = .ok (.iinc 4 1, 3) := by decide +kernel
theorem dX4_order_101 : decode cX4_order 101 = .ok (.goto (-91), 3) := by decide +kernel
theorem dX4_order_104 : decode cX4_order 104 = .ok (.aload_n 2, 1) := by decide +kernel
theorem dX4_order_105 : decode cX4_order 105 = .ok (.iconst 0, 1) := by decide +kernel
theorem dX4_order_106 : decode cX4_order 106 = .ok (.aload_n 0, 1) := by decide +kernel
theorem dX4_order_107 : decode cX4_order 107 = .ok (.getfield 19, 3) := by decide +kernel
theorem dX4_order_110 : decode cX4_order 110 = .ok (.iconst 0, 1) := by decide +kernel
theorem dX4_order_111 : decode cX4_order 111 = .ok (.bipush 16, 2) := by decide +kernel
theorem dX4_order_113 : decode cX4_order 113 = .ok (.invokestatic 120, 3) := by decide +kernel
theorem dX4_order_116 : decode cX4_order 116 = .ok (.return_, 1) := by decide +kernel
set_option maxRecDepth 20000 in
theorem ggX4_learn_X4_isIn : GoodIn wsX4_learn wsX4_isIn := goodIn_r _ [7] (by decide +kernel) (by decide +kernel)
set_option maxRecDepth 20000 in
theorem gX4_learn_X4_isIn : GoodIn wsX4_learn (va_wsS RX4 29 yX4_isIn wsX4_isIn) := goodIn_app (goodIn_of _ (by decide +kernel)) ggX4_learn_X4_isIn
set_option maxRecDepth 20000 in
theorem ggX4_learn_X4_no : GoodIn wsX4_learn wsX4_no := goodIn_r _ [11, 1, 51, 52, 53, 54, 55, 56, 57] (by decide +kernel) (by decide +kernel)
set_option maxRecDepth 20000 in
theorem gX4_learn_X4_no : GoodIn wsX4_learn (wsV RX4 40 RX4 yX4_no wsX4_no) := goodIn_app (goodIn_of _ (by decide +kernel)) ggX4_learn_X4_no
set_option maxRecDepth 20000 in
theorem ggX4_learn_X4_top : GoodIn wsX4_learn wsX4_top := goodIn_r _ [15, 16, 2, 51, 52, 53, 54, 55, 56, 57] (by decide +kernel) (by decide +kernel)
set_option maxRecDepth 20000 in
theorem gX4_learn_X4_top : GoodIn wsX4_learn (wsV RX4 56 RX4 yX4_top wsX4_top) := goodIn_app (goodIn_of _ (by decide +kernel)) ggX4_learn_X4_top
set_option maxRecDepth 20000 in
theorem ggX4_learn_X4_order : GoodIn wsX4_learn wsX4_order := goodIn_r _ [20, 21, 3, 22, 23, 24, 25, 26, 27, 28, 29, 6, 30, 31, 32, 33, 34, 35, 36, 37, 38, 39, 40, 41, 42, 51, 52, 53, 54, 55, 56, 57] (by decide +kernel) (by decide +kernel)
set_option maxRecDepth 20000 in
theorem gX4_learn_X4_order : GoodIn wsX4_learn (wsV RX4 126 RX4 yX4_order wsX4_order) := goodIn_app (goodIn_of _ (by decide +kernel)) ggX4_learn_X4_order
set_option maxRecDepth 20000 in
theorem ggX4_learn_X4_least : GoodIn wsX4_learn wsX4_least := goodIn_r _ [30, 31, 22, 32, 33, 34, 35, 36, 37, 6, 38, 51, 52, 53, 54, 55, 56, 57] (by decide +kernel) (by decide +kernel)
set_option maxRecDepth 20000 in
theorem gX4_learn_X4_least : GoodIn wsX4_learn (wsV RX4 109 RX4 yX4_least wsX4_least) := goodIn_app (goodIn_of _ (by decide +kernel)) ggX4_learn_X4_least
set_option maxRecDepth 20000 in
theorem ggX4_learn_X4_add_ : GoodIn wsX4_learn wsX4_add_ := goodIn_r _ [46, 22, 36, 37, 6, 38, 51, 52, 53, 54, 55, 56, 57] (by decide +kernel) (by decide +kernel)
set_option maxRecDepth 20000 in
theorem gX4_learn_X4_add_ : GoodIn wsX4_learn (wsV RX4 112 RX4 yX4_add_ wsX4_add_) := goodIn_app (goodIn_of _ (by decide +kernel)) ggX4_learn_X4_add_
set_option maxRecDepth 20000 in
theorem ggX4_learn_X4_withLevel : GoodIn wsX4_learn wsX4_withLevel := goodIn_r _ [42, 22, 36, 37, 6, 38, 51, 52, 53, 54, 55, 56, 57] (by decide +kernel) (by decide +kernel)
set_option maxRecDepth 20000 in
theorem gX4_learn_X4_withLevel : GoodIn wsX4_learn (wsV RX4 103 RX4 yX4_withLevel wsX4_withLevel) := goodIn_app (goodIn_of _ (by decide +kernel)) ggX4_learn_X4_withLevel
set_option maxRecDepth 20000 in
theorem ggX4_learn_X4_possibleNow : GoodIn wsX4_learn wsX4_possibleNow := goodIn_r _ [50, 3, 39, 40, 41, 6, 42, 22, 36, 37, 38, 51, 52, 53, 54, 55, 56, 57] (by decide +kernel) (by decide +kernel)
set_option maxRecDepth 20000 in
theorem gX4_learn_X4_possibleNow : GoodIn wsX4_learn (wsV RX4 116 RX4 yX4_possibleNow wsX4_possibleNow) := goodIn_app (goodIn_of _ (by decide +kernel)) ggX4_learn_X4_possibleNow
theorem dX4_learn_0 : decode cX4_learn 0 = .ok (.aload_n 0, 1) := by decide +kernel
theorem dX4_learn_1 : decode cX4_learn 1 = .ok (.iconst 0, 1) := by decide +kernel
theorem dX4_learn_2 : decode cX4_learn 2 = .ok (.putfield 22, 3) := by decide +kernel
theorem dX4_learn_5 : decode cX4_learn 5 = .ok (.iload_n 1, 1) := by decide +kernel
theorem dX4_learn_6 : decode cX4_learn 6 = .ok (.iconst 0, 1) := by decide +kernel
theorem dX4_learn_7 : decode cX4_learn 7 = .ok (.iconst 3, 1) := by decide +kernel
theorem dX4_learn_8 : decode cX4_learn 8 = .ok (.invokestatic 29, 3) := by decide +kernel
theorem dX4_learn_11 : decode cX4_learn 11 = .ok (.ifCond .eq 17, 3) := by decide +kernel
theorem dX4_learn_14 : decode cX4_learn 14 = .ok (.iload_n 1, 1) := by decide +kernel
theorem dX4_learn_15 : decode cX4_learn 15 = .ok (.ifCond .ne 19, 3) := by decide +kernel
theorem dX4_learn_18 : decode cX4_learn 18 = .ok (.iload_n 2, 1) := by decide +kernel
theorem dX4_learn_19 : decode cX4_learn 19 = .ok (.iconst 0, 1) := by decide +kernel
theorem dX4_learn_20 : decode cX4_learn 20 = .ok (.bipush 9, 2) := by decide +kernel
theorem dX4_learn_22 : decode cX4_learn 22 = .ok (.invokestatic 29, 3) := by decide +kernel
theorem dX4_learn_25 : decode cX4_learn 25 = .ok (.ifCond .ne 9, 3) := by decide +kernel
theorem dX4_learn_28 : decode cX4_learn 28 = .ok (.aload_n 0, 1) := by decide +kernel
theorem dX4_learn_29 : decode cX4_learn 29 = .ok (.iconst 1, 1) := by decide +kernel
theorem dX4_learn_30 : decode cX4_learn 30 = .ok (.invokevirtual 40, 3) := by decide +kernel
theorem dX4_learn_33 : decode cX4_learn 33 = .ok (.ireturn, 1) := by decide +kernel
theorem dX4_learn_34 : decode cX4_learn 34 = .ok (.aload_n 0, 1) := by decide +kernel
theorem dX4_learn_35 : decode cX4_learn 35 = .ok (.getfield 33, 3) := by decide +kernel
theorem dX4_learn_38 : decode cX4_learn 38 = .ok (.ifCond .eq 22, 3) := by decide +kernel
theorem dX4_learn_41 : decode cX4_learn 41 = .ok (.aload_n 0, 1) := by decide +kernel
theorem dX4_learn_42 : decode cX4_learn 42 = .ok (.iconst 0, 1) := by decide +kernel
theorem dX4_learn_43 : decode cX4_learn 43 = .ok (.invokevirtual 56, 3) := by decide +kernel
theorem dX4_learn_46 : decode cX4_learn 46 = .ok (.iload_n 1, 1) := by decide +kernel
theorem dX4_learn_47 : decode cX4_learn 47 = .ok (.iconst 3, 1) := by decide +kernel
theorem dX4_learn_48 : decode cX4_learn 48 = .ok (.if_icmp .ne 8, 3) := by decide +kernel
theorem dX4_learn_51 : decode cX4_learn 51 = .ok (.ldc 51, 2) := by decide +kernel
theorem dX4_learn_53 : decode cX4_learn 53 = .ok (.goto 4, 3) := by decide +kernel
theorem dX4_learn_56 : decode cX4_learn 56 = .ok (.iconst 0, 1) := by decide +kernel
theorem dX4_learn_57 : decode cX4_learn 57 = .ok (.if_icmp .ne 9, 3) := by decide +kernel
theorem dX4_learn_60 : decode cX4_learn 60 = .ok (.aload_n 0, 1) := by decide +kernel
theorem dX4_learn_61 : decode cX4_learn 61 = .ok (.iconst 2, 1) := by decide +kernel
theorem dX4_learn_62 : decode cX4_learn 62 = .ok (.invokevirtual 40, 3) := by decide +kernel
theorem dX4_learn_65 : decode cX4_learn 65 = .ok (.ireturn, 1) := by decide +kernel
theorem dX4_learn_66 : decode cX4_learn 66 = .ok (.aload_n 0, 1) := by decide +kernel
theorem dX4_learn_67 : decode cX4_learn 67 = .ok (.iconst 0, 1) := by decide +kernel
theorem dX4_learn_68 : decode cX4_learn 68 = .ok (.invokevirtual 56, 3) := by decide +kernel
theorem dX4_learn_71 : decode cX4_learn 71 = .ok (.istore_n 3, 1) := by decide +kernel
theorem dX4_learn_72 : decode cX4_learn 72 = .ok (.ldc 51, 2) := by decide +kernel
theorem dX4_learn_74 : decode cX4_learn 74 = .ok (.iload_n 3, 1) := by decide +kernel
theorem dX4_learn_75 : decode cX4_learn 75 = .ok (.iconst (-1), 1) := by decide +kernel
theorem dX4_learn_76 : decode cX4_learn 76 = .ok (.ixor, 1) := by decide +kernel
theorem dX4_learn_77 : decode cX4_learn 77 = .ok (.iand, 1) := by decide +kernel
theorem dX4_learn_78 : decode cX4_learn 78 = .ok (.istore 4, 2) := by decide +kernel
theorem dX4_learn_80 : decode cX4_learn 80 = .ok (.iload_n 1, 1) := by decide +kernel
theorem dX4_learn_81 : decode cX4_learn 81 = .ok (.iconst 2, 1) := by decide +kernel
theorem dX4_learn_82 : decode cX4_learn 82 = .ok (.if_icmp .ne 8, 3) := by decide +kernel
theorem dX4_learn_85 : decode cX4_learn 85 = .ok (.aload_n 0, 1) := by decide +kernel
theorem dX4_learn_86 : decode cX4_learn 86 = .ok (.iload_n 3, 1) := by decide +kernel
theorem dX4_learn_87 : decode cX4_learn 87 = .ok (.invokevirtual 126, 3) := by decide +kernel
theorem dX4_learn_90 : decode cX4_learn 90 = .ok (.iload_n 1, 1) := by decide +kernel
theorem dX4_learn_91 : decode cX4_learn 91 = .ok (.ifCond .ne 41, 3) := by decide +kernel
theorem dX4_learn_94 : decode cX4_learn 94 = .ok (.iload 4, 2) := by decide +kernel
theorem dX4_learn_96 : decode cX4_learn 96 = .ok (.ifCond .ne 7, 3) := by decide +kernel
theorem dX4_learn_99 : decode cX4_learn 99 = .ok (.iconst 0, 1) := by decide +kernel
theorem dX4_learn_100 : decode cX4_learn 100 = .ok (.goto 9, 3) := by decide +kernel
theorem dX4_learn_103 : decode cX4_learn 103 = .ok (.aload_n 0, 1) := by decide +kernel
theorem dX4_learn_104 : decode cX4_learn 104 = .ok (.iload 4, 2) := by decide +kernel
theorem dX4_learn_106 : decode cX4_learn 106 = .ok (.invokevirtual 109, 3) := by decide +kernel
theorem dX4_learn_109 : decode cX4_learn 109 = .ok (.istore 5, 2) := by decide +kernel
theorem dX4_learn_111 : decode cX4_learn 111 = .ok (.aload_n 0, 1) := by decide +kernel
theorem dX4_learn_112 : decode cX4_learn 112 = .ok (.iload_n 3, 1) := by decide +kernel
theorem dX4_learn_113 : decode cX4_learn 113 = .ok (.aload_n 0, 1) := by decide +kernel
theorem dX4_learn_114 : decode cX4_learn 114 = .ok (.iload_n 3, 1) := by decide +kernel
theorem dX4_learn_115 : decode cX4_learn 115 = .ok (.invokevirtual 109, 3) := by decide +kernel
theorem dX4_learn_118 : decode cX4_learn 118 = .ok (.ineg, 1) := by decide +kernel
theorem dX4_learn_119 : decode cX4_learn 119 = .ok (.invokevirtual 112, 3) := by decide +kernel
theorem dX4_learn_122 : decode cX4_learn 122 = .ok (.aload_n 0, 1) := by decide +kernel
theorem dX4_learn_123 : decode cX4_learn 123 = .ok (.iload 4, 2) := by decide +kernel
theorem dX4_learn_125 : decode cX4_learn 125 = .ok (.iload_n 2, 1) := by decide +kernel
theorem dX4_learn_126 : decode cX4_learn 126 = .ok (.iload 5, 2) := by decide +kernel
theorem dX4_learn_128 : decode cX4_learn 128 = .ok (.isub, 1) := by decide +kernel
theorem dX4_learn_129 : decode cX4_learn 129 = .ok (.invokevirtual 112, 3) := by decide +kernel
theorem dX4_learn_132 : decode cX4_learn 132 = .ok (.iload_n 1, 1) := by decide +kernel
theorem dX4_learn_133 : decode cX4_learn 133 = .ok (.iconst 1, 1) := by decide +kernel
theorem dX4_learn_134 : decode cX4_learn 134 = .ok (.if_icmp .ne 40, 3) := by decide +kernel
theorem dX4_learn_137 : decode cX4_learn 137 = .ok (.aload_n 0, 1) := by decide +kernel
theorem dX4_learn_138 : decode cX4_learn 138 = .ok (.iload_n 3, 1) := by decide +kernel
theorem dX4_learn_139 : decode cX4_learn 139 = .ok (.aload_n 0, 1) := by decide +kernel
theorem dX4_learn_140 : decode cX4_learn 140 = .ok (.iload_n 3, 1) := by decide +kernel
theorem dX4_learn_141 : decode cX4_learn 141 = .ok (.invokevirtual 109, 3) := by decide +kernel
theorem dX4_learn_144 : decode cX4_learn 144 = .ok (.invokevirtual 103, 3) := by decide +kernel
theorem dX4_learn_147 : decode cX4_learn 147 = .ok (.istore 5, 2) := by decide +kernel
theorem dX4_learn_149 : decode cX4_learn 149 = .ok (.aload_n 0, 1) := by decide +kernel
theorem dX4_learn_150 : decode cX4_learn 150 = .ok (.ldc 51, 2) := by decide +kernel
theorem dX4_learn_152 : decode cX4_learn 152 = .ok (.iload 5, 2) := by decide +kernel
theorem dX4_learn_154 : decode cX4_learn 154 = .ok (.iconst (-1), 1) := by decide +kernel
theorem dX4_learn_155 : decode cX4_learn 155 = .ok (.ixor, 1) := by decide +kernel
theorem dX4_learn_156 : decode cX4_learn 156 = .ok (.iand, 1) := by decide +kernel
theorem dX4_learn_157 : decode cX4_learn 157 = .ok (.iconst 1, 1) := by decide +kernel
theorem dX4_learn_158 : decode cX4_learn 158 = .ok (.invokevirtual 112, 3) := by decide +kernel
theorem dX4_learn_161 : decode cX4_learn 161 = .ok (.aload_n 0, 1) := by decide +kernel
theorem dX4_learn_162 : decode cX4_learn 162 = .ok (.iload 5, 2) := by decide +kernel
theorem dX4_learn_164 : decode cX4_learn 164 = .ok (.aload_n 0, 1) := by decide +kernel
theorem dX4_learn_165 : decode cX4_learn 165 = .ok (.iload 5, 2) := by decide +kernel
theorem dX4_learn_167 : decode cX4_learn 167 = .ok (.invokevirtual 109, 3) := by decide +kernel
theorem dX4_learn_170 : decode cX4_learn 170 = .ok (.ineg, 1) := by decide +kernel
theorem dX4_learn_171 : decode cX4_learn 171 = .ok (.invokevirtual 112, 3) := by decide +kernel
theorem dX4_learn_174 : decode cX4_learn 174 = .ok (.iload_n 1, 1) := by decide +kernel
theorem dX4_learn_175 : decode cX4_learn 175 = .ok (.iconst 3, 1) := by decide +kernel
theorem dX4_learn_176 : decode cX4_learn 176 = .ok (.if_icmp .ne 30, 3) := by decide +kernel
theorem dX4_learn_179 : decode cX4_learn 179 = .ok (.aload_n 0, 1) := by decide +kernel
theorem dX4_learn_180 : decode cX4_learn 180 = .ok (.iload 4, 2) := by decide +kernel
theorem dX4_learn_182 : decode cX4_learn 182 = .ok (.aload_n 0, 1) := by decide +kernel
theorem dX4_learn_183 : decode cX4_learn 183 = .ok (.iload 4, 2) := by decide +kernel
theorem dX4_learn_185 : decode cX4_learn 185 = .ok (.invokevirtual 109, 3) := by decide +kernel
theorem dX4_learn_188 : decode cX4_learn 188 = .ok (.invokevirtual 103, 3) := by decide +kernel
theorem dX4_learn_191 : decode cX4_learn 191 = .ok (.istore 5, 2) := by decide +kernel
theorem dX4_learn_193 : decode cX4_learn 193 = .ok (.aload_n 0, 1) := by decide +kernel
theorem dX4_learn_194 : decode cX4_learn 194 = .ok (.iload 5, 2) := by decide +kernel
theorem dX4_learn_196 : decode cX4_learn 196 = .ok (.aload_n 0, 1) := by decide +kernel
theorem dX4_learn_197 : decode cX4_learn 197 = .ok (.iload 5, 2) := by decide +kernel
theorem dX4_learn_199 : decode cX4_learn 199 = .ok (.invokevirtual 109, 3) := by decide +kernel
theorem dX4_learn_202 : decode cX4_learn 202 = .ok (.ineg, 1) := by decide +kernel
theorem dX4_learn_203 : decode cX4_learn 203 = .ok (.invokevirtual 112, 3) := by decide +kernel
theorem dX4_learn_206 : decode cX4_learn 206 = .ok (.aload_n 0, 1) := by decide +kernel
theorem dX4_learn_207 : decode cX4_learn 207 = .ok (.invokevirtual 116, 3) := by decide +kernel
theorem dX4_learn_210 : decode cX4_learn 210 = .ok (.ireturn, 1) := by decide +kernel
set_option maxRecDepth 20000 in
theorem ggX4_firmness_X4_no : GoodIn wsX4_firmness wsX4_no := goodIn_r _ [8, 1, 27, 28, 29, 30, 31, 32, 33] (by decide +kernel) (by decide +kernel)
set_option maxRecDepth 20000 in
theorem gX4_firmness_X4_no : GoodIn wsX4_firmness (wsV RX4 40 RX4 yX4_no wsX4_no) := goodIn_app (goodIn_of _ (by decide +kernel)) ggX4_firmness_X4_no
set_option maxRecDepth 20000 in
theorem ggX4_firmness_X4_top : GoodIn wsX4_firmness wsX4_top := goodIn_r _ [12, 13, 2, 27, 28, 29, 30, 31, 32, 33] (by decide +kernel) (by decide +kernel)
set_option maxRecDepth 20000 in
theorem gX4_firmness_X4_top : GoodIn wsX4_firmness (wsV RX4 56 RX4 yX4_top wsX4_top) := goodIn_app (goodIn_of _ (by decide +kernel)) ggX4_firmness_X4_top
set_option maxRecDepth 20000 in
theorem ggX4_firmness_X4_least : GoodIn wsX4_firmness wsX4_least := goodIn_r _ [17, 18, 19, 20, 21, 22, 23, 24, 25, 7, 26, 27, 28, 29, 30, 31, 32, 33] (by decide +kernel) (by decide +kernel)
set_option maxRecDepth 20000 in
theorem gX4_firmness_X4_least : GoodIn wsX4_firmness (wsV RX4 109 RX4 yX4_least wsX4_least) := goodIn_app (goodIn_of _ (by decide +kernel)) ggX4_firmness_X4_least
theorem dX4_firmness_0 : decode cX4_firmness 0 = .ok (.aload_n 0, 1) := by decide +kernel
theorem dX4_firmness_1 : decode cX4_firmness 1 = .ok (.iconst 0, 1) := by decide +kernel
theorem dX4_firmness_2 : decode cX4_firmness 2 = .ok (.putfield 22, 3) := by decide +kernel
theorem dX4_firmness_5 : decode cX4_firmness 5 = .ok (.aload_n 0, 1) := by decide +kernel
theorem dX4_firmness_6 : decode cX4_firmness 6 = .ok (.getfield 33, 3) := by decide +kernel
theorem dX4_firmness_9 : decode cX4_firmness 9 = .ok (.ifCond .ne 9, 3) := by decide +kernel
theorem dX4_firmness_12 : decode cX4_firmness 12 = .ok (.aload_n 0, 1) := by decide +kernel
theorem dX4_firmness_13 : decode cX4_firmness 13 = .ok (.iconst 1, 1) := by decide +kernel
theorem dX4_firmness_14 : decode cX4_firmness 14 = .ok (.invokevirtual 40, 3) := by decide +kernel
theorem dX4_firmness_17 : decode cX4_firmness 17 = .ok (.ireturn, 1) := by decide +kernel
theorem dX4_firmness_18 : decode cX4_firmness 18 = .ok (.aload_n 0, 1) := by decide +kernel
theorem dX4_firmness_19 : decode cX4_firmness 19 = .ok (.iconst 0, 1) := by decide +kernel
theorem dX4_firmness_20 : decode cX4_firmness 20 = .ok (.invokevirtual 56, 3) := by decide +kernel
theorem dX4_firmness_23 : decode cX4_firmness 23 = .ok (.ldc 51, 2) := by decide +kernel
theorem dX4_firmness_25 : decode cX4_firmness 25 = .ok (.if_icmp .ne 7, 3) := by decide +kernel
theorem dX4_firmness_28 : decode cX4_firmness 28 = .ok (.iconst (-1), 1) := by decide +kernel
theorem dX4_firmness_29 : decode cX4_firmness 29 = .ok (.goto 17, 3) := by decide +kernel
theorem dX4_firmness_32 : decode cX4_firmness 32 = .ok (.aload_n 0, 1) := by decide +kernel
theorem dX4_firmness_33 : decode cX4_firmness 33 = .ok (.ldc 51, 2) := by decide +kernel
theorem dX4_firmness_35 : decode cX4_firmness 35 = .ok (.aload_n 0, 1) := by decide +kernel
theorem dX4_firmness_36 : decode cX4_firmness 36 = .ok (.iconst 0, 1) := by decide +kernel
theorem dX4_firmness_37 : decode cX4_firmness 37 = .ok (.invokevirtual 56, 3) := by decide +kernel
theorem dX4_firmness_40 : decode cX4_firmness 40 = .ok (.iconst (-1), 1) := by decide +kernel
theorem dX4_firmness_41 : decode cX4_firmness 41 = .ok (.ixor, 1) := by decide +kernel
theorem dX4_firmness_42 : decode cX4_firmness 42 = .ok (.iand, 1) := by decide +kernel
theorem dX4_firmness_43 : decode cX4_firmness 43 = .ok (.invokevirtual 109, 3) := by decide +kernel
theorem dX4_firmness_46 : decode cX4_firmness 46 = .ok (.ireturn, 1) := by decide +kernel
set_option maxRecDepth 20000 in
theorem ggX4_would_X4_top : GoodIn wsX4_would wsX4_top := goodIn_r _ [7, 8, 1, 26, 27, 28, 29, 30, 31, 32] (by decide +kernel) (by decide +kernel)
set_option maxRecDepth 20000 in
theorem gX4_would_X4_top : GoodIn wsX4_would (wsV RX4 56 RX4 yX4_top wsX4_top) := goodIn_app (goodIn_of _ (by decide +kernel)) ggX4_would_X4_top
set_option maxRecDepth 20000 in
theorem ggX4_would_X4_least : GoodIn wsX4_would wsX4_least := goodIn_r _ [12, 13, 14, 15, 16, 17, 18, 19, 20, 6, 21, 26, 27, 28, 29, 30, 31, 32] (by decide +kernel) (by decide +kernel)
set_option maxRecDepth 20000 in
theorem gX4_would_X4_least : GoodIn wsX4_would (wsV RX4 109 RX4 yX4_least wsX4_least) := goodIn_app (goodIn_of _ (by decide +kernel)) ggX4_would_X4_least
set_option maxRecDepth 20000 in
theorem ggX4_would_X4_withLevel : GoodIn wsX4_would wsX4_withLevel := goodIn_r _ [25, 14, 19, 20, 6, 21, 26, 27, 28, 29, 30, 31, 32] (by decide +kernel) (by decide +kernel)
set_option maxRecDepth 20000 in
theorem gX4_would_X4_withLevel : GoodIn wsX4_would (wsV RX4 103 RX4 yX4_withLevel wsX4_withLevel) := goodIn_app (goodIn_of _ (by decide +kernel)) ggX4_would_X4_withLevel
theorem dX4_would_0 : decode cX4_would 0 = .ok (.aload_n 0, 1) := by decide +kernel
theorem dX4_would_1 : decode cX4_would 1 = .ok (.aload_n 0, 1) := by decide +kernel
theorem dX4_would_2 : decode cX4_would 2 = .ok (.getfield 33, 3) := by decide +kernel
theorem dX4_would_5 : decode cX4_would 5 = .ok (.iconst 2, 1) := by decide +kernel
theorem dX4_would_6 : decode cX4_would 6 = .ok (.if_icmp .ge 7, 3) := by decide +kernel
theorem dX4_would_9 : decode cX4_would 9 = .ok (.iconst 1, 1) := by decide +kernel
theorem dX4_would_10 : decode cX4_would 10 = .ok (.goto 4, 3) := by decide +kernel
theorem dX4_would_13 : decode cX4_would 13 = .ok (.iconst 0, 1) := by decide +kernel
theorem dX4_would_14 : decode cX4_would 14 = .ok (.putfield 22, 3) := by decide +kernel
theorem dX4_would_17 : decode cX4_would 17 = .ok (.aload_n 0, 1) := by decide +kernel
theorem dX4_would_18 : decode cX4_would 18 = .ok (.getfield 22, 3) := by decide +kernel
theorem dX4_would_21 : decode cX4_would 21 = .ok (.ifCond .eq 5, 3) := by decide +kernel
theorem dX4_would_24 : decode cX4_would 24 = .ok (.iconst 0, 1) := by decide +kernel
theorem dX4_would_25 : decode cX4_would 25 = .ok (.ireturn, 1) := by decide +kernel
theorem dX4_would_26 : decode cX4_would 26 = .ok (.aload_n 0, 1) := by decide +kernel
theorem dX4_would_27 : decode cX4_would 27 = .ok (.iconst 1, 1) := by decide +kernel
theorem dX4_would_28 : decode cX4_would 28 = .ok (.invokevirtual 56, 3) := by decide +kernel
theorem dX4_would_31 : decode cX4_would 31 = .ok (.istore_n 1, 1) := by decide +kernel
theorem dX4_would_32 : decode cX4_would 32 = .ok (.iload_n 1, 1) := by decide +kernel
theorem dX4_would_33 : decode cX4_would 33 = .ok (.ifCond .eq 24, 3) := by decide +kernel
theorem dX4_would_36 : decode cX4_would 36 = .ok (.aload_n 0, 1) := by decide +kernel
theorem dX4_would_37 : decode cX4_would 37 = .ok (.iload_n 1, 1) := by decide +kernel
theorem dX4_would_38 : decode cX4_would 38 = .ok (.aload_n 0, 1) := by decide +kernel
theorem dX4_would_39 : decode cX4_would 39 = .ok (.iload_n 1, 1) := by decide +kernel
theorem dX4_would_40 : decode cX4_would 40 = .ok (.invokevirtual 109, 3) := by decide +kernel
theorem dX4_would_43 : decode cX4_would 43 = .ok (.invokevirtual 103, 3) := by decide +kernel
theorem dX4_would_46 : decode cX4_would 46 = .ok (.aload_n 0, 1) := by decide +kernel
theorem dX4_would_47 : decode cX4_would 47 = .ok (.iconst 0, 1) := by decide +kernel
theorem dX4_would_48 : decode cX4_would 48 = .ok (.invokevirtual 56, 3) := by decide +kernel
theorem dX4_would_51 : decode cX4_would 51 = .ok (.iconst (-1), 1) := by decide +kernel
theorem dX4_would_52 : decode cX4_would 52 = .ok (.ixor, 1) := by decide +kernel
theorem dX4_would_53 : decode cX4_would 53 = .ok (.iand, 1) := by decide +kernel
theorem dX4_would_54 : decode cX4_would 54 = .ok (.ifCond .ne 7, 3) := by decide +kernel
theorem dX4_would_57 : decode cX4_would 57 = .ok (.iconst 1, 1) := by decide +kernel
theorem dX4_would_58 : decode cX4_would 58 = .ok (.goto 4, 3) := by decide +kernel
theorem dX4_would_61 : decode cX4_would 61 = .ok (.iconst 0, 1) := by decide +kernel
theorem dX4_would_62 : decode cX4_would 62 = .ok (.ireturn, 1) := by decide +kernel
set_option maxRecDepth 20000 in
theorem ggX4_layers_X4_least : GoodIn wsX4_layers wsX4_least := goodIn_r _ [7, 8, 9, 10, 11, 12, 13, 14, 15, 6, 16, 21, 22, 23, 24, 25, 26, 27] (by decide +kernel) (by decide +kernel)
set_option maxRecDepth 20000 in
theorem gX4_layers_X4_least : GoodIn wsX4_layers (wsV RX4 109 RX4 yX4_least wsX4_least) := goodIn_app (goodIn_of _ (by decide +kernel)) ggX4_layers_X4_least
set_option maxRecDepth 20000 in
theorem ggX4_layers_X4_withLevel : GoodIn wsX4_layers wsX4_withLevel := goodIn_r _ [20, 9, 14, 15, 6, 16, 21, 22, 23, 24, 25, 26, 27] (by decide +kernel) (by decide +kernel)
set_option maxRecDepth 20000 in
theorem gX4_layers_X4_withLevel : GoodIn wsX4_layers (wsV RX4 103 RX4 yX4_withLevel wsX4_withLevel) := goodIn_app (goodIn_of _ (by decide +kernel)) ggX4_layers_X4_withLevel
theorem dX4_layers_0 : decode cX4_layers 0 = .ok (.aload_n 0, 1) := by decide +kernel
theorem dX4_layers_1 : decode cX4_layers 1 = .ok (.iconst 0, 1) := by decide +kernel
theorem dX4_layers_2 : decode cX4_layers 2 = .ok (.putfield 22, 3) := by decide +kernel
theorem dX4_layers_5 : decode cX4_layers 5 = .ok (.iconst 0, 1) := by decide +kernel
theorem dX4_layers_6 : decode cX4_layers 6 = .ok (.istore_n 1, 1) := by decide +kernel
theorem dX4_layers_7 : decode cX4_layers 7 = .ok (.ldc 51, 2) := by decide +kernel
theorem dX4_layers_9 : decode cX4_layers 9 = .ok (.istore_n 2, 1) := by decide +kernel
theorem dX4_layers_10 : decode cX4_layers 10 = .ok (.iload_n 2, 1) := by decide +kernel
theorem dX4_layers_11 : decode cX4_layers 11 = .ok (.ifCond .eq 24, 3) := by decide +kernel
theorem dX4_layers_14 : decode cX4_layers 14 = .ok (.iinc 1 1, 3) := by decide +kernel
theorem dX4_layers_17 : decode cX4_layers 17 = .ok (.iload_n 2, 1) := by decide +kernel
theorem dX4_layers_18 : decode cX4_layers 18 = .ok (.aload_n 0, 1) := by decide +kernel
theorem dX4_layers_19 : decode cX4_layers 19 = .ok (.iload_n 2, 1) := by decide +kernel
theorem dX4_layers_20 : decode cX4_layers 20 = .ok (.aload_n 0, 1) := by decide +kernel
theorem dX4_layers_21 : decode cX4_layers 21 = .ok (.iload_n 2, 1) := by decide +kernel
theorem dX4_layers_22 : decode cX4_layers 22 = .ok (.invokevirtual 109, 3) := by decide +kernel
theorem dX4_layers_25 : decode cX4_layers 25 = .ok (.invokevirtual 103, 3) := by decide +kernel
theorem dX4_layers_28 : decode cX4_layers 28 = .ok (.iconst (-1), 1) := by decide +kernel
theorem dX4_layers_29 : decode cX4_layers 29 = .ok (.ixor, 1) := by decide +kernel
theorem dX4_layers_30 : decode cX4_layers 30 = .ok (.iand, 1) := by decide +kernel
theorem dX4_layers_31 : decode cX4_layers 31 = .ok (.istore_n 2, 1) := by decide +kernel
theorem dX4_layers_32 : decode cX4_layers 32 = .ok (.goto (-22), 3) := by decide +kernel
theorem dX4_layers_35 : decode cX4_layers 35 = .ok (.iload_n 1, 1) := by decide +kernel
theorem dX4_layers_36 : decode cX4_layers 36 = .ok (.ireturn, 1) := by decide +kernel
set_option maxRecDepth 20000 in
theorem ggX4_share_X4_isIn : GoodIn wsX4_share wsX4_isIn := goodIn_r _ [5] (by decide +kernel) (by decide +kernel)
set_option maxRecDepth 20000 in
theorem gX4_share_X4_isIn : GoodIn wsX4_share (va_wsS RX4 29 yX4_isIn wsX4_isIn) := goodIn_app (goodIn_of _ (by decide +kernel)) ggX4_share_X4_isIn
set_option maxRecDepth 20000 in
theorem ggX4_share_X4_possibleNow : GoodIn wsX4_share wsX4_possibleNow := goodIn_r _ [9, 10, 11, 12, 13, 4, 14, 15, 16, 17, 18, 29, 30, 31, 32, 33, 34, 35] (by decide +kernel) (by decide +kernel)
set_option maxRecDepth 20000 in
theorem gX4_share_X4_possibleNow : GoodIn wsX4_share (wsV RX4 116 RX4 yX4_possibleNow wsX4_possibleNow) := goodIn_app (goodIn_of _ (by decide +kernel)) ggX4_share_X4_possibleNow
set_option maxRecDepth 20000 in
theorem ggX4_share_X4_worldsOf : GoodIn wsX4_share wsX4_worldsOf := goodIn_r _ [21, 16, 17, 4, 18] (by decide +kernel) (by decide +kernel)
set_option maxRecDepth 20000 in
theorem gX4_share_X4_worldsOf : GoodIn wsX4_share (va_wsS RX4 44 yX4_worldsOf wsX4_worldsOf) := goodIn_app (goodIn_of _ (by decide +kernel)) ggX4_share_X4_worldsOf
set_option maxRecDepth 20000 in
theorem ggX4_share_J6_bitCount_0f7a4 : GoodIn wsX4_share wsJ6_bitCount_0f7a4 := goodIn_r _ [25, 26, 27, 28] (by decide +kernel) (by decide +kernel)
set_option maxRecDepth 20000 in
theorem gX4_share_J6_bitCount_0f7a4 : GoodIn wsX4_share (va_wsS RX4 130 yJ6_bitCount_0f7a4 wsJ6_bitCount_0f7a4) := goodIn_app (goodIn_of _ (by decide +kernel)) ggX4_share_J6_bitCount_0f7a4
theorem dX4_share_0 : decode cX4_share 0 = .ok (.aload_n 0, 1) := by decide +kernel
theorem dX4_share_1 : decode cX4_share 1 = .ok (.iload_n 1, 1) := by decide +kernel
theorem dX4_share_2 : decode cX4_share 2 = .ok (.iconst 0, 1) := by decide +kernel
theorem dX4_share_3 : decode cX4_share 3 = .ok (.iconst 3, 1) := by decide +kernel
theorem dX4_share_4 : decode cX4_share 4 = .ok (.invokestatic 29, 3) := by decide +kernel
theorem dX4_share_7 : decode cX4_share 7 = .ok (.ifCond .eq 7, 3) := by decide +kernel
theorem dX4_share_10 : decode cX4_share 10 = .ok (.iconst 0, 1) := by decide +kernel
theorem dX4_share_11 : decode cX4_share 11 = .ok (.goto 4, 3) := by decide +kernel
theorem dX4_share_14 : decode cX4_share 14 = .ok (.iconst 1, 1) := by decide +kernel
theorem dX4_share_15 : decode cX4_share 15 = .ok (.putfield 22, 3) := by decide +kernel
theorem dX4_share_18 : decode cX4_share 18 = .ok (.aload_n 0, 1) := by decide +kernel
theorem dX4_share_19 : decode cX4_share 19 = .ok (.getfield 22, 3) := by decide +kernel
theorem dX4_share_22 : decode cX4_share 22 = .ok (.ifCond .ne 28, 3) := by decide +kernel
theorem dX4_share_25 : decode cX4_share 25 = .ok (.aload_n 0, 1) := by decide +kernel
theorem dX4_share_26 : decode cX4_share 26 = .ok (.invokevirtual 116, 3) := by decide +kernel
theorem dX4_share_29 : decode cX4_share 29 = .ok (.iload_n 1, 1) := by decide +kernel
theorem dX4_share_30 : decode cX4_share 30 = .ok (.invokestatic 44, 3) := by decide +kernel
theorem dX4_share_33 : decode cX4_share 33 = .ok (.iand, 1) := by decide +kernel
theorem dX4_share_34 : decode cX4_share 34 = .ok (.invokestatic 130, 3) := by decide +kernel
theorem dX4_share_37 : decode cX4_share 37 = .ok (.i2d, 1) := by decide +kernel
theorem dX4_share_38 : decode cX4_share 38 = .ok (.aload_n 0, 1) := by decide +kernel
theorem dX4_share_39 : decode cX4_share 39 = .ok (.invokevirtual 116, 3) := by decide +kernel
theorem dX4_share_42 : decode cX4_share 42 = .ok (.invokestatic 130, 3) := by decide +kernel
theorem dX4_share_45 : decode cX4_share 45 = .ok (.i2d, 1) := by decide +kernel
theorem dX4_share_46 : decode cX4_share 46 = .ok (.ddiv, 1) := by decide +kernel
theorem dX4_share_47 : decode cX4_share 47 = .ok (.goto 4, 3) := by decide +kernel
theorem dX4_share_50 : decode cX4_share 50 = .ok (.dconst 0, 1) := by decide +kernel
theorem dX4_share_51 : decode cX4_share 51 = .ok (.dreturn, 1) := by decide +kernel
set_option maxRecDepth 20000 in
theorem ggX4_digest_X4_degreeOf : GoodIn wsX4_digest wsX4_degreeOf := goodIn_r _ [14, 15, 16, 17, 18, 13, 19, 6, 8, 20, 21, 22, 23, 24, 25, 26, 27, 7, 28, 29, 30, 31, 32, 33, 34, 35, 36, 37] (by decide +kernel) (by decide +kernel)
set_option maxRecDepth 20000 in
theorem gX4_digest_X4_degreeOf : GoodIn wsX4_digest (wsV RX4 97 RX4 yX4_degreeOf wsX4_degreeOf) := goodIn_app (goodIn_of _ (by decide +kernel)) ggX4_digest_X4_degreeOf
theorem dX4_digest_0 : decode cX4_digest 0 = .ok (.aload_n 0, 1) := by decide +kernel
theorem dX4_digest_1 : decode cX4_digest 1 = .ok (.iconst 0, 1) := by decide +kernel
theorem dX4_digest_2 : decode cX4_digest 2 = .ok (.putfield 22, 3) := by decide +kernel
theorem dX4_digest_5 : decode cX4_digest 5 = .ok (.ldc2_w 133, 3) := by decide +kernel
theorem dX4_digest_8 : decode cX4_digest 8 = .ok (.aload_n 0, 1) := by decide +kernel
theorem dX4_digest_9 : decode cX4_digest 9 = .ok (.getfield 33, 3) := by decide +kernel
theorem dX4_digest_12 : decode cX4_digest 12 = .ok (.i2l, 1) := by decide +kernel
theorem dX4_digest_13 : decode cX4_digest 13 = .ok (.ladd, 1) := by decide +kernel
theorem dX4_digest_14 : decode cX4_digest 14 = .ok (.lstore_n 1, 1) := by decide +kernel
theorem dX4_digest_15 : decode cX4_digest 15 = .ok (.iconst 0, 1) := by decide +kernel
theorem dX4_digest_16 : decode cX4_digest 16 = .ok (.istore_n 3, 1) := by decide +kernel
theorem dX4_digest_17 : decode cX4_digest 17 = .ok (.iload_n 3, 1) := by decide +kernel
theorem dX4_digest_18 : decode cX4_digest 18 = .ok (.aload_n 0, 1) := by decide +kernel
theorem dX4_digest_19 : decode cX4_digest 19 = .ok (.getfield 33, 3) := by decide +kernel
theorem dX4_digest_22 : decode cX4_digest 22 = .ok (.if_icmp .ge 23, 3) := by decide +kernel
theorem dX4_digest_25 : decode cX4_digest 25 = .ok (.lload_n 1, 1) := by decide +kernel
theorem dX4_digest_26 : decode cX4_digest 26 = .ok (.ldc2_w 135, 3) := by decide +kernel
theorem dX4_digest_29 : decode cX4_digest 29 = .ok (.lmul, 1) := by decide +kernel
theorem dX4_digest_30 : decode cX4_digest 30 = .ok (.aload_n 0, 1) := by decide +kernel
theorem dX4_digest_31 : decode cX4_digest 31 = .ok (.getfield 9, 3) := by decide +kernel
theorem dX4_digest_34 : decode cX4_digest 34 = .ok (.iload_n 3, 1) := by decide +kernel
theorem dX4_digest_35 : decode cX4_digest 35 = .ok (.iaload, 1) := by decide +kernel
theorem dX4_digest_36 : decode cX4_digest 36 = .ok (.i2l, 1) := by decide +kernel
theorem dX4_digest_37 : decode cX4_digest 37 = .ok (.ladd, 1) := by decide +kernel
theorem dX4_digest_38 : decode cX4_digest 38 = .ok (.lstore_n 1, 1) := by decide +kernel
theorem dX4_digest_39 : decode cX4_digest 39 = .ok (.iinc 3 1, 3) := by decide +kernel
theorem dX4_digest_42 : decode cX4_digest 42 = .ok (.goto (-25), 3) := by decide +kernel
theorem dX4_digest_45 : decode cX4_digest 45 = .ok (.lload_n 1, 1) := by decide +kernel
theorem dX4_digest_46 : decode cX4_digest 46 = .ok (.ldc2_w 135, 3) := by decide +kernel
theorem dX4_digest_49 : decode cX4_digest 49 = .ok (.lmul, 1) := by decide +kernel
theorem dX4_digest_50 : decode cX4_digest 50 = .ok (.aload_n 0, 1) := by decide +kernel
theorem dX4_digest_51 : decode cX4_digest 51 = .ok (.getfield 26, 3) := by decide +kernel
theorem dX4_digest_54 : decode cX4_digest 54 = .ok (.i2l, 1) := by decide +kernel
theorem dX4_digest_55 : decode cX4_digest 55 = .ok (.ladd, 1) := by decide +kernel
theorem dX4_digest_56 : decode cX4_digest 56 = .ok (.lstore_n 1, 1) := by decide +kernel
theorem dX4_digest_57 : decode cX4_digest 57 = .ok (.iconst 0, 1) := by decide +kernel
theorem dX4_digest_58 : decode cX4_digest 58 = .ok (.istore_n 3, 1) := by decide +kernel
theorem dX4_digest_59 : decode cX4_digest 59 = .ok (.iload_n 3, 1) := by decide +kernel
theorem dX4_digest_60 : decode cX4_digest 60 = .ok (.aload_n 0, 1) := by decide +kernel
theorem dX4_digest_61 : decode cX4_digest 61 = .ok (.getfield 26, 3) := by decide +kernel
theorem dX4_digest_64 : decode cX4_digest 64 = .ok (.if_icmp .ge 35, 3) := by decide +kernel
theorem dX4_digest_67 : decode cX4_digest 67 = .ok (.lload_n 1, 1) := by decide +kernel
theorem dX4_digest_68 : decode cX4_digest 68 = .ok (.ldc2_w 135, 3) := by decide +kernel
theorem dX4_digest_71 : decode cX4_digest 71 = .ok (.lmul, 1) := by decide +kernel
theorem dX4_digest_72 : decode cX4_digest 72 = .ok (.aload_n 0, 1) := by decide +kernel
theorem dX4_digest_73 : decode cX4_digest 73 = .ok (.getfield 13, 3) := by decide +kernel
theorem dX4_digest_76 : decode cX4_digest 76 = .ok (.iload_n 3, 1) := by decide +kernel
theorem dX4_digest_77 : decode cX4_digest 77 = .ok (.iaload, 1) := by decide +kernel
theorem dX4_digest_78 : decode cX4_digest 78 = .ok (.i2l, 1) := by decide +kernel
theorem dX4_digest_79 : decode cX4_digest 79 = .ok (.ladd, 1) := by decide +kernel
theorem dX4_digest_80 : decode cX4_digest 80 = .ok (.ldc2_w 135, 3) := by decide +kernel
theorem dX4_digest_83 : decode cX4_digest 83 = .ok (.lmul, 1) := by decide +kernel
theorem dX4_digest_84 : decode cX4_digest 84 = .ok (.aload_n 0, 1) := by decide +kernel
theorem dX4_digest_85 : decode cX4_digest 85 = .ok (.getfield 16, 3) := by decide +kernel
theorem dX4_digest_88 : decode cX4_digest 88 = .ok (.iload_n 3, 1) := by decide +kernel
theorem dX4_digest_89 : decode cX4_digest 89 = .ok (.iaload, 1) := by decide +kernel
theorem dX4_digest_90 : decode cX4_digest 90 = .ok (.i2l, 1) := by decide +kernel
theorem dX4_digest_91 : decode cX4_digest 91 = .ok (.ladd, 1) := by decide +kernel
theorem dX4_digest_92 : decode cX4_digest 92 = .ok (.lstore_n 1, 1) := by decide +kernel
theorem dX4_digest_93 : decode cX4_digest 93 = .ok (.iinc 3 1, 3) := by decide +kernel
theorem dX4_digest_96 : decode cX4_digest 96 = .ok (.goto (-37), 3) := by decide +kernel
theorem dX4_digest_99 : decode cX4_digest 99 = .ok (.lload_n 1, 1) := by decide +kernel
theorem dX4_digest_100 : decode cX4_digest 100 = .ok (.ldc2_w 135, 3) := by decide +kernel
theorem dX4_digest_103 : decode cX4_digest 103 = .ok (.lmul, 1) := by decide +kernel
theorem dX4_digest_104 : decode cX4_digest 104 = .ok (.aload_n 0, 1) := by decide +kernel
theorem dX4_digest_105 : decode cX4_digest 105 = .ok (.iconst 0, 1) := by decide +kernel
theorem dX4_digest_106 : decode cX4_digest 106 = .ok (.invokevirtual 97, 3) := by decide +kernel
theorem dX4_digest_109 : decode cX4_digest 109 = .ok (.i2l, 1) := by decide +kernel
theorem dX4_digest_110 : decode cX4_digest 110 = .ok (.ladd, 1) := by decide +kernel
theorem dX4_digest_111 : decode cX4_digest 111 = .ok (.lstore_n 1, 1) := by decide +kernel
theorem dX4_digest_112 : decode cX4_digest 112 = .ok (.aload_n 0, 1) := by decide +kernel
theorem dX4_digest_113 : decode cX4_digest 113 = .ok (.getfield 19, 3) := by decide +kernel
theorem dX4_digest_116 : decode cX4_digest 116 = .ok (.astore_n 3, 1) := by decide +kernel
theorem dX4_digest_117 : decode cX4_digest 117 = .ok (.aload_n 3, 1) := by decide +kernel
theorem dX4_digest_118 : decode cX4_digest 118 = .ok (.arraylength, 1) := by decide +kernel
theorem dX4_digest_119 : decode cX4_digest 119 = .ok (.istore 4, 2) := by decide +kernel
theorem dX4_digest_121 : decode cX4_digest 121 = .ok (.iconst 0, 1) := by decide +kernel
theorem dX4_digest_122 : decode cX4_digest 122 = .ok (.istore 5, 2) := by decide +kernel
theorem dX4_digest_124 : decode cX4_digest 124 = .ok (.iload 5, 2) := by decide +kernel
theorem dX4_digest_126 : decode cX4_digest 126 = .ok (.iload 4, 2) := by decide +kernel
theorem dX4_digest_128 : decode cX4_digest 128 = .ok (.if_icmp .ge 25, 3) := by decide +kernel
theorem dX4_digest_131 : decode cX4_digest 131 = .ok (.aload_n 3, 1) := by decide +kernel
theorem dX4_digest_132 : decode cX4_digest 132 = .ok (.iload 5, 2) := by decide +kernel
theorem dX4_digest_134 : decode cX4_digest 134 = .ok (.iaload, 1) := by decide +kernel
theorem dX4_digest_135 : decode cX4_digest 135 = .ok (.istore 6, 2) := by decide +kernel
theorem dX4_digest_137 : decode cX4_digest 137 = .ok (.lload_n 1, 1) := by decide +kernel
theorem dX4_digest_138 : decode cX4_digest 138 = .ok (.ldc2_w 135, 3) := by decide +kernel
theorem dX4_digest_141 : decode cX4_digest 141 = .ok (.lmul, 1) := by decide +kernel
theorem dX4_digest_142 : decode cX4_digest 142 = .ok (.iload 6, 2) := by decide +kernel
theorem dX4_digest_144 : decode cX4_digest 144 = .ok (.i2l, 1) := by decide +kernel
theorem dX4_digest_145 : decode cX4_digest 145 = .ok (.ladd, 1) := by decide +kernel
theorem dX4_digest_146 : decode cX4_digest 146 = .ok (.lstore_n 1, 1) := by decide +kernel
theorem dX4_digest_147 : decode cX4_digest 147 = .ok (.iinc 5 1, 3) := by decide +kernel
theorem dX4_digest_150 : decode cX4_digest 150 = .ok (.goto (-26), 3) := by decide +kernel
theorem dX4_digest_153 : decode cX4_digest 153 = .ok (.lload_n 1, 1) := by decide +kernel
theorem dX4_digest_154 : decode cX4_digest 154 = .ok (.lreturn, 1) := by decide +kernel
theorem dJ6_bitCount_0f7a4_0 : decode cJ6_bitCount_0f7a4 0 = .ok (.iload_n 0, 1) := by decide +kernel
theorem dJ6_bitCount_0f7a4_1 : decode cJ6_bitCount_0f7a4 1 = .ok (.iload_n 0, 1) := by decide +kernel
theorem dJ6_bitCount_0f7a4_2 : decode cJ6_bitCount_0f7a4 2 = .ok (.iconst 1, 1) := by decide +kernel
theorem dJ6_bitCount_0f7a4_3 : decode cJ6_bitCount_0f7a4 3 = .ok (.iushr, 1) := by decide +kernel
theorem dJ6_bitCount_0f7a4_4 : decode cJ6_bitCount_0f7a4 4 = .ok (.ldc_w 265, 3) := by decide +kernel
theorem dJ6_bitCount_0f7a4_7 : decode cJ6_bitCount_0f7a4 7 = .ok (.iand, 1) := by decide +kernel
theorem dJ6_bitCount_0f7a4_8 : decode cJ6_bitCount_0f7a4 8 = .ok (.isub, 1) := by decide +kernel
theorem dJ6_bitCount_0f7a4_9 : decode cJ6_bitCount_0f7a4 9 = .ok (.istore_n 0, 1) := by decide +kernel
theorem dJ6_bitCount_0f7a4_10 : decode cJ6_bitCount_0f7a4 10 = .ok (.iload_n 0, 1) := by decide +kernel
theorem dJ6_bitCount_0f7a4_11 : decode cJ6_bitCount_0f7a4 11 = .ok (.ldc_w 266, 3) := by decide +kernel
theorem dJ6_bitCount_0f7a4_14 : decode cJ6_bitCount_0f7a4 14 = .ok (.iand, 1) := by decide +kernel
theorem dJ6_bitCount_0f7a4_15 : decode cJ6_bitCount_0f7a4 15 = .ok (.iload_n 0, 1) := by decide +kernel
theorem dJ6_bitCount_0f7a4_16 : decode cJ6_bitCount_0f7a4 16 = .ok (.iconst 2, 1) := by decide +kernel
theorem dJ6_bitCount_0f7a4_17 : decode cJ6_bitCount_0f7a4 17 = .ok (.iushr, 1) := by decide +kernel
theorem dJ6_bitCount_0f7a4_18 : decode cJ6_bitCount_0f7a4 18 = .ok (.ldc_w 266, 3) := by decide +kernel
theorem dJ6_bitCount_0f7a4_21 : decode cJ6_bitCount_0f7a4 21 = .ok (.iand, 1) := by decide +kernel
theorem dJ6_bitCount_0f7a4_22 : decode cJ6_bitCount_0f7a4 22 = .ok (.iadd, 1) := by decide +kernel
theorem dJ6_bitCount_0f7a4_23 : decode cJ6_bitCount_0f7a4 23 = .ok (.istore_n 0, 1) := by decide +kernel
theorem dJ6_bitCount_0f7a4_24 : decode cJ6_bitCount_0f7a4 24 = .ok (.iload_n 0, 1) := by decide +kernel
theorem dJ6_bitCount_0f7a4_25 : decode cJ6_bitCount_0f7a4 25 = .ok (.iload_n 0, 1) := by decide +kernel
theorem dJ6_bitCount_0f7a4_26 : decode cJ6_bitCount_0f7a4 26 = .ok (.iconst 4, 1) := by decide +kernel
theorem dJ6_bitCount_0f7a4_27 : decode cJ6_bitCount_0f7a4 27 = .ok (.iushr, 1) := by decide +kernel
theorem dJ6_bitCount_0f7a4_28 : decode cJ6_bitCount_0f7a4 28 = .ok (.iadd, 1) := by decide +kernel
theorem dJ6_bitCount_0f7a4_29 : decode cJ6_bitCount_0f7a4 29 = .ok (.ldc_w 267, 3) := by decide +kernel
theorem dJ6_bitCount_0f7a4_32 : decode cJ6_bitCount_0f7a4 32 = .ok (.iand, 1) := by decide +kernel
theorem dJ6_bitCount_0f7a4_33 : decode cJ6_bitCount_0f7a4 33 = .ok (.istore_n 0, 1) := by decide +kernel
theorem dJ6_bitCount_0f7a4_34 : decode cJ6_bitCount_0f7a4 34 = .ok (.iload_n 0, 1) := by decide +kernel
theorem dJ6_bitCount_0f7a4_35 : decode cJ6_bitCount_0f7a4 35 = .ok (.iload_n 0, 1) := by decide +kernel
theorem dJ6_bitCount_0f7a4_36 : decode cJ6_bitCount_0f7a4 36 = .ok (.bipush 8, 2) := by decide +kernel
theorem dJ6_bitCount_0f7a4_38 : decode cJ6_bitCount_0f7a4 38 = .ok (.iushr, 1) := by decide +kernel
theorem dJ6_bitCount_0f7a4_39 : decode cJ6_bitCount_0f7a4 39 = .ok (.iadd, 1) := by decide +kernel
theorem dJ6_bitCount_0f7a4_40 : decode cJ6_bitCount_0f7a4 40 = .ok (.istore_n 0, 1) := by decide +kernel
theorem dJ6_bitCount_0f7a4_41 : decode cJ6_bitCount_0f7a4 41 = .ok (.iload_n 0, 1) := by decide +kernel
theorem dJ6_bitCount_0f7a4_42 : decode cJ6_bitCount_0f7a4 42 = .ok (.iload_n 0, 1) := by decide +kernel
theorem dJ6_bitCount_0f7a4_43 : decode cJ6_bitCount_0f7a4 43 = .ok (.bipush 16, 2) := by decide +kernel
theorem dJ6_bitCount_0f7a4_45 : decode cJ6_bitCount_0f7a4 45 = .ok (.iushr, 1) := by decide +kernel
theorem dJ6_bitCount_0f7a4_46 : decode cJ6_bitCount_0f7a4 46 = .ok (.iadd, 1) := by decide +kernel
theorem dJ6_bitCount_0f7a4_47 : decode cJ6_bitCount_0f7a4 47 = .ok (.istore_n 0, 1) := by decide +kernel
theorem dJ6_bitCount_0f7a4_48 : decode cJ6_bitCount_0f7a4 48 = .ok (.iload_n 0, 1) := by decide +kernel
theorem dJ6_bitCount_0f7a4_49 : decode cJ6_bitCount_0f7a4 49 = .ok (.bipush 63, 2) := by decide +kernel
theorem dJ6_bitCount_0f7a4_51 : decode cJ6_bitCount_0f7a4 51 = .ok (.iand, 1) := by decide +kernel
theorem dJ6_bitCount_0f7a4_52 : decode cJ6_bitCount_0f7a4 52 = .ok (.ireturn, 1) := by decide +kernel
theorem dJ9_max_7cf53_0 : decode cJ9_max_7cf53 0 = .ok (.iload_n 0, 1) := by decide +kernel
