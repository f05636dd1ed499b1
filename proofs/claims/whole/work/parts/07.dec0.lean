theorem dX0_isKind_0 : decode cX0_isKind 0 = .ok (.iload_n 0, 1) := by decide +kernel
theorem dX0_isKind_1 : decode cX0_isKind 1 = .ok (.ifCond .lt 13, 3) := by decide +kernel
theorem dX0_isKind_4 : decode cX0_isKind 4 = .ok (.iload_n 0, 1) := by decide +kernel
theorem dX0_isKind_5 : decode cX0_isKind 5 = .ok (.bipush 8, 2) := by decide +kernel
theorem dX0_isKind_7 : decode cX0_isKind 7 = .ok (.if_icmp .ge 7, 3) := by decide +kernel
theorem dX0_isKind_10 : decode cX0_isKind 10 = .ok (.iconst 1, 1) := by decide +kernel
theorem dX0_isKind_11 : decode cX0_isKind 11 = .ok (.goto 4, 3) := by decide +kernel
theorem dX0_isKind_14 : decode cX0_isKind 14 = .ok (.iconst 0, 1) := by decide +kernel
theorem dX0_isKind_15 : decode cX0_isKind 15 = .ok (.ireturn, 1) := by decide +kernel
theorem dX0_isUnder_0 : decode cX0_isUnder 0 = .ok (.iload_n 0, 1) := by decide +kernel
theorem dX0_isUnder_1 : decode cX0_isUnder 1 = .ok (.istore_n 2, 1) := by decide +kernel
theorem dX0_isUnder_2 : decode cX0_isUnder 2 = .ok (.iconst 0, 1) := by decide +kernel
theorem dX0_isUnder_3 : decode cX0_isUnder 3 = .ok (.istore_n 3, 1) := by decide +kernel
theorem dX0_isUnder_4 : decode cX0_isUnder 4 = .ok (.iload_n 3, 1) := by decide +kernel
theorem dX0_isUnder_5 : decode cX0_isUnder 5 = .ok (.bipush 8, 2) := by decide +kernel
theorem dX0_isUnder_7 : decode cX0_isUnder 7 = .ok (.if_icmp .ge 29, 3) := by decide +kernel
theorem dX0_isUnder_10 : decode cX0_isUnder 10 = .ok (.iload_n 2, 1) := by decide +kernel
theorem dX0_isUnder_11 : decode cX0_isUnder 11 = .ok (.invokestatic 18, 3) := by decide +kernel
theorem dX0_isUnder_14 : decode cX0_isUnder 14 = .ok (.ifCond .eq 22, 3) := by decide +kernel
theorem dX0_isUnder_17 : decode cX0_isUnder 17 = .ok (.iload_n 2, 1) := by decide +kernel
theorem dX0_isUnder_18 : decode cX0_isUnder 18 = .ok (.iload_n 1, 1) := by decide +kernel
theorem dX0_isUnder_19 : decode cX0_isUnder 19 = .ok (.if_icmp .ne 5, 3) := by decide +kernel
theorem dX0_isUnder_22 : decode cX0_isUnder 22 = .ok (.iconst 1, 1) := by decide +kernel
theorem dX0_isUnder_23 : decode cX0_isUnder 23 = .ok (.ireturn, 1) := by decide +kernel
theorem dX0_isUnder_24 : decode cX0_isUnder 24 = .ok (.getstatic 22, 3) := by decide +kernel
theorem dX0_isUnder_27 : decode cX0_isUnder 27 = .ok (.iload_n 2, 1) := by decide +kernel
theorem dX0_isUnder_28 : decode cX0_isUnder 28 = .ok (.iaload, 1) := by decide +kernel
theorem dX0_isUnder_29 : decode cX0_isUnder 29 = .ok (.istore_n 2, 1) := by decide +kernel
theorem dX0_isUnder_30 : decode cX0_isUnder 30 = .ok (.iinc 3 1, 3) := by decide +kernel
theorem dX0_isUnder_33 : decode cX0_isUnder 33 = .ok (.goto (-29), 3) := by decide +kernel
theorem dX0_isUnder_36 : decode cX0_isUnder 36 = .ok (.iconst 0, 1) := by decide +kernel
theorem dX0_isUnder_37 : decode cX0_isUnder 37 = .ok (.ireturn, 1) := by decide +kernel
theorem dX0_areFull_0 : decode cX0_areFull 0 = .ok (.aload_n 0, 1) := by decide +kernel
theorem dX0_areFull_1 : decode cX0_areFull 1 = .ok (.getfield 25, 3) := by decide +kernel
theorem dX0_areFull_4 : decode cX0_areFull 4 = .ok (.bipush 50, 2) := by decide +kernel
theorem dX0_areFull_6 : decode cX0_areFull 6 = .ok (.if_icmp .lt 7, 3) := by decide +kernel
theorem dX0_areFull_9 : decode cX0_areFull 9 = .ok (.iconst 1, 1) := by decide +kernel
theorem dX0_areFull_10 : decode cX0_areFull 10 = .ok (.goto 4, 3) := by decide +kernel
theorem dX0_areFull_13 : decode cX0_areFull 13 = .ok (.iconst 0, 1) := by decide +kernel
theorem dX0_areFull_14 : decode cX0_areFull 14 = .ok (.ireturn, 1) := by decide +kernel
theorem dX0_hasLoad_0 : decode cX0_hasLoad 0 = .ok (.iload_n 1, 1) := by decide +kernel
theorem dX0_hasLoad_1 : decode cX0_hasLoad 1 = .ok (.ifCond .lt 15, 3) := by decide +kernel
theorem dX0_hasLoad_4 : decode cX0_hasLoad 4 = .ok (.iload_n 1, 1) := by decide +kernel
theorem dX0_hasLoad_5 : decode cX0_hasLoad 5 = .ok (.aload_n 0, 1) := by decide +kernel
theorem dX0_hasLoad_6 : decode cX0_hasLoad 6 = .ok (.getfield 25, 3) := by decide +kernel
theorem dX0_hasLoad_9 : decode cX0_hasLoad 9 = .ok (.if_icmp .ge 7, 3) := by decide +kernel
theorem dX0_hasLoad_12 : decode cX0_hasLoad 12 = .ok (.iconst 1, 1) := by decide +kernel
theorem dX0_hasLoad_13 : decode cX0_hasLoad 13 = .ok (.goto 4, 3) := by decide +kernel
theorem dX0_hasLoad_16 : decode cX0_hasLoad 16 = .ok (.iconst 0, 1) := by decide +kernel
theorem dX0_hasLoad_17 : decode cX0_hasLoad 17 = .ok (.ireturn, 1) := by decide +kernel
theorem dX0_keepOne_0 : decode cX0_keepOne 0 = .ok (.aload_n 0, 1) := by decide +kernel
theorem dX0_keepOne_1 : decode cX0_keepOne 1 = .ok (.getfield 25, 3) := by decide +kernel
theorem dX0_keepOne_4 : decode cX0_keepOne 4 = .ok (.bipush 50, 2) := by decide +kernel
theorem dX0_keepOne_6 : decode cX0_keepOne 6 = .ok (.if_icmp .lt 6, 3) := by decide +kernel
theorem dX0_keepOne_9 : decode cX0_keepOne 9 = .ok (.bipush (-3), 2) := by decide +kernel
theorem dX0_keepOne_11 : decode cX0_keepOne 11 = .ok (.ireturn, 1) := by decide +kernel
theorem dX0_keepOne_12 : decode cX0_keepOne 12 = .ok (.aload_n 0, 1) := by decide +kernel
theorem dX0_keepOne_13 : decode cX0_keepOne 13 = .ok (.getfield 11, 3) := by decide +kernel
theorem dX0_keepOne_16 : decode cX0_keepOne 16 = .ok (.aload_n 0, 1) := by decide +kernel
theorem dX0_keepOne_17 : decode cX0_keepOne 17 = .ok (.getfield 25, 3) := by decide +kernel
theorem dX0_keepOne_20 : decode cX0_keepOne 20 = .ok (.iload_n 1, 1) := by decide +kernel
theorem dX0_keepOne_21 : decode cX0_keepOne 21 = .ok (.iastore, 1) := by decide +kernel
theorem dX0_keepOne_22 : decode cX0_keepOne 22 = .ok (.aload_n 0, 1) := by decide +kernel
theorem dX0_keepOne_23 : decode cX0_keepOne 23 = .ok (.dup, 1) := by decide +kernel
theorem dX0_keepOne_24 : decode cX0_keepOne 24 = .ok (.getfield 25, 3) := by decide +kernel
theorem dX0_keepOne_27 : decode cX0_keepOne 27 = .ok (.iconst 1, 1) := by decide +kernel
theorem dX0_keepOne_28 : decode cX0_keepOne 28 = .ok (.iadd, 1) := by decide +kernel
theorem dX0_keepOne_29 : decode cX0_keepOne 29 = .ok (.putfield 25, 3) := by decide +kernel
theorem dX0_keepOne_32 : decode cX0_keepOne 32 = .ok (.aload_n 0, 1) := by decide +kernel
theorem dX0_keepOne_33 : decode cX0_keepOne 33 = .ok (.getfield 25, 3) := by decide +kernel
theorem dX0_keepOne_36 : decode cX0_keepOne 36 = .ok (.iconst 1, 1) := by decide +kernel
theorem dX0_keepOne_37 : decode cX0_keepOne 37 = .ok (.isub, 1) := by decide +kernel
theorem dX0_keepOne_38 : decode cX0_keepOne 38 = .ok (.ireturn, 1) := by decide +kernel
theorem dX0_kindOf_0 : decode cX0_kindOf 0 = .ok (.aload_n 0, 1) := by decide +kernel
theorem dX0_kindOf_1 : decode cX0_kindOf 1 = .ok (.iload_n 1, 1) := by decide +kernel
theorem dX0_kindOf_2 : decode cX0_kindOf 2 = .ok (.invokevirtual 29, 3) := by decide +kernel
theorem dX0_kindOf_5 : decode cX0_kindOf 5 = .ok (.ifCond .eq 12, 3) := by decide +kernel
theorem dX0_kindOf_8 : decode cX0_kindOf 8 = .ok (.aload_n 0, 1) := by decide +kernel
theorem dX0_kindOf_9 : decode cX0_kindOf 9 = .ok (.getfield 11, 3) := by decide +kernel
theorem dX0_kindOf_12 : decode cX0_kindOf 12 = .ok (.iload_n 1, 1) := by decide +kernel
theorem dX0_kindOf_13 : decode cX0_kindOf 13 = .ok (.iaload, 1) := by decide +kernel
theorem dX0_kindOf_14 : decode cX0_kindOf 14 = .ok (.goto 4, 3) := by decide +kernel
theorem dX0_kindOf_17 : decode cX0_kindOf 17 = .ok (.iconst (-1), 1) := by decide +kernel
theorem dX0_kindOf_18 : decode cX0_kindOf 18 = .ok (.ireturn, 1) := by decide +kernel
theorem dX0_traced_0 : decode cX0_traced 0 = .ok (.aload_n 0, 1) := by decide +kernel
theorem dX0_traced_1 : decode cX0_traced 1 = .ok (.getfield 32, 3) := by decide +kernel
theorem dX0_traced_4 : decode cX0_traced 4 = .ok (.bipush 24, 2) := by decide +kernel
theorem dX0_traced_6 : decode cX0_traced 6 = .ok (.invokestatic 35, 3) := by decide +kernel
theorem dX0_traced_9 : decode cX0_traced 9 = .ok (.ireturn, 1) := by decide +kernel
theorem dX0_traceAt_0 : decode cX0_traceAt 0 = .ok (.iload_n 1, 1) := by decide +kernel
theorem dX0_traceAt_1 : decode cX0_traceAt 1 = .ok (.ifCond .lt 18, 3) := by decide +kernel
theorem dX0_traceAt_4 : decode cX0_traceAt 4 = .ok (.iload_n 1, 1) := by decide +kernel
theorem dX0_traceAt_5 : decode cX0_traceAt 5 = .ok (.bipush 24, 2) := by decide +kernel
theorem dX0_traceAt_7 : decode cX0_traceAt 7 = .ok (.if_icmp .ge 12, 3) := by decide +kernel
theorem dX0_traceAt_10 : decode cX0_traceAt 10 = .ok (.aload_n 0, 1) := by decide +kernel
theorem dX0_traceAt_11 : decode cX0_traceAt 11 = .ok (.getfield 15, 3) := by decide +kernel
theorem dX0_traceAt_14 : decode cX0_traceAt 14 = .ok (.iload_n 1, 1) := by decide +kernel
theorem dX0_traceAt_15 : decode cX0_traceAt 15 = .ok (.iaload, 1) := by decide +kernel
theorem dX0_traceAt_16 : decode cX0_traceAt 16 = .ok (.goto 4, 3) := by decide +kernel
theorem dX0_traceAt_19 : decode cX0_traceAt 19 = .ok (.iconst (-1), 1) := by decide +kernel
theorem dX0_traceAt_20 : decode cX0_traceAt 20 = .ok (.ireturn, 1) := by decide +kernel
theorem dX0_begin_0 : decode cX0_begin 0 = .ok (.aload_n 0, 1) := by decide +kernel
theorem dX0_begin_1 : decode cX0_begin 1 = .ok (.iconst 0, 1) := by decide +kernel
theorem dX0_begin_2 : decode cX0_begin 2 = .ok (.putfield 32, 3) := by decide +kernel
theorem dX0_begin_5 : decode cX0_begin 5 = .ok (.aload_n 0, 1) := by decide +kernel
theorem dX0_begin_6 : decode cX0_begin 6 = .ok (.iload_n 1, 1) := by decide +kernel
theorem dX0_begin_7 : decode cX0_begin 7 = .ok (.invokevirtual 29, 3) := by decide +kernel
theorem dX0_begin_10 : decode cX0_begin 10 = .ok (.ifCond .eq 12, 3) := by decide +kernel
theorem dX0_begin_13 : decode cX0_begin 13 = .ok (.iload_n 2, 1) := by decide +kernel
theorem dX0_begin_14 : decode cX0_begin 14 = .ok (.ifCond .lt 8, 3) := by decide +kernel
theorem dX0_begin_17 : decode cX0_begin 17 = .ok (.iload_n 2, 1) := by decide +kernel
theorem dX0_begin_18 : decode cX0_begin 18 = .ok (.iconst 4, 1) := by decide +kernel
theorem dX0_begin_19 : decode cX0_begin 19 = .ok (.if_icmp .lt 5, 3) := by decide +kernel
theorem dX0_begin_22 : decode cX0_begin 22 = .ok (.iconst 0, 1) := by decide +kernel
theorem dX0_begin_23 : decode cX0_begin 23 = .ok (.ireturn, 1) := by decide +kernel
theorem dX0_begin_24 : decode cX0_begin 24 = .ok (.aload_n 0, 1) := by decide +kernel
theorem dX0_begin_25 : decode cX0_begin 25 = .ok (.iload_n 1, 1) := by decide +kernel
theorem dX0_begin_26 : decode cX0_begin 26 = .ok (.putfield 41, 3) := by decide +kernel
theorem dX0_begin_29 : decode cX0_begin 29 = .ok (.aload_n 0, 1) := by decide +kernel
theorem dX0_begin_30 : decode cX0_begin 30 = .ok (.aload_n 0, 1) := by decide +kernel
theorem dX0_begin_31 : decode cX0_begin 31 = .ok (.getfield 11, 3) := by decide +kernel
theorem dX0_begin_34 : decode cX0_begin 34 = .ok (.iload_n 1, 1) := by decide +kernel
theorem dX0_begin_35 : decode cX0_begin 35 = .ok (.iaload, 1) := by decide +kernel
theorem dX0_begin_36 : decode cX0_begin 36 = .ok (.putfield 44, 3) := by decide +kernel
theorem dX0_begin_39 : decode cX0_begin 39 = .ok (.aload_n 0, 1) := by decide +kernel
theorem dX0_begin_40 : decode cX0_begin 40 = .ok (.aload_n 0, 1) := by decide +kernel
theorem dX0_begin_41 : decode cX0_begin 41 = .ok (.getfield 44, 3) := by decide +kernel
theorem dX0_begin_44 : decode cX0_begin 44 = .ok (.iload_n 2, 1) := by decide +kernel
theorem dX0_begin_45 : decode cX0_begin 45 = .ok (.iload_n 3, 1) := by decide +kernel
theorem dX0_begin_46 : decode cX0_begin 46 = .ok (.iconst 0, 1) := by decide +kernel
theorem dX0_begin_47 : decode cX0_begin 47 = .ok (.invokevirtual 47, 3) := by decide +kernel
theorem dX0_begin_50 : decode cX0_begin 50 = .ok (.ireturn, 1) := by decide +kernel
theorem dX0_bodyOf_0 : decode cX0_bodyOf 0 = .ok (.iload_n 0, 1) := by decide +kernel
theorem dX0_bodyOf_1 : decode cX0_bodyOf 1 = .ok (.invokestatic 18, 3) := by decide +kernel
theorem dX0_bodyOf_4 : decode cX0_bodyOf 4 = .ok (.ifCond .eq 24, 3) := by decide +kernel
theorem dX0_bodyOf_7 : decode cX0_bodyOf 7 = .ok (.iload_n 1, 1) := by decide +kernel
theorem dX0_bodyOf_8 : decode cX0_bodyOf 8 = .ok (.ifCond .lt 20, 3) := by decide +kernel
theorem dX0_bodyOf_11 : decode cX0_bodyOf 11 = .ok (.iload_n 1, 1) := by decide +kernel
theorem dX0_bodyOf_12 : decode cX0_bodyOf 12 = .ok (.iconst 4, 1) := by decide +kernel
theorem dX0_bodyOf_13 : decode cX0_bodyOf 13 = .ok (.if_icmp .ge 15, 3) := by decide +kernel
theorem dX0_bodyOf_16 : decode cX0_bodyOf 16 = .ok (.getstatic 51, 3) := by decide +kernel
theorem dX0_bodyOf_19 : decode cX0_bodyOf 19 = .ok (.iload_n 0, 1) := by decide +kernel
theorem dX0_bodyOf_20 : decode cX0_bodyOf 20 = .ok (.iconst 4, 1) := by decide +kernel
theorem dX0_bodyOf_21 : decode cX0_bodyOf 21 = .ok (.imul, 1) := by decide +kernel
theorem dX0_bodyOf_22 : decode cX0_bodyOf 22 = .ok (.iload_n 1, 1) := by decide +kernel
theorem dX0_bodyOf_23 : decode cX0_bodyOf 23 = .ok (.iadd, 1) := by decide +kernel
theorem dX0_bodyOf_24 : decode cX0_bodyOf 24 = .ok (.iaload, 1) := by decide +kernel
theorem dX0_bodyOf_25 : decode cX0_bodyOf 25 = .ok (.goto 4, 3) := by decide +kernel
theorem dX0_bodyOf_28 : decode cX0_bodyOf 28 = .ok (.iconst 0, 1) := by decide +kernel
theorem dX0_bodyOf_29 : decode cX0_bodyOf 29 = .ok (.ireturn, 1) := by decide +kernel
theorem dX0_acted_0 : decode cX0_acted 0 = .ok (.iload_n 1, 1) := by decide +kernel
theorem dX0_acted_1 : decode cX0_acted 1 = .ok (.istore 5, 2) := by decide +kernel
theorem dX0_acted_3 : decode cX0_acted 3 = .ok (.iconst 0, 1) := by decide +kernel
theorem dX0_acted_4 : decode cX0_acted 4 = .ok (.istore 6, 2) := by decide +kernel
theorem dX0_acted_6 : decode cX0_acted 6 = .ok (.iload 6, 2) := by decide +kernel
theorem dX0_acted_8 : decode cX0_acted 8 = .ok (.bipush 8, 2) := by decide +kernel
theorem dX0_acted_10 : decode cX0_acted 10 = .ok (.if_icmp .ge 34, 3) := by decide +kernel
theorem dX0_acted_13 : decode cX0_acted 13 = .ok (.iload 5, 2) := by decide +kernel
theorem dX0_acted_15 : decode cX0_acted 15 = .ok (.invokestatic 18, 3) := by decide +kernel
theorem dX0_acted_18 : decode cX0_acted 18 = .ok (.ifCond .eq 26, 3) := by decide +kernel
theorem dX0_acted_21 : decode cX0_acted 21 = .ok (.iload 5, 2) := by decide +kernel
theorem dX0_acted_23 : decode cX0_acted 23 = .ok (.iload_n 2, 1) := by decide +kernel
theorem dX0_acted_24 : decode cX0_acted 24 = .ok (.invokestatic 54, 3) := by decide +kernel
theorem dX0_acted_27 : decode cX0_acted 27 = .ok (.ifCond .ne 17, 3) := by decide +kernel
theorem dX0_acted_30 : decode cX0_acted 30 = .ok (.getstatic 22, 3) := by decide +kernel
theorem dX0_acted_33 : decode cX0_acted 33 = .ok (.iload 5, 2) := by decide +kernel
theorem dX0_acted_35 : decode cX0_acted 35 = .ok (.iaload, 1) := by decide +kernel
theorem dX0_acted_36 : decode cX0_acted 36 = .ok (.istore 5, 2) := by decide +kernel
theorem dX0_acted_38 : decode cX0_acted 38 = .ok (.iinc 6 1, 3) := by decide +kernel
theorem dX0_acted_41 : decode cX0_acted 41 = .ok (.goto (-35), 3) := by decide +kernel
theorem dX0_acted_44 : decode cX0_acted 44 = .ok (.iload 5, 2) := by decide +kernel
theorem dX0_acted_46 : decode cX0_acted 46 = .ok (.invokestatic 18, 3) := by decide +kernel
theorem dX0_acted_49 : decode cX0_acted 49 = .ok (.ifCond .eq 10, 3) := by decide +kernel
theorem dX0_acted_52 : decode cX0_acted 52 = .ok (.iload 4, 2) := by decide +kernel
theorem dX0_acted_54 : decode cX0_acted 54 = .ok (.bipush 20, 2) := by decide +kernel
theorem dX0_acted_56 : decode cX0_acted 56 = .ok (.if_icmp .le 5, 3) := by decide +kernel
theorem dX0_acted_59 : decode cX0_acted 59 = .ok (.iconst 0, 1) := by decide +kernel
theorem dX0_acted_60 : decode cX0_acted 60 = .ok (.ireturn, 1) := by decide +kernel
theorem dX0_acted_61 : decode cX0_acted 61 = .ok (.aload_n 0, 1) := by decide +kernel
theorem dX0_acted_62 : decode cX0_acted 62 = .ok (.getfield 32, 3) := by decide +kernel
theorem dX0_acted_65 : decode cX0_acted 65 = .ok (.bipush 24, 2) := by decide +kernel
theorem dX0_acted_67 : decode cX0_acted 67 = .ok (.if_icmp .ge 18, 3) := by decide +kernel
theorem dX0_acted_70 : decode cX0_acted 70 = .ok (.aload_n 0, 1) := by decide +kernel
theorem dX0_acted_71 : decode cX0_acted 71 = .ok (.getfield 15, 3) := by decide +kernel
theorem dX0_acted_74 : decode cX0_acted 74 = .ok (.aload_n 0, 1) := by decide +kernel
theorem dX0_acted_75 : decode cX0_acted 75 = .ok (.getfield 32, 3) := by decide +kernel
theorem dX0_acted_78 : decode cX0_acted 78 = .ok (.iload 5, 2) := by decide +kernel
theorem dX0_acted_80 : decode cX0_acted 80 = .ok (.iload_n 2, 1) := by decide +kernel
theorem dX0_acted_81 : decode cX0_acted 81 = .ok (.invokestatic 54, 3) := by decide +kernel
theorem dX0_acted_84 : decode cX0_acted 84 = .ok (.iastore, 1) := by decide +kernel
theorem dX0_acted_85 : decode cX0_acted 85 = .ok (.aload_n 0, 1) := by decide +kernel
theorem dX0_acted_86 : decode cX0_acted 86 = .ok (.dup, 1) := by decide +kernel
theorem dX0_acted_87 : decode cX0_acted 87 = .ok (.getfield 32, 3) := by decide +kernel
theorem dX0_acted_90 : decode cX0_acted 90 = .ok (.iconst 1, 1) := by decide +kernel
theorem dX0_acted_91 : decode cX0_acted 91 = .ok (.iadd, 1) := by decide +kernel
theorem dX0_acted_92 : decode cX0_acted 92 = .ok (.putfield 32, 3) := by decide +kernel
theorem dX0_acted_95 : decode cX0_acted 95 = .ok (.aload_n 0, 1) := by decide +kernel
theorem dX0_acted_96 : decode cX0_acted 96 = .ok (.iload 5, 2) := by decide +kernel
theorem dX0_acted_98 : decode cX0_acted 98 = .ok (.iload_n 2, 1) := by decide +kernel
theorem dX0_acted_99 : decode cX0_acted 99 = .ok (.invokestatic 54, 3) := by decide +kernel
theorem dX0_acted_102 : decode cX0_acted 102 = .ok (.getstatic 22, 3) := by decide +kernel
theorem dX0_acted_105 : decode cX0_acted 105 = .ok (.iload 5, 2) := by decide +kernel
theorem dX0_acted_107 : decode cX0_acted 107 = .ok (.iaload, 1) := by decide +kernel
theorem dX0_acted_108 : decode cX0_acted 108 = .ok (.iload_n 3, 1) := by decide +kernel
theorem dX0_acted_109 : decode cX0_acted 109 = .ok (.iload 4, 2) := by decide +kernel
theorem dX0_acted_111 : decode cX0_acted 111 = .ok (.iconst 1, 1) := by decide +kernel
theorem dX0_acted_112 : decode cX0_acted 112 = .ok (.iadd, 1) := by decide +kernel
theorem dX0_acted_113 : decode cX0_acted 113 = .ok (.invokevirtual 57, 3) := by decide +kernel
theorem dX0_acted_116 : decode cX0_acted 116 = .ok (.ireturn, 1) := by decide +kernel
theorem dX0_worked_0 : decode cX0_worked 0 = .ok (.iload_n 1, 1) := by decide +kernel
theorem dX0_worked_1 : decode cX0_worked 1 = .ok (.lookupswitch 299 #[(1, 115), (2, 122), (10, 148), (11, 163), (20, 170), (30, 182), (40, 193), (41, 205), (50, 217), (60, 240), (70, 252), (80, 264), (81, 287)], 115) := by decide +kernel
theorem dX0_worked_116 : decode cX0_worked 116 = .ok (.iload_n 3, 1) := by decide +kernel
theorem dX0_worked_117 : decode cX0_worked 117 = .ok (.aload_n 0, 1) := by decide +kernel
theorem dX0_worked_118 : decode cX0_worked 118 = .ok (.getfield 41, 3) := by decide +kernel
theorem dX0_worked_121 : decode cX0_worked 121 = .ok (.iadd, 1) := by decide +kernel
theorem dX0_worked_122 : decode cX0_worked 122 = .ok (.ireturn, 1) := by decide +kernel
theorem dX0_worked_123 : decode cX0_worked 123 = .ok (.aload_n 0, 1) := by decide +kernel
theorem dX0_worked_124 : decode cX0_worked 124 = .ok (.aload_n 0, 1) := by decide +kernel
theorem dX0_worked_125 : decode cX0_worked 125 = .ok (.getfield 44, 3) := by decide +kernel
theorem dX0_worked_128 : decode cX0_worked 128 = .ok (.iconst 1, 1) := by decide +kernel
theorem dX0_worked_129 : decode cX0_worked 129 = .ok (.iload_n 3, 1) := by decide +kernel
theorem dX0_worked_130 : decode cX0_worked 130 = .ok (.iload 4, 2) := by decide +kernel
theorem dX0_worked_132 : decode cX0_worked 132 = .ok (.invokevirtual 47, 3) := by decide +kernel
theorem dX0_worked_135 : decode cX0_worked 135 = .ok (.aload_n 0, 1) := by decide +kernel
theorem dX0_worked_136 : decode cX0_worked 136 = .ok (.aload_n 0, 1) := by decide +kernel
theorem dX0_worked_137 : decode cX0_worked 137 = .ok (.getfield 44, 3) := by decide +kernel
theorem dX0_worked_140 : decode cX0_worked 140 = .ok (.iconst 2, 1) := by decide +kernel
theorem dX0_worked_141 : decode cX0_worked 141 = .ok (.iconst 1, 1) := by decide +kernel
theorem dX0_worked_142 : decode cX0_worked 142 = .ok (.iload 4, 2) := by decide +kernel
theorem dX0_worked_144 : decode cX0_worked 144 = .ok (.invokevirtual 47, 3) := by decide +kernel
theorem dX0_worked_147 : decode cX0_worked 147 = .ok (.isub, 1) := by decide +kernel
theorem dX0_worked_148 : decode cX0_worked 148 = .ok (.ireturn, 1) := by decide +kernel
theorem dX0_worked_149 : decode cX0_worked 149 = .ok (.aload_n 0, 1) := by decide +kernel
theorem dX0_worked_150 : decode cX0_worked 150 = .ok (.aload_n 0, 1) := by decide +kernel
theorem dX0_worked_151 : decode cX0_worked 151 = .ok (.getfield 44, 3) := by decide +kernel
theorem dX0_worked_154 : decode cX0_worked 154 = .ok (.iconst 0, 1) := by decide +kernel
theorem dX0_worked_155 : decode cX0_worked 155 = .ok (.iload_n 3, 1) := by decide +kernel
theorem dX0_worked_156 : decode cX0_worked 156 = .ok (.iload 4, 2) := by decide +kernel
theorem dX0_worked_158 : decode cX0_worked 158 = .ok (.invokevirtual 47, 3) := by decide +kernel
theorem dX0_worked_161 : decode cX0_worked 161 = .ok (.iconst 2, 1) := by decide +kernel
theorem dX0_worked_162 : decode cX0_worked 162 = .ok (.imul, 1) := by decide +kernel
theorem dX0_worked_163 : decode cX0_worked 163 = .ok (.ireturn, 1) := by decide +kernel
theorem dX0_worked_164 : decode cX0_worked 164 = .ok (.iload_n 3, 1) := by decide +kernel
theorem dX0_worked_165 : decode cX0_worked 165 = .ok (.aload_n 0, 1) := by decide +kernel
theorem dX0_worked_166 : decode cX0_worked 166 = .ok (.getfield 41, 3) := by decide +kernel
theorem dX0_worked_169 : decode cX0_worked 169 = .ok (.ixor, 1) := by decide +kernel
theorem dX0_worked_170 : decode cX0_worked 170 = .ok (.ireturn, 1) := by decide +kernel
theorem dX0_worked_171 : decode cX0_worked 171 = .ok (.aload_n 0, 1) := by decide +kernel
theorem dX0_worked_172 : decode cX0_worked 172 = .ok (.iload_n 2, 1) := by decide +kernel
theorem dX0_worked_173 : decode cX0_worked 173 = .ok (.iconst 0, 1) := by decide +kernel
theorem dX0_worked_174 : decode cX0_worked 174 = .ok (.iload_n 3, 1) := by decide +kernel
theorem dX0_worked_175 : decode cX0_worked 175 = .ok (.iload 4, 2) := by decide +kernel
theorem dX0_worked_177 : decode cX0_worked 177 = .ok (.invokevirtual 47, 3) := by decide +kernel
theorem dX0_worked_180 : decode cX0_worked 180 = .ok (.iconst 3, 1) := by decide +kernel
theorem dX0_worked_181 : decode cX0_worked 181 = .ok (.iadd, 1) := by decide +kernel
theorem dX0_worked_182 : decode cX0_worked 182 = .ok (.ireturn, 1) := by decide +kernel
theorem dX0_worked_183 : decode cX0_worked 183 = .ok (.aload_n 0, 1) := by decide +kernel
theorem dX0_worked_184 : decode cX0_worked 184 = .ok (.iload_n 2, 1) := by decide +kernel
theorem dX0_worked_185 : decode cX0_worked 185 = .ok (.iconst 1, 1) := by decide +kernel
theorem dX0_worked_186 : decode cX0_worked 186 = .ok (.iload_n 3, 1) := by decide +kernel
theorem dX0_worked_187 : decode cX0_worked 187 = .ok (.iload 4, 2) := by decide +kernel
theorem dX0_worked_189 : decode cX0_worked 189 = .ok (.invokevirtual 47, 3) := by decide +kernel
theorem dX0_worked_192 : decode cX0_worked 192 = .ok (.ineg, 1) := by decide +kernel
theorem dX0_worked_193 : decode cX0_worked 193 = .ok (.ireturn, 1) := by decide +kernel
theorem dX0_worked_194 : decode cX0_worked 194 = .ok (.aload_n 0, 1) := by decide +kernel
theorem dX0_worked_195 : decode cX0_worked 195 = .ok (.iload_n 2, 1) := by decide +kernel
theorem dX0_worked_196 : decode cX0_worked 196 = .ok (.iconst 2, 1) := by decide +kernel
theorem dX0_worked_197 : decode cX0_worked 197 = .ok (.iload_n 3, 1) := by decide +kernel
theorem dX0_worked_198 : decode cX0_worked 198 = .ok (.iload 4, 2) := by decide +kernel
theorem dX0_worked_200 : decode cX0_worked 200 = .ok (.invokevirtual 47, 3) := by decide +kernel
theorem dX0_worked_203 : decode cX0_worked 203 = .ok (.iconst 3, 1) := by decide +kernel
theorem dX0_worked_204 : decode cX0_worked 204 = .ok (.imul, 1) := by decide +kernel
theorem dX0_worked_205 : decode cX0_worked 205 = .ok (.ireturn, 1) := by decide +kernel
theorem dX0_worked_206 : decode cX0_worked 206 = .ok (.aload_n 0, 1) := by decide +kernel
theorem dX0_worked_207 : decode cX0_worked 207 = .ok (.iload_n 2, 1) := by decide +kernel
theorem dX0_worked_208 : decode cX0_worked 208 = .ok (.iconst 1, 1) := by decide +kernel
theorem dX0_worked_209 : decode cX0_worked 209 = .ok (.iload_n 3, 1) := by decide +kernel
theorem dX0_worked_210 : decode cX0_worked 210 = .ok (.iconst 1, 1) := by decide +kernel
theorem dX0_worked_211 : decode cX0_worked 211 = .ok (.iadd, 1) := by decide +kernel
theorem dX0_worked_212 : decode cX0_worked 212 = .ok (.iload 4, 2) := by decide +kernel
theorem dX0_worked_214 : decode cX0_worked 214 = .ok (.invokevirtual 47, 3) := by decide +kernel
theorem dX0_worked_217 : decode cX0_worked 217 = .ok (.ireturn, 1) := by decide +kernel
theorem dX0_worked_218 : decode cX0_worked 218 = .ok (.aload_n 0, 1) := by decide +kernel
theorem dX0_worked_219 : decode cX0_worked 219 = .ok (.iload_n 2, 1) := by decide +kernel
theorem dX0_worked_220 : decode cX0_worked 220 = .ok (.iconst 2, 1) := by decide +kernel
theorem dX0_worked_221 : decode cX0_worked 221 = .ok (.iload_n 3, 1) := by decide +kernel
theorem dX0_worked_222 : decode cX0_worked 222 = .ok (.iload 4, 2) := by decide +kernel
theorem dX0_worked_224 : decode cX0_worked 224 = .ok (.invokevirtual 47, 3) := by decide +kernel
theorem dX0_worked_227 : decode cX0_worked 227 = .ok (.aload_n 0, 1) := by decide +kernel
theorem dX0_worked_228 : decode cX0_worked 228 = .ok (.aload_n 0, 1) := by decide +kernel
theorem dX0_worked_229 : decode cX0_worked 229 = .ok (.getfield 44, 3) := by decide +kernel
theorem dX0_worked_232 : decode cX0_worked 232 = .ok (.iconst 0, 1) := by decide +kernel
theorem dX0_worked_233 : decode cX0_worked 233 = .ok (.iconst 2, 1) := by decide +kernel
theorem dX0_worked_234 : decode cX0_worked 234 = .ok (.iload 4, 2) := by decide +kernel
theorem dX0_worked_236 : decode cX0_worked 236 = .ok (.invokevirtual 47, 3) := by decide +kernel
theorem dX0_worked_239 : decode cX0_worked 239 = .ok (.isub, 1) := by decide +kernel
theorem dX0_worked_240 : decode cX0_worked 240 = .ok (.ireturn, 1) := by decide +kernel
theorem dX0_worked_241 : decode cX0_worked 241 = .ok (.aload_n 0, 1) := by decide +kernel
theorem dX0_worked_242 : decode cX0_worked 242 = .ok (.iload_n 2, 1) := by decide +kernel
theorem dX0_worked_243 : decode cX0_worked 243 = .ok (.iconst 3, 1) := by decide +kernel
theorem dX0_worked_244 : decode cX0_worked 244 = .ok (.iload_n 3, 1) := by decide +kernel
theorem dX0_worked_245 : decode cX0_worked 245 = .ok (.iload 4, 2) := by decide +kernel
theorem dX0_worked_247 : decode cX0_worked 247 = .ok (.invokevirtual 47, 3) := by decide +kernel
theorem dX0_worked_250 : decode cX0_worked 250 = .ok (.iconst 5, 1) := by decide +kernel
theorem dX0_worked_251 : decode cX0_worked 251 = .ok (.ixor, 1) := by decide +kernel
theorem dX0_worked_252 : decode cX0_worked 252 = .ok (.ireturn, 1) := by decide +kernel
theorem dX0_worked_253 : decode cX0_worked 253 = .ok (.aload_n 0, 1) := by decide +kernel
theorem dX0_worked_254 : decode cX0_worked 254 = .ok (.iload_n 2, 1) := by decide +kernel
theorem dX0_worked_255 : decode cX0_worked 255 = .ok (.iconst 0, 1) := by decide +kernel
theorem dX0_worked_256 : decode cX0_worked 256 = .ok (.iload_n 3, 1) := by decide +kernel
theorem dX0_worked_257 : decode cX0_worked 257 = .ok (.iload 4, 2) := by decide +kernel
theorem dX0_worked_259 : decode cX0_worked 259 = .ok (.invokevirtual 47, 3) := by decide +kernel
theorem dX0_worked_262 : decode cX0_worked 262 = .ok (.iconst 2, 1) := by decide +kernel
theorem dX0_worked_263 : decode cX0_worked 263 = .ok (.imul, 1) := by decide +kernel
theorem dX0_worked_264 : decode cX0_worked 264 = .ok (.ireturn, 1) := by decide +kernel
theorem dX0_worked_265 : decode cX0_worked 265 = .ok (.aload_n 0, 1) := by decide +kernel
theorem dX0_worked_266 : decode cX0_worked 266 = .ok (.iload_n 2, 1) := by decide +kernel
theorem dX0_worked_267 : decode cX0_worked 267 = .ok (.iconst 1, 1) := by decide +kernel
theorem dX0_worked_268 : decode cX0_worked 268 = .ok (.iload_n 3, 1) := by decide +kernel
theorem dX0_worked_269 : decode cX0_worked 269 = .ok (.iload 4, 2) := by decide +kernel
theorem dX0_worked_271 : decode cX0_worked 271 = .ok (.invokevirtual 47, 3) := by decide +kernel
theorem dX0_worked_274 : decode cX0_worked 274 = .ok (.aload_n 0, 1) := by decide +kernel
theorem dX0_worked_275 : decode cX0_worked 275 = .ok (.aload_n 0, 1) := by decide +kernel
theorem dX0_worked_276 : decode cX0_worked 276 = .ok (.getfield 44, 3) := by decide +kernel
theorem dX0_worked_279 : decode cX0_worked 279 = .ok (.iconst 2, 1) := by decide +kernel
theorem dX0_worked_280 : decode cX0_worked 280 = .ok (.iconst 2, 1) := by decide +kernel
theorem dX0_worked_281 : decode cX0_worked 281 = .ok (.iload 4, 2) := by decide +kernel
theorem dX0_worked_283 : decode cX0_worked 283 = .ok (.invokevirtual 47, 3) := by decide +kernel
theorem dX0_worked_286 : decode cX0_worked 286 = .ok (.iadd, 1) := by decide +kernel
theorem dX0_worked_287 : decode cX0_worked 287 = .ok (.ireturn, 1) := by decide +kernel
theorem dX0_worked_288 : decode cX0_worked 288 = .ok (.aload_n 0, 1) := by decide +kernel
theorem dX0_worked_289 : decode cX0_worked 289 = .ok (.iload_n 2, 1) := by decide +kernel
theorem dX0_worked_290 : decode cX0_worked 290 = .ok (.iconst 3, 1) := by decide +kernel
theorem dX0_worked_291 : decode cX0_worked 291 = .ok (.iload_n 3, 1) := by decide +kernel
theorem dX0_worked_292 : decode cX0_worked 292 = .ok (.iload 4, 2) := by decide +kernel
theorem dX0_worked_294 : decode cX0_worked 294 = .ok (.invokevirtual 47, 3) := by decide +kernel
theorem dX0_worked_297 : decode cX0_worked 297 = .ok (.iconst 1, 1) := by decide +kernel
theorem dX0_worked_298 : decode cX0_worked 298 = .ok (.isub, 1) := by decide +kernel
theorem dX0_worked_299 : decode cX0_worked 299 = .ok (.ireturn, 1) := by decide +kernel
theorem dX0_worked_300 : decode cX0_worked 300 = .ok (.iconst 0, 1) := by decide +kernel
theorem dX0_worked_301 : decode cX0_worked 301 = .ok (.ireturn, 1) := by decide +kernel
theorem dX1_tell_0 : decode cX1_tell 0 = .ok (.aload_n 0, 1) := by decide +kernel
theorem dX1_tell_1 : decode cX1_tell 1 = .ok (.getfield 9, 3) := by decide +kernel
theorem dX1_tell_4 : decode cX1_tell 4 = .ok (.iload_n 1, 1) := by decide +kernel
theorem dX1_tell_5 : decode cX1_tell 5 = .ok (.iload_n 2, 1) := by decide +kernel
theorem dX1_tell_6 : decode cX1_tell 6 = .ok (.invokevirtual 28, 3) := by decide +kernel
theorem dX1_tell_9 : decode cX1_tell 9 = .ok (.istore 4, 2) := by decide +kernel
theorem dX1_tell_11 : decode cX1_tell 11 = .ok (.iload 4, 2) := by decide +kernel
theorem dX1_tell_13 : decode cX1_tell 13 = .ok (.iload_n 3, 1) := by decide +kernel
theorem dX1_tell_14 : decode cX1_tell 14 = .ok (.if_icmp .ne 6, 3) := by decide +kernel
theorem dX1_tell_17 : decode cX1_tell 17 = .ok (.iload 4, 2) := by decide +kernel
theorem dX1_tell_19 : decode cX1_tell 19 = .ok (.ireturn, 1) := by decide +kernel
theorem dX1_tell_20 : decode cX1_tell 20 = .ok (.aload_n 0, 1) := by decide +kernel
theorem dX1_tell_21 : decode cX1_tell 21 = .ok (.getfield 34, 3) := by decide +kernel
theorem dX1_tell_24 : decode cX1_tell 24 = .ok (.bipush 40, 2) := by decide +kernel
theorem dX1_tell_26 : decode cX1_tell 26 = .ok (.if_icmp .lt 7, 3) := by decide +kernel
theorem dX1_tell_29 : decode cX1_tell 29 = .ok (.aload_n 0, 1) := by decide +kernel
theorem dX1_tell_30 : decode cX1_tell 30 = .ok (.invokevirtual 38, 3) := by decide +kernel
theorem dX1_tell_33 : decode cX1_tell 33 = .ok (.aload_n 0, 1) := by decide +kernel
theorem dX1_tell_34 : decode cX1_tell 34 = .ok (.getfield 15, 3) := by decide +kernel
theorem dX1_tell_37 : decode cX1_tell 37 = .ok (.aload_n 0, 1) := by decide +kernel
theorem dX1_tell_38 : decode cX1_tell 38 = .ok (.getfield 34, 3) := by decide +kernel
theorem dX1_tell_41 : decode cX1_tell 41 = .ok (.iload_n 1, 1) := by decide +kernel
theorem dX1_tell_42 : decode cX1_tell 42 = .ok (.iastore, 1) := by decide +kernel
theorem dX1_tell_43 : decode cX1_tell 43 = .ok (.aload_n 0, 1) := by decide +kernel
theorem dX1_tell_44 : decode cX1_tell 44 = .ok (.getfield 19, 3) := by decide +kernel
theorem dX1_tell_47 : decode cX1_tell 47 = .ok (.aload_n 0, 1) := by decide +kernel
theorem dX1_tell_48 : decode cX1_tell 48 = .ok (.getfield 34, 3) := by decide +kernel
theorem dX1_tell_51 : decode cX1_tell 51 = .ok (.iload_n 2, 1) := by decide +kernel
theorem dX1_tell_52 : decode cX1_tell 52 = .ok (.iastore, 1) := by decide +kernel
theorem dX1_tell_53 : decode cX1_tell 53 = .ok (.aload_n 0, 1) := by decide +kernel
theorem dX1_tell_54 : decode cX1_tell 54 = .ok (.getfield 22, 3) := by decide +kernel
theorem dX1_tell_57 : decode cX1_tell 57 = .ok (.aload_n 0, 1) := by decide +kernel
theorem dX1_tell_58 : decode cX1_tell 58 = .ok (.getfield 34, 3) := by decide +kernel
theorem dX1_tell_61 : decode cX1_tell 61 = .ok (.iload 4, 2) := by decide +kernel
theorem dX1_tell_63 : decode cX1_tell 63 = .ok (.iastore, 1) := by decide +kernel
theorem dX1_tell_64 : decode cX1_tell 64 = .ok (.aload_n 0, 1) := by decide +kernel
theorem dX1_tell_65 : decode cX1_tell 65 = .ok (.getfield 25, 3) := by decide +kernel
theorem dX1_tell_68 : decode cX1_tell 68 = .ok (.aload_n 0, 1) := by decide +kernel
theorem dX1_tell_69 : decode cX1_tell 69 = .ok (.getfield 34, 3) := by decide +kernel
theorem dX1_tell_72 : decode cX1_tell 72 = .ok (.iload_n 3, 1) := by decide +kernel
theorem dX1_tell_73 : decode cX1_tell 73 = .ok (.iastore, 1) := by decide +kernel
theorem dX1_tell_74 : decode cX1_tell 74 = .ok (.aload_n 0, 1) := by decide +kernel
theorem dX1_tell_75 : decode cX1_tell 75 = .ok (.dup, 1) := by decide +kernel
theorem dX1_tell_76 : decode cX1_tell 76 = .ok (.getfield 34, 3) := by decide +kernel
theorem dX1_tell_79 : decode cX1_tell 79 = .ok (.iconst 1, 1) := by decide +kernel
theorem dX1_tell_80 : decode cX1_tell 80 = .ok (.iadd, 1) := by decide +kernel
theorem dX1_tell_81 : decode cX1_tell 81 = .ok (.putfield 34, 3) := by decide +kernel
theorem dX1_tell_84 : decode cX1_tell 84 = .ok (.aload_n 0, 1) := by decide +kernel
theorem dX1_tell_85 : decode cX1_tell 85 = .ok (.aload_n 0, 1) := by decide +kernel
theorem dX1_tell_86 : decode cX1_tell 86 = .ok (.getfield 34, 3) := by decide +kernel
theorem dX1_tell_89 : decode cX1_tell 89 = .ok (.putfield 41, 3) := by decide +kernel
theorem dX1_tell_92 : decode cX1_tell 92 = .ok (.aload_n 0, 1) := by decide +kernel
theorem dX1_tell_93 : decode cX1_tell 93 = .ok (.getfield 9, 3) := by decide +kernel
theorem dX1_tell_96 : decode cX1_tell 96 = .ok (.iload_n 1, 1) := by decide +kernel
theorem dX1_tell_97 : decode cX1_tell 97 = .ok (.iload_n 2, 1) := by decide +kernel
theorem dX1_tell_98 : decode cX1_tell 98 = .ok (.iload_n 3, 1) := by decide +kernel
theorem dX1_tell_99 : decode cX1_tell 99 = .ok (.invokevirtual 44, 3) := by decide +kernel
theorem dX1_tell_102 : decode cX1_tell 102 = .ok (.iload 4, 2) := by decide +kernel
theorem dX1_tell_104 : decode cX1_tell 104 = .ok (.ireturn, 1) := by decide +kernel
theorem dX1_dropOldest_0 : decode cX1_dropOldest 0 = .ok (.iconst 1, 1) := by decide +kernel
theorem dX1_dropOldest_1 : decode cX1_dropOldest 1 = .ok (.istore_n 1, 1) := by decide +kernel
theorem dX1_dropOldest_2 : decode cX1_dropOldest 2 = .ok (.iload_n 1, 1) := by decide +kernel
theorem dX1_dropOldest_3 : decode cX1_dropOldest 3 = .ok (.bipush 40, 2) := by decide +kernel
theorem dX1_dropOldest_5 : decode cX1_dropOldest 5 = .ok (.if_icmp .ge 65, 3) := by decide +kernel
theorem dX1_dropOldest_8 : decode cX1_dropOldest 8 = .ok (.aload_n 0, 1) := by decide +kernel
theorem dX1_dropOldest_9 : decode cX1_dropOldest 9 = .ok (.getfield 15, 3) := by decide +kernel
theorem dX1_dropOldest_12 : decode cX1_dropOldest 12 = .ok (.iload_n 1, 1) := by decide +kernel
theorem dX1_dropOldest_13 : decode cX1_dropOldest 13 = .ok (.iconst 1, 1) := by decide +kernel
theorem dX1_dropOldest_14 : decode cX1_dropOldest 14 = .ok (.isub, 1) := by decide +kernel
theorem dX1_dropOldest_15 : decode cX1_dropOldest 15 = .ok (.aload_n 0, 1) := by decide +kernel
theorem dX1_dropOldest_16 : decode cX1_dropOldest 16 = .ok (.getfield 15, 3) := by decide +kernel
theorem dX1_dropOldest_19 : decode cX1_dropOldest 19 = .ok (.iload_n 1, 1) := by decide +kernel
theorem dX1_dropOldest_20 : decode cX1_dropOldest 20 = .ok (.iaload, 1) := by decide +kernel
theorem dX1_dropOldest_21 : decode cX1_dropOldest 21 = .ok (.iastore, 1) := by decide +kernel
theorem dX1_dropOldest_22 : decode cX1_dropOldest 22 = .ok (.aload_n 0, 1) := by decide +kernel
theorem dX1_dropOldest_23 : decode cX1_dropOldest 23 = .ok (.getfield 19, 3) := by decide +kernel
theorem dX1_dropOldest_26 : decode cX1_dropOldest 26 = .ok (.iload_n 1, 1) := by decide +kernel
theorem dX1_dropOldest_27 : decode cX1_dropOldest 27 = .ok (.iconst 1, 1) := by decide +kernel
theorem dX1_dropOldest_28 : decode cX1_dropOldest 28 = .ok (.isub, 1) := by decide +kernel
theorem dX1_dropOldest_29 : decode cX1_dropOldest 29 = .ok (.aload_n 0, 1) := by decide +kernel
theorem dX1_dropOldest_30 : decode cX1_dropOldest 30 = .ok (.getfield 19, 3) := by decide +kernel
theorem dX1_dropOldest_33 : decode cX1_dropOldest 33 = .ok (.iload_n 1, 1) := by decide +kernel
theorem dX1_dropOldest_34 : decode cX1_dropOldest 34 = .ok (.iaload, 1) := by decide +kernel
theorem dX1_dropOldest_35 : decode cX1_dropOldest 35 = .ok (.iastore, 1) := by decide +kernel
theorem dX1_dropOldest_36 : decode cX1_dropOldest 36 = .ok (.aload_n 0, 1) := by decide +kernel
theorem dX1_dropOldest_37 : decode cX1_dropOldest 37 = .ok (.getfield 22, 3) := by decide +kernel
theorem dX1_dropOldest_40 : decode cX1_dropOldest 40 = .ok (.iload_n 1, 1) := by decide +kernel
theorem dX1_dropOldest_41 : decode cX1_dropOldest 41 = .ok (.iconst 1, 1) := by decide +kernel
theorem dX1_dropOldest_42 : decode cX1_dropOldest 42 = .ok (.isub, 1) := by decide +kernel
theorem dX1_dropOldest_43 : decode cX1_dropOldest 43 = .ok (.aload_n 0, 1) := by decide +kernel
theorem dX1_dropOldest_44 : decode cX1_dropOldest 44 = .ok (.getfield 22, 3) := by decide +kernel
theorem dX1_dropOldest_47 : decode cX1_dropOldest 47 = .ok (.iload_n 1, 1) := by decide +kernel
theorem dX1_dropOldest_48 : decode cX1_dropOldest 48 = .ok (.iaload, 1) := by decide +kernel
theorem dX1_dropOldest_49 : decode cX1_dropOldest 49 = .ok (.iastore, 1) := by decide +kernel
theorem dX1_dropOldest_50 : decode cX1_dropOldest 50 = .ok (.aload_n 0, 1) := by decide +kernel
theorem dX1_dropOldest_51 : decode cX1_dropOldest 51 = .ok (.getfield 25, 3) := by decide +kernel
theorem dX1_dropOldest_54 : decode cX1_dropOldest 54 = .ok (.iload_n 1, 1) := by decide +kernel
theorem dX1_dropOldest_55 : decode cX1_dropOldest 55 = .ok (.iconst 1, 1) := by decide +kernel
theorem dX1_dropOldest_56 : decode cX1_dropOldest 56 = .ok (.isub, 1) := by decide +kernel
theorem dX1_dropOldest_57 : decode cX1_dropOldest 57 = .ok (.aload_n 0, 1) := by decide +kernel
theorem dX1_dropOldest_58 : decode cX1_dropOldest 58 = .ok (.getfield 25, 3) := by decide +kernel
theorem dX1_dropOldest_61 : decode cX1_dropOldest 61 = .ok (.iload_n 1, 1) := by decide +kernel
theorem dX1_dropOldest_62 : decode cX1_dropOldest 62 = .ok (.iaload, 1) := by decide +kernel
theorem dX1_dropOldest_63 : decode cX1_dropOldest 63 = .ok (.iastore, 1) := by decide +kernel
theorem dX1_dropOldest_64 : decode cX1_dropOldest 64 = .ok (.iinc 1 1, 3) := by decide +kernel
theorem dX1_dropOldest_67 : decode cX1_dropOldest 67 = .ok (.goto (-65), 3) := by decide +kernel
theorem dX1_dropOldest_70 : decode cX1_dropOldest 70 = .ok (.aload_n 0, 1) := by decide +kernel
theorem dX1_dropOldest_71 : decode cX1_dropOldest 71 = .ok (.bipush 39, 2) := by decide +kernel
theorem dX1_dropOldest_73 : decode cX1_dropOldest 73 = .ok (.putfield 34, 3) := by decide +kernel
theorem dX1_dropOldest_76 : decode cX1_dropOldest 76 = .ok (.return_, 1) := by decide +kernel
theorem dX1_undoable_0 : decode cX1_undoable 0 = .ok (.aload_n 0, 1) := by decide +kernel
theorem dX1_undoable_1 : decode cX1_undoable 1 = .ok (.getfield 34, 3) := by decide +kernel
theorem dX1_undoable_4 : decode cX1_undoable 4 = .ok (.ireturn, 1) := by decide +kernel
theorem dX1_redoable_0 : decode cX1_redoable 0 = .ok (.aload_n 0, 1) := by decide +kernel
theorem dX1_redoable_1 : decode cX1_redoable 1 = .ok (.getfield 41, 3) := by decide +kernel
theorem dX1_redoable_4 : decode cX1_redoable 4 = .ok (.aload_n 0, 1) := by decide +kernel
theorem dX1_redoable_5 : decode cX1_redoable 5 = .ok (.getfield 34, 3) := by decide +kernel
theorem dX1_redoable_8 : decode cX1_redoable 8 = .ok (.isub, 1) := by decide +kernel
theorem dX1_redoable_9 : decode cX1_redoable 9 = .ok (.ireturn, 1) := by decide +kernel
theorem dX1_takeBack_0 : decode cX1_takeBack 0 = .ok (.aload_n 0, 1) := by decide +kernel
theorem dX1_takeBack_1 : decode cX1_takeBack 1 = .ok (.getfield 34, 3) := by decide +kernel
theorem dX1_takeBack_4 : decode cX1_takeBack 4 = .ok (.iconst 1, 1) := by decide +kernel
theorem dX1_takeBack_5 : decode cX1_takeBack 5 = .ok (.if_icmp .ge 6, 3) := by decide +kernel
theorem dX1_takeBack_8 : decode cX1_takeBack 8 = .ok (.bipush (-5), 2) := by decide +kernel
theorem dX1_takeBack_10 : decode cX1_takeBack 10 = .ok (.ireturn, 1) := by decide +kernel
theorem dX1_takeBack_11 : decode cX1_takeBack 11 = .ok (.aload_n 0, 1) := by decide +kernel
theorem dX1_takeBack_12 : decode cX1_takeBack 12 = .ok (.dup, 1) := by decide +kernel
theorem dX1_takeBack_13 : decode cX1_takeBack 13 = .ok (.getfield 34, 3) := by decide +kernel
theorem dX1_takeBack_16 : decode cX1_takeBack 16 = .ok (.iconst 1, 1) := by decide +kernel
theorem dX1_takeBack_17 : decode cX1_takeBack 17 = .ok (.isub, 1) := by decide +kernel
theorem dX1_takeBack_18 : decode cX1_takeBack 18 = .ok (.putfield 34, 3) := by decide +kernel
theorem dX1_takeBack_21 : decode cX1_takeBack 21 = .ok (.aload_n 0, 1) := by decide +kernel
theorem dX1_takeBack_22 : decode cX1_takeBack 22 = .ok (.getfield 9, 3) := by decide +kernel
theorem dX1_takeBack_25 : decode cX1_takeBack 25 = .ok (.aload_n 0, 1) := by decide +kernel
theorem dX1_takeBack_26 : decode cX1_takeBack 26 = .ok (.getfield 15, 3) := by decide +kernel
theorem dX1_takeBack_29 : decode cX1_takeBack 29 = .ok (.aload_n 0, 1) := by decide +kernel
theorem dX1_takeBack_30 : decode cX1_takeBack 30 = .ok (.getfield 34, 3) := by decide +kernel
theorem dX1_takeBack_33 : decode cX1_takeBack 33 = .ok (.iaload, 1) := by decide +kernel
theorem dX1_takeBack_34 : decode cX1_takeBack 34 = .ok (.aload_n 0, 1) := by decide +kernel
theorem dX1_takeBack_35 : decode cX1_takeBack 35 = .ok (.getfield 19, 3) := by decide +kernel
theorem dX1_takeBack_38 : decode cX1_takeBack 38 = .ok (.aload_n 0, 1) := by decide +kernel
theorem dX1_takeBack_39 : decode cX1_takeBack 39 = .ok (.getfield 34, 3) := by decide +kernel
theorem dX1_takeBack_42 : decode cX1_takeBack 42 = .ok (.iaload, 1) := by decide +kernel
theorem dX1_takeBack_43 : decode cX1_takeBack 43 = .ok (.aload_n 0, 1) := by decide +kernel
theorem dX1_takeBack_44 : decode cX1_takeBack 44 = .ok (.getfield 22, 3) := by decide +kernel
theorem dX1_takeBack_47 : decode cX1_takeBack 47 = .ok (.aload_n 0, 1) := by decide +kernel
theorem dX1_takeBack_48 : decode cX1_takeBack 48 = .ok (.getfield 34, 3) := by decide +kernel
theorem dX1_takeBack_51 : decode cX1_takeBack 51 = .ok (.iaload, 1) := by decide +kernel
theorem dX1_takeBack_52 : decode cX1_takeBack 52 = .ok (.invokevirtual 44, 3) := by decide +kernel
theorem dX1_takeBack_55 : decode cX1_takeBack 55 = .ok (.aload_n 0, 1) := by decide +kernel
theorem dX1_takeBack_56 : decode cX1_takeBack 56 = .ok (.invokevirtual 48, 3) := by decide +kernel
theorem dX1_takeBack_59 : decode cX1_takeBack 59 = .ok (.ireturn, 1) := by decide +kernel
theorem dX1_doAgain_0 : decode cX1_doAgain 0 = .ok (.aload_n 0, 1) := by decide +kernel
theorem dX1_doAgain_1 : decode cX1_doAgain 1 = .ok (.getfield 34, 3) := by decide +kernel
theorem dX1_doAgain_4 : decode cX1_doAgain 4 = .ok (.aload_n 0, 1) := by decide +kernel
theorem dX1_doAgain_5 : decode cX1_doAgain 5 = .ok (.getfield 41, 3) := by decide +kernel
theorem dX1_doAgain_8 : decode cX1_doAgain 8 = .ok (.if_icmp .ge 12, 3) := by decide +kernel
theorem dX1_doAgain_11 : decode cX1_doAgain 11 = .ok (.aload_n 0, 1) := by decide +kernel
theorem dX1_doAgain_12 : decode cX1_doAgain 12 = .ok (.getfield 34, 3) := by decide +kernel
theorem dX1_doAgain_15 : decode cX1_doAgain 15 = .ok (.bipush 40, 2) := by decide +kernel
theorem dX1_doAgain_17 : decode cX1_doAgain 17 = .ok (.if_icmp .lt 6, 3) := by decide +kernel
theorem dX1_doAgain_20 : decode cX1_doAgain 20 = .ok (.bipush (-5), 2) := by decide +kernel
theorem dX1_doAgain_22 : decode cX1_doAgain 22 = .ok (.ireturn, 1) := by decide +kernel
theorem dX1_doAgain_23 : decode cX1_doAgain 23 = .ok (.aload_n 0, 1) := by decide +kernel
theorem dX1_doAgain_24 : decode cX1_doAgain 24 = .ok (.getfield 9, 3) := by decide +kernel
theorem dX1_doAgain_27 : decode cX1_doAgain 27 = .ok (.aload_n 0, 1) := by decide +kernel
theorem dX1_doAgain_28 : decode cX1_doAgain 28 = .ok (.getfield 15, 3) := by decide +kernel
theorem dX1_doAgain_31 : decode cX1_doAgain 31 = .ok (.aload_n 0, 1) := by decide +kernel
theorem dX1_doAgain_32 : decode cX1_doAgain 32 = .ok (.getfield 34, 3) := by decide +kernel
theorem dX1_doAgain_35 : decode cX1_doAgain 35 = .ok (.iaload, 1) := by decide +kernel
theorem dX1_doAgain_36 : decode cX1_doAgain 36 = .ok (.aload_n 0, 1) := by decide +kernel
theorem dX1_doAgain_37 : decode cX1_doAgain 37 = .ok (.getfield 19, 3) := by decide +kernel
theorem dX1_doAgain_40 : decode cX1_doAgain 40 = .ok (.aload_n 0, 1) := by decide +kernel
theorem dX1_doAgain_41 : decode cX1_doAgain 41 = .ok (.getfield 34, 3) := by decide +kernel
theorem dX1_doAgain_44 : decode cX1_doAgain 44 = .ok (.iaload, 1) := by decide +kernel
theorem dX1_doAgain_45 : decode cX1_doAgain 45 = .ok (.aload_n 0, 1) := by decide +kernel
theorem dX1_doAgain_46 : decode cX1_doAgain 46 = .ok (.getfield 25, 3) := by decide +kernel
theorem dX1_doAgain_49 : decode cX1_doAgain 49 = .ok (.aload_n 0, 1) := by decide +kernel
theorem dX1_doAgain_50 : decode cX1_doAgain 50 = .ok (.getfield 34, 3) := by decide +kernel
theorem dX1_doAgain_53 : decode cX1_doAgain 53 = .ok (.iaload, 1) := by decide +kernel
theorem dX1_doAgain_54 : decode cX1_doAgain 54 = .ok (.invokevirtual 44, 3) := by decide +kernel
theorem dX1_doAgain_57 : decode cX1_doAgain 57 = .ok (.aload_n 0, 1) := by decide +kernel
theorem dX1_doAgain_58 : decode cX1_doAgain 58 = .ok (.dup, 1) := by decide +kernel
theorem dX1_doAgain_59 : decode cX1_doAgain 59 = .ok (.getfield 34, 3) := by decide +kernel
theorem dX1_doAgain_62 : decode cX1_doAgain 62 = .ok (.iconst 1, 1) := by decide +kernel
theorem dX1_doAgain_63 : decode cX1_doAgain 63 = .ok (.iadd, 1) := by decide +kernel
theorem dX1_doAgain_64 : decode cX1_doAgain 64 = .ok (.putfield 34, 3) := by decide +kernel
theorem dX1_doAgain_67 : decode cX1_doAgain 67 = .ok (.aload_n 0, 1) := by decide +kernel
theorem dX1_doAgain_68 : decode cX1_doAgain 68 = .ok (.invokevirtual 52, 3) := by decide +kernel
theorem dX1_doAgain_71 : decode cX1_doAgain 71 = .ok (.ireturn, 1) := by decide +kernel
theorem dX1_end_0 : decode cX1_end 0 = .ok (.aload_n 0, 1) := by decide +kernel
theorem dX1_end_1 : decode cX1_end 1 = .ok (.iconst 0, 1) := by decide +kernel
theorem dX1_end_2 : decode cX1_end 2 = .ok (.putfield 34, 3) := by decide +kernel
theorem dX1_end_5 : decode cX1_end 5 = .ok (.aload_n 0, 1) := by decide +kernel
theorem dX1_end_6 : decode cX1_end 6 = .ok (.iconst 0, 1) := by decide +kernel
theorem dX1_end_7 : decode cX1_end 7 = .ok (.putfield 41, 3) := by decide +kernel
theorem dX1_end_10 : decode cX1_end 10 = .ok (.return_, 1) := by decide +kernel
theorem dX2_cosine_0 : decode cX2_cosine 0 = .ok (.iload_n 0, 1) := by decide +kernel
theorem dX2_cosine_1 : decode cX2_cosine 1 = .ok (.ifCond .lt 17, 3) := by decide +kernel
theorem dX2_cosine_4 : decode cX2_cosine 4 = .ok (.iload_n 0, 1) := by decide +kernel
theorem dX2_cosine_5 : decode cX2_cosine 5 = .ok (.bipush 12, 2) := by decide +kernel
theorem dX2_cosine_7 : decode cX2_cosine 7 = .ok (.if_icmp .ge 11, 3) := by decide +kernel
theorem dX2_cosine_10 : decode cX2_cosine 10 = .ok (.getstatic 24, 3) := by decide +kernel
theorem dX2_cosine_13 : decode cX2_cosine 13 = .ok (.iload_n 0, 1) := by decide +kernel
theorem dX2_cosine_14 : decode cX2_cosine 14 = .ok (.iaload, 1) := by decide +kernel
theorem dX2_cosine_15 : decode cX2_cosine 15 = .ok (.goto 4, 3) := by decide +kernel
theorem dX2_cosine_18 : decode cX2_cosine 18 = .ok (.iconst 0, 1) := by decide +kernel
theorem dX2_cosine_19 : decode cX2_cosine 19 = .ok (.ireturn, 1) := by decide +kernel
theorem dX2_sine_0 : decode cX2_sine 0 = .ok (.iload_n 0, 1) := by decide +kernel
theorem dX2_sine_1 : decode cX2_sine 1 = .ok (.ifCond .lt 17, 3) := by decide +kernel
theorem dX2_sine_4 : decode cX2_sine 4 = .ok (.iload_n 0, 1) := by decide +kernel
theorem dX2_sine_5 : decode cX2_sine 5 = .ok (.bipush 12, 2) := by decide +kernel
theorem dX2_sine_7 : decode cX2_sine 7 = .ok (.if_icmp .ge 11, 3) := by decide +kernel
theorem dX2_sine_10 : decode cX2_sine 10 = .ok (.getstatic 27, 3) := by decide +kernel
theorem dX2_sine_13 : decode cX2_sine 13 = .ok (.iload_n 0, 1) := by decide +kernel
theorem dX2_sine_14 : decode cX2_sine 14 = .ok (.iaload, 1) := by decide +kernel
theorem dX2_sine_15 : decode cX2_sine 15 = .ok (.goto 4, 3) := by decide +kernel
theorem dX2_sine_18 : decode cX2_sine 18 = .ok (.iconst 0, 1) := by decide +kernel
theorem dX2_sine_19 : decode cX2_sine 19 = .ok (.ireturn, 1) := by decide +kernel
theorem dX2_isLump_0 : decode cX2_isLump 0 = .ok (.iconst 0, 1) := by decide +kernel
theorem dX2_isLump_1 : decode cX2_isLump 1 = .ok (.iload_n 0, 1) := by decide +kernel
theorem dX2_isLump_2 : decode cX2_isLump 2 = .ok (.invokestatic 30, 3) := by decide +kernel
theorem dX2_isLump_5 : decode cX2_isLump 5 = .ok (.ifCond .eq 33, 3) := by decide +kernel
theorem dX2_isLump_8 : decode cX2_isLump 8 = .ok (.iconst 1, 1) := by decide +kernel
theorem dX2_isLump_9 : decode cX2_isLump 9 = .ok (.iload_n 1, 1) := by decide +kernel
theorem dX2_isLump_10 : decode cX2_isLump 10 = .ok (.invokestatic 30, 3) := by decide +kernel
theorem dX2_isLump_13 : decode cX2_isLump 13 = .ok (.ifCond .eq 25, 3) := by decide +kernel
theorem dX2_isLump_16 : decode cX2_isLump 16 = .ok (.iconst 2, 1) := by decide +kernel
theorem dX2_isLump_17 : decode cX2_isLump 17 = .ok (.iload_n 2, 1) := by decide +kernel
theorem dX2_isLump_18 : decode cX2_isLump 18 = .ok (.invokestatic 30, 3) := by decide +kernel
theorem dX2_isLump_21 : decode cX2_isLump 21 = .ok (.ifCond .eq 17, 3) := by decide +kernel
theorem dX2_isLump_24 : decode cX2_isLump 24 = .ok (.iload_n 3, 1) := by decide +kernel
theorem dX2_isLump_25 : decode cX2_isLump 25 = .ok (.ifCond .lt 13, 3) := by decide +kernel
theorem dX2_isLump_28 : decode cX2_isLump 28 = .ok (.iload_n 3, 1) := by decide +kernel
theorem dX2_isLump_29 : decode cX2_isLump 29 = .ok (.bipush 9, 2) := by decide +kernel
theorem dX2_isLump_31 : decode cX2_isLump 31 = .ok (.if_icmp .gt 7, 3) := by decide +kernel
theorem dX2_isLump_34 : decode cX2_isLump 34 = .ok (.iconst 1, 1) := by decide +kernel
theorem dX2_isLump_35 : decode cX2_isLump 35 = .ok (.goto 4, 3) := by decide +kernel
theorem dX2_isLump_38 : decode cX2_isLump 38 = .ok (.iconst 0, 1) := by decide +kernel
theorem dX2_isLump_39 : decode cX2_isLump 39 = .ok (.ireturn, 1) := by decide +kernel
theorem dX2_isTold_0 : decode cX2_isTold 0 = .ok (.iload_n 0, 1) := by decide +kernel
theorem dX2_isTold_1 : decode cX2_isTold 1 = .ok (.tableswitch 76 0 2 #[27, 44, 60], 27) := by decide +kernel
theorem dX2_isTold_28 : decode cX2_isTold 28 = .ok (.iload_n 1, 1) := by decide +kernel
theorem dX2_isTold_29 : decode cX2_isTold 29 = .ok (.iconst 1, 1) := by decide +kernel
theorem dX2_isTold_30 : decode cX2_isTold 30 = .ok (.if_icmp .lt 13, 3) := by decide +kernel
theorem dX2_isTold_33 : decode cX2_isTold 33 = .ok (.iload_n 1, 1) := by decide +kernel
theorem dX2_isTold_34 : decode cX2_isTold 34 = .ok (.bipush 50, 2) := by decide +kernel
theorem dX2_isTold_36 : decode cX2_isTold 36 = .ok (.if_icmp .gt 7, 3) := by decide +kernel
theorem dX2_isTold_39 : decode cX2_isTold 39 = .ok (.iconst 1, 1) := by decide +kernel
theorem dX2_isTold_40 : decode cX2_isTold 40 = .ok (.goto 4, 3) := by decide +kernel
theorem dX2_isTold_43 : decode cX2_isTold 43 = .ok (.iconst 0, 1) := by decide +kernel
theorem dX2_isTold_44 : decode cX2_isTold 44 = .ok (.ireturn, 1) := by decide +kernel
theorem dX2_isTold_45 : decode cX2_isTold 45 = .ok (.iload_n 1, 1) := by decide +kernel
theorem dX2_isTold_46 : decode cX2_isTold 46 = .ok (.ifCond .lt 13, 3) := by decide +kernel
theorem dX2_isTold_49 : decode cX2_isTold 49 = .ok (.iload_n 1, 1) := by decide +kernel
theorem dX2_isTold_50 : decode cX2_isTold 50 = .ok (.bipush 99, 2) := by decide +kernel
theorem dX2_isTold_52 : decode cX2_isTold 52 = .ok (.if_icmp .gt 7, 3) := by decide +kernel
theorem dX2_isTold_55 : decode cX2_isTold 55 = .ok (.iconst 1, 1) := by decide +kernel
theorem dX2_isTold_56 : decode cX2_isTold 56 = .ok (.goto 4, 3) := by decide +kernel
theorem dX2_isTold_59 : decode cX2_isTold 59 = .ok (.iconst 0, 1) := by decide +kernel
theorem dX2_isTold_60 : decode cX2_isTold 60 = .ok (.ireturn, 1) := by decide +kernel
theorem dX2_isTold_61 : decode cX2_isTold 61 = .ok (.iload_n 1, 1) := by decide +kernel
theorem dX2_isTold_62 : decode cX2_isTold 62 = .ok (.ifCond .lt 13, 3) := by decide +kernel
theorem dX2_isTold_65 : decode cX2_isTold 65 = .ok (.iload_n 1, 1) := by decide +kernel
theorem dX2_isTold_66 : decode cX2_isTold 66 = .ok (.bipush 12, 2) := by decide +kernel
theorem dX2_isTold_68 : decode cX2_isTold 68 = .ok (.if_icmp .ge 7, 3) := by decide +kernel
theorem dX2_isTold_71 : decode cX2_isTold 71 = .ok (.iconst 1, 1) := by decide +kernel
theorem dX2_isTold_72 : decode cX2_isTold 72 = .ok (.goto 4, 3) := by decide +kernel
theorem dX2_isTold_75 : decode cX2_isTold 75 = .ok (.iconst 0, 1) := by decide +kernel
theorem dX2_isTold_76 : decode cX2_isTold 76 = .ok (.ireturn, 1) := by decide +kernel
theorem dX2_isTold_77 : decode cX2_isTold 77 = .ok (.iconst 0, 1) := by decide +kernel
theorem dX2_isTold_78 : decode cX2_isTold 78 = .ok (.ireturn, 1) := by decide +kernel
theorem dX2_isCounter_0 : decode cX2_isCounter 0 = .ok (.iload_n 0, 1) := by decide +kernel
theorem dX2_isCounter_1 : decode cX2_isCounter 1 = .ok (.ifCond .lt 25, 3) := by decide +kernel
theorem dX2_isCounter_4 : decode cX2_isCounter 4 = .ok (.iload_n 0, 1) := by decide +kernel
theorem dX2_isCounter_5 : decode cX2_isCounter 5 = .ok (.bipush 100, 2) := by decide +kernel
theorem dX2_isCounter_7 : decode cX2_isCounter 7 = .ok (.idiv, 1) := by decide +kernel
theorem dX2_isCounter_8 : decode cX2_isCounter 8 = .ok (.bipush 99, 2) := by decide +kernel
theorem dX2_isCounter_10 : decode cX2_isCounter 10 = .ok (.if_icmp .gt 16, 3) := by decide +kernel
theorem dX2_isCounter_13 : decode cX2_isCounter 13 = .ok (.iload_n 0, 1) := by decide +kernel
theorem dX2_isCounter_14 : decode cX2_isCounter 14 = .ok (.bipush 100, 2) := by decide +kernel
theorem dX2_isCounter_16 : decode cX2_isCounter 16 = .ok (.irem, 1) := by decide +kernel
theorem dX2_isCounter_17 : decode cX2_isCounter 17 = .ok (.bipush 12, 2) := by decide +kernel
theorem dX2_isCounter_19 : decode cX2_isCounter 19 = .ok (.if_icmp .ge 7, 3) := by decide +kernel
theorem dX2_isCounter_22 : decode cX2_isCounter 22 = .ok (.iconst 1, 1) := by decide +kernel
theorem dX2_isCounter_23 : decode cX2_isCounter 23 = .ok (.goto 4, 3) := by decide +kernel
theorem dX2_isCounter_26 : decode cX2_isCounter 26 = .ok (.iconst 0, 1) := by decide +kernel
theorem dX2_isCounter_27 : decode cX2_isCounter 27 = .ok (.ireturn, 1) := by decide +kernel
theorem dX2_isFull_0 : decode cX2_isFull 0 = .ok (.aload_n 0, 1) := by decide +kernel
theorem dX2_isFull_1 : decode cX2_isFull 1 = .ok (.getfield 34, 3) := by decide +kernel
theorem dX2_isFull_4 : decode cX2_isFull 4 = .ok (.bipush 12, 2) := by decide +kernel
theorem dX2_isFull_6 : decode cX2_isFull 6 = .ok (.if_icmp .lt 7, 3) := by decide +kernel
theorem dX2_isFull_9 : decode cX2_isFull 9 = .ok (.iconst 1, 1) := by decide +kernel
theorem dX2_isFull_10 : decode cX2_isFull 10 = .ok (.goto 4, 3) := by decide +kernel
theorem dX2_isFull_13 : decode cX2_isFull 13 = .ok (.iconst 0, 1) := by decide +kernel
theorem dX2_isFull_14 : decode cX2_isFull 14 = .ok (.ireturn, 1) := by decide +kernel
theorem dX2_hasLump_0 : decode cX2_hasLump 0 = .ok (.iload_n 1, 1) := by decide +kernel
theorem dX2_hasLump_1 : decode cX2_hasLump 1 = .ok (.ifCond .lt 15, 3) := by decide +kernel
theorem dX2_hasLump_4 : decode cX2_hasLump 4 = .ok (.iload_n 1, 1) := by decide +kernel
theorem dX2_hasLump_5 : decode cX2_hasLump 5 = .ok (.aload_n 0, 1) := by decide +kernel
theorem dX2_hasLump_6 : decode cX2_hasLump 6 = .ok (.getfield 34, 3) := by decide +kernel
theorem dX2_hasLump_9 : decode cX2_hasLump 9 = .ok (.if_icmp .ge 7, 3) := by decide +kernel
theorem dX2_hasLump_12 : decode cX2_hasLump 12 = .ok (.iconst 1, 1) := by decide +kernel
theorem dX2_hasLump_13 : decode cX2_hasLump 13 = .ok (.goto 4, 3) := by decide +kernel
theorem dX2_hasLump_16 : decode cX2_hasLump 16 = .ok (.iconst 0, 1) := by decide +kernel
theorem dX2_hasLump_17 : decode cX2_hasLump 17 = .ok (.ireturn, 1) := by decide +kernel
theorem dX2_join_0 : decode cX2_join 0 = .ok (.aload_n 0, 1) := by decide +kernel
theorem dX2_join_1 : decode cX2_join 1 = .ok (.getfield 34, 3) := by decide +kernel
theorem dX2_join_4 : decode cX2_join 4 = .ok (.bipush 12, 2) := by decide +kernel
theorem dX2_join_6 : decode cX2_join 6 = .ok (.if_icmp .lt 6, 3) := by decide +kernel
theorem dX2_join_9 : decode cX2_join 9 = .ok (.bipush (-3), 2) := by decide +kernel
theorem dX2_join_11 : decode cX2_join 11 = .ok (.ireturn, 1) := by decide +kernel
theorem dX2_join_12 : decode cX2_join 12 = .ok (.aload_n 0, 1) := by decide +kernel
theorem dX2_join_13 : decode cX2_join 13 = .ok (.getfield 11, 3) := by decide +kernel
theorem dX2_join_16 : decode cX2_join 16 = .ok (.aload_n 0, 1) := by decide +kernel
theorem dX2_join_17 : decode cX2_join 17 = .ok (.getfield 34, 3) := by decide +kernel
theorem dX2_join_20 : decode cX2_join 20 = .ok (.iload_n 1, 1) := by decide +kernel
theorem dX2_join_21 : decode cX2_join 21 = .ok (.iastore, 1) := by decide +kernel
theorem dX2_join_22 : decode cX2_join 22 = .ok (.aload_n 0, 1) := by decide +kernel
theorem dX2_join_23 : decode cX2_join 23 = .ok (.getfield 15, 3) := by decide +kernel
theorem dX2_join_26 : decode cX2_join 26 = .ok (.aload_n 0, 1) := by decide +kernel
theorem dX2_join_27 : decode cX2_join 27 = .ok (.getfield 34, 3) := by decide +kernel
theorem dX2_join_30 : decode cX2_join 30 = .ok (.iload_n 2, 1) := by decide +kernel
theorem dX2_join_31 : decode cX2_join 31 = .ok (.iastore, 1) := by decide +kernel
theorem dX2_join_32 : decode cX2_join 32 = .ok (.aload_n 0, 1) := by decide +kernel
theorem dX2_join_33 : decode cX2_join 33 = .ok (.getfield 18, 3) := by decide +kernel
theorem dX2_join_36 : decode cX2_join 36 = .ok (.aload_n 0, 1) := by decide +kernel
theorem dX2_join_37 : decode cX2_join 37 = .ok (.getfield 34, 3) := by decide +kernel
theorem dX2_join_40 : decode cX2_join 40 = .ok (.iload_n 3, 1) := by decide +kernel
theorem dX2_join_41 : decode cX2_join 41 = .ok (.iastore, 1) := by decide +kernel
theorem dX2_join_42 : decode cX2_join 42 = .ok (.aload_n 0, 1) := by decide +kernel
theorem dX2_join_43 : decode cX2_join 43 = .ok (.getfield 21, 3) := by decide +kernel
theorem dX2_join_46 : decode cX2_join 46 = .ok (.aload_n 0, 1) := by decide +kernel
theorem dX2_join_47 : decode cX2_join 47 = .ok (.getfield 34, 3) := by decide +kernel
theorem dX2_join_50 : decode cX2_join 50 = .ok (.iload 4, 2) := by decide +kernel
theorem dX2_join_52 : decode cX2_join 52 = .ok (.iastore, 1) := by decide +kernel
theorem dX2_join_53 : decode cX2_join 53 = .ok (.aload_n 0, 1) := by decide +kernel
theorem dX2_join_54 : decode cX2_join 54 = .ok (.dup, 1) := by decide +kernel
theorem dX2_join_55 : decode cX2_join 55 = .ok (.getfield 34, 3) := by decide +kernel
theorem dX2_join_58 : decode cX2_join 58 = .ok (.iconst 1, 1) := by decide +kernel
theorem dX2_join_59 : decode cX2_join 59 = .ok (.iadd, 1) := by decide +kernel
theorem dX2_join_60 : decode cX2_join 60 = .ok (.putfield 34, 3) := by decide +kernel
theorem dX2_join_63 : decode cX2_join 63 = .ok (.aload_n 0, 1) := by decide +kernel
theorem dX2_join_64 : decode cX2_join 64 = .ok (.getfield 34, 3) := by decide +kernel
theorem dX2_join_67 : decode cX2_join 67 = .ok (.iconst 1, 1) := by decide +kernel
theorem dX2_join_68 : decode cX2_join 68 = .ok (.isub, 1) := by decide +kernel
theorem dX2_join_69 : decode cX2_join 69 = .ok (.ireturn, 1) := by decide +kernel
theorem dX2_told_0 : decode cX2_told 0 = .ok (.iload_n 2, 1) := by decide +kernel
theorem dX2_told_1 : decode cX2_told 1 = .ok (.iconst 4, 1) := by decide +kernel
theorem dX2_told_2 : decode cX2_told 2 = .ok (.if_icmp .ne 8, 3) := by decide +kernel
theorem dX2_told_5 : decode cX2_told 5 = .ok (.aload_n 0, 1) := by decide +kernel
theorem dX2_told_6 : decode cX2_told 6 = .ok (.getfield 38, 3) := by decide +kernel
theorem dX2_told_9 : decode cX2_told 9 = .ok (.ireturn, 1) := by decide +kernel
theorem dX2_told_10 : decode cX2_told 10 = .ok (.aload_n 0, 1) := by decide +kernel
theorem dX2_told_11 : decode cX2_told 11 = .ok (.iload_n 1, 1) := by decide +kernel
theorem dX2_told_12 : decode cX2_told 12 = .ok (.invokevirtual 41, 3) := by decide +kernel
theorem dX2_told_15 : decode cX2_told 15 = .ok (.ifCond .ne 5, 3) := by decide +kernel
theorem dX2_told_18 : decode cX2_told 18 = .ok (.iconst (-1), 1) := by decide +kernel
theorem dX2_told_19 : decode cX2_told 19 = .ok (.ireturn, 1) := by decide +kernel
theorem dX2_told_20 : decode cX2_told 20 = .ok (.iload_n 2, 1) := by decide +kernel
theorem dX2_told_21 : decode cX2_told 21 = .ok (.tableswitch 59 0 3 #[31, 38, 45, 52], 31) := by decide +kernel
theorem dX2_told_52 : decode cX2_told 52 = .ok (.aload_n 0, 1) := by decide +kernel
theorem dX2_told_53 : decode cX2_told 53 = .ok (.getfield 11, 3) := by decide +kernel
theorem dX2_told_56 : decode cX2_told 56 = .ok (.iload_n 1, 1) := by decide +kernel
theorem dX2_told_57 : decode cX2_told 57 = .ok (.iaload, 1) := by decide +kernel
theorem dX2_told_58 : decode cX2_told 58 = .ok (.ireturn, 1) := by decide +kernel
theorem dX2_told_59 : decode cX2_told 59 = .ok (.aload_n 0, 1) := by decide +kernel
theorem dX2_told_60 : decode cX2_told 60 = .ok (.getfield 15, 3) := by decide +kernel
theorem dX2_told_63 : decode cX2_told 63 = .ok (.iload_n 1, 1) := by decide +kernel
theorem dX2_told_64 : decode cX2_told 64 = .ok (.iaload, 1) := by decide +kernel
theorem dX2_told_65 : decode cX2_told 65 = .ok (.ireturn, 1) := by decide +kernel
theorem dX2_told_66 : decode cX2_told 66 = .ok (.aload_n 0, 1) := by decide +kernel
theorem dX2_told_67 : decode cX2_told 67 = .ok (.getfield 18, 3) := by decide +kernel
theorem dX2_told_70 : decode cX2_told 70 = .ok (.iload_n 1, 1) := by decide +kernel
theorem dX2_told_71 : decode cX2_told 71 = .ok (.iaload, 1) := by decide +kernel
theorem dX2_told_72 : decode cX2_told 72 = .ok (.ireturn, 1) := by decide +kernel
theorem dX2_told_73 : decode cX2_told 73 = .ok (.aload_n 0, 1) := by decide +kernel
theorem dX2_told_74 : decode cX2_told 74 = .ok (.getfield 21, 3) := by decide +kernel
theorem dX2_told_77 : decode cX2_told 77 = .ok (.iload_n 1, 1) := by decide +kernel
theorem dX2_told_78 : decode cX2_told 78 = .ok (.iaload, 1) := by decide +kernel
theorem dX2_told_79 : decode cX2_told 79 = .ok (.ireturn, 1) := by decide +kernel
theorem dX2_told_80 : decode cX2_told 80 = .ok (.iconst (-1), 1) := by decide +kernel
theorem dX2_told_81 : decode cX2_told 81 = .ok (.ireturn, 1) := by decide +kernel
theorem dX2_tell_0 : decode cX2_tell 0 = .ok (.iload_n 2, 1) := by decide +kernel
theorem dX2_tell_1 : decode cX2_tell 1 = .ok (.iconst 4, 1) := by decide +kernel
theorem dX2_tell_2 : decode cX2_tell 2 = .ok (.if_icmp .ne 8, 3) := by decide +kernel
theorem dX2_tell_5 : decode cX2_tell 5 = .ok (.aload_n 0, 1) := by decide +kernel
theorem dX2_tell_6 : decode cX2_tell 6 = .ok (.iload_n 3, 1) := by decide +kernel
theorem dX2_tell_7 : decode cX2_tell 7 = .ok (.putfield 38, 3) := by decide +kernel
theorem dX2_tell_10 : decode cX2_tell 10 = .ok (.aload_n 0, 1) := by decide +kernel
theorem dX2_tell_11 : decode cX2_tell 11 = .ok (.iload_n 1, 1) := by decide +kernel
theorem dX2_tell_12 : decode cX2_tell 12 = .ok (.invokevirtual 41, 3) := by decide +kernel
theorem dX2_tell_15 : decode cX2_tell 15 = .ok (.ifCond .ne 4, 3) := by decide +kernel
theorem dX2_tell_18 : decode cX2_tell 18 = .ok (.return_, 1) := by decide +kernel
theorem dX2_tell_19 : decode cX2_tell 19 = .ok (.iload_n 2, 1) := by decide +kernel
theorem dX2_tell_20 : decode cX2_tell 20 = .ok (.ifCond .ne 10, 3) := by decide +kernel
theorem dX2_tell_23 : decode cX2_tell 23 = .ok (.aload_n 0, 1) := by decide +kernel
theorem dX2_tell_24 : decode cX2_tell 24 = .ok (.getfield 11, 3) := by decide +kernel
theorem dX2_tell_27 : decode cX2_tell 27 = .ok (.iload_n 1, 1) := by decide +kernel
theorem dX2_tell_28 : decode cX2_tell 28 = .ok (.iload_n 3, 1) := by decide +kernel
theorem dX2_tell_29 : decode cX2_tell 29 = .ok (.iastore, 1) := by decide +kernel
theorem dX2_tell_30 : decode cX2_tell 30 = .ok (.iload_n 2, 1) := by decide +kernel
theorem dX2_tell_31 : decode cX2_tell 31 = .ok (.iconst 1, 1) := by decide +kernel
theorem dX2_tell_32 : decode cX2_tell 32 = .ok (.if_icmp .ne 10, 3) := by decide +kernel
theorem dX2_tell_35 : decode cX2_tell 35 = .ok (.aload_n 0, 1) := by decide +kernel
theorem dX2_tell_36 : decode cX2_tell 36 = .ok (.getfield 15, 3) := by decide +kernel
theorem dX2_tell_39 : decode cX2_tell 39 = .ok (.iload_n 1, 1) := by decide +kernel
theorem dX2_tell_40 : decode cX2_tell 40 = .ok (.iload_n 3, 1) := by decide +kernel
theorem dX2_tell_41 : decode cX2_tell 41 = .ok (.iastore, 1) := by decide +kernel
theorem dX2_tell_42 : decode cX2_tell 42 = .ok (.iload_n 2, 1) := by decide +kernel
theorem dX2_tell_43 : decode cX2_tell 43 = .ok (.iconst 2, 1) := by decide +kernel
theorem dX2_tell_44 : decode cX2_tell 44 = .ok (.if_icmp .ne 10, 3) := by decide +kernel
theorem dX2_tell_47 : decode cX2_tell 47 = .ok (.aload_n 0, 1) := by decide +kernel
theorem dX2_tell_48 : decode cX2_tell 48 = .ok (.getfield 18, 3) := by decide +kernel
theorem dX2_tell_51 : decode cX2_tell 51 = .ok (.iload_n 1, 1) := by decide +kernel
theorem dX2_tell_52 : decode cX2_tell 52 = .ok (.iload_n 3, 1) := by decide +kernel
theorem dX2_tell_53 : decode cX2_tell 53 = .ok (.iastore, 1) := by decide +kernel
theorem dX2_tell_54 : decode cX2_tell 54 = .ok (.return_, 1) := by decide +kernel
theorem dX2_lieAs_0 : decode cX2_lieAs 0 = .ok (.aload_n 0, 1) := by decide +kernel
theorem dX2_lieAs_1 : decode cX2_lieAs 1 = .ok (.aload_n 1, 1) := by decide +kernel
theorem dX2_lieAs_2 : decode cX2_lieAs 2 = .ok (.getfield 34, 3) := by decide +kernel
theorem dX2_lieAs_5 : decode cX2_lieAs 5 = .ok (.putfield 34, 3) := by decide +kernel
theorem dX2_lieAs_8 : decode cX2_lieAs 8 = .ok (.aload_n 0, 1) := by decide +kernel
theorem dX2_lieAs_9 : decode cX2_lieAs 9 = .ok (.aload_n 1, 1) := by decide +kernel
theorem dX2_lieAs_10 : decode cX2_lieAs 10 = .ok (.getfield 38, 3) := by decide +kernel
theorem dX2_lieAs_13 : decode cX2_lieAs 13 = .ok (.putfield 38, 3) := by decide +kernel
theorem dX2_lieAs_16 : decode cX2_lieAs 16 = .ok (.iconst 0, 1) := by decide +kernel
theorem dX2_lieAs_17 : decode cX2_lieAs 17 = .ok (.istore_n 2, 1) := by decide +kernel
theorem dX2_lieAs_18 : decode cX2_lieAs 18 = .ok (.iload_n 2, 1) := by decide +kernel
theorem dX2_lieAs_19 : decode cX2_lieAs 19 = .ok (.aload_n 0, 1) := by decide +kernel
theorem dX2_lieAs_20 : decode cX2_lieAs 20 = .ok (.getfield 34, 3) := by decide +kernel
theorem dX2_lieAs_23 : decode cX2_lieAs 23 = .ok (.if_icmp .ge 63, 3) := by decide +kernel
theorem dX2_lieAs_26 : decode cX2_lieAs 26 = .ok (.iload_n 2, 1) := by decide +kernel
theorem dX2_lieAs_27 : decode cX2_lieAs 27 = .ok (.bipush 12, 2) := by decide +kernel
theorem dX2_lieAs_29 : decode cX2_lieAs 29 = .ok (.if_icmp .ge 57, 3) := by decide +kernel
theorem dX2_lieAs_32 : decode cX2_lieAs 32 = .ok (.aload_n 0, 1) := by decide +kernel
theorem dX2_lieAs_33 : decode cX2_lieAs 33 = .ok (.getfield 11, 3) := by decide +kernel
theorem dX2_lieAs_36 : decode cX2_lieAs 36 = .ok (.iload_n 2, 1) := by decide +kernel
theorem dX2_lieAs_37 : decode cX2_lieAs 37 = .ok (.aload_n 1, 1) := by decide +kernel
theorem dX2_lieAs_38 : decode cX2_lieAs 38 = .ok (.getfield 11, 3) := by decide +kernel
theorem dX2_lieAs_41 : decode cX2_lieAs 41 = .ok (.iload_n 2, 1) := by decide +kernel
theorem dX2_lieAs_42 : decode cX2_lieAs 42 = .ok (.iaload, 1) := by decide +kernel
theorem dX2_lieAs_43 : decode cX2_lieAs 43 = .ok (.iastore, 1) := by decide +kernel
theorem dX2_lieAs_44 : decode cX2_lieAs 44 = .ok (.aload_n 0, 1) := by decide +kernel
theorem dX2_lieAs_45 : decode cX2_lieAs 45 = .ok (.getfield 15, 3) := by decide +kernel
theorem dX2_lieAs_48 : decode cX2_lieAs 48 = .ok (.iload_n 2, 1) := by decide +kernel
theorem dX2_lieAs_49 : decode cX2_lieAs 49 = .ok (.aload_n 1, 1) := by decide +kernel
theorem dX2_lieAs_50 : decode cX2_lieAs 50 = .ok (.getfield 15, 3) := by decide +kernel
theorem dX2_lieAs_53 : decode cX2_lieAs 53 = .ok (.iload_n 2, 1) := by decide +kernel
theorem dX2_lieAs_54 : decode cX2_lieAs 54 = .ok (.iaload, 1) := by decide +kernel
theorem dX2_lieAs_55 : decode cX2_lieAs 55 = .ok (.iastore, 1) := by decide +kernel
theorem dX2_lieAs_56 : decode cX2_lieAs 56 = .ok (.aload_n 0, 1) := by decide +kernel
theorem dX2_lieAs_57 : decode cX2_lieAs 57 = .ok (.getfield 18, 3) := by decide +kernel
theorem dX2_lieAs_60 : decode cX2_lieAs 60 = .ok (.iload_n 2, 1) := by decide +kernel
theorem dX2_lieAs_61 : decode cX2_lieAs 61 = .ok (.aload_n 1, 1) := by decide +kernel
theorem dX2_lieAs_62 : decode cX2_lieAs 62 = .ok (.getfield 18, 3) := by decide +kernel
theorem dX2_lieAs_65 : decode cX2_lieAs 65 = .ok (.iload_n 2, 1) := by decide +kernel
theorem dX2_lieAs_66 : decode cX2_lieAs 66 = .ok (.iaload, 1) := by decide +kernel
theorem dX2_lieAs_67 : decode cX2_lieAs 67 = .ok (.iastore, 1) := by decide +kernel
theorem dX2_lieAs_68 : decode cX2_lieAs 68 = .ok (.aload_n 0, 1) := by decide +kernel
theorem dX2_lieAs_69 : decode cX2_lieAs 69 = .ok (.getfield 21, 3) := by decide +kernel
theorem dX2_lieAs_72 : decode cX2_lieAs 72 = .ok (.iload_n 2, 1) := by decide +kernel
theorem dX2_lieAs_73 : decode cX2_lieAs 73 = .ok (.aload_n 1, 1) := by decide +kernel
theorem dX2_lieAs_74 : decode cX2_lieAs 74 = .ok (.getfield 21, 3) := by decide +kernel
theorem dX2_lieAs_77 : decode cX2_lieAs 77 = .ok (.iload_n 2, 1) := by decide +kernel
theorem dX2_lieAs_78 : decode cX2_lieAs 78 = .ok (.iaload, 1) := by decide +kernel
theorem dX2_lieAs_79 : decode cX2_lieAs 79 = .ok (.iastore, 1) := by decide +kernel
theorem dX2_lieAs_80 : decode cX2_lieAs 80 = .ok (.iinc 2 1, 3) := by decide +kernel
theorem dX2_lieAs_83 : decode cX2_lieAs 83 = .ok (.goto (-65), 3) := by decide +kernel
theorem dX2_lieAs_86 : decode cX2_lieAs 86 = .ok (.return_, 1) := by decide +kernel
theorem dX2_tumble_0 : decode cX2_tumble 0 = .ok (.iload_n 1, 1) := by decide +kernel
theorem dX2_tumble_1 : decode cX2_tumble 1 = .ok (.istore_n 2, 1) := by decide +kernel
theorem dX2_tumble_2 : decode cX2_tumble 2 = .ok (.iconst 0, 1) := by decide +kernel
theorem dX2_tumble_3 : decode cX2_tumble 3 = .ok (.istore_n 3, 1) := by decide +kernel
theorem dX2_tumble_4 : decode cX2_tumble 4 = .ok (.iload_n 3, 1) := by decide +kernel
theorem dX2_tumble_5 : decode cX2_tumble 5 = .ok (.aload_n 0, 1) := by decide +kernel
theorem dX2_tumble_6 : decode cX2_tumble 6 = .ok (.getfield 34, 3) := by decide +kernel
theorem dX2_tumble_9 : decode cX2_tumble 9 = .ok (.if_icmp .ge 27, 3) := by decide +kernel
theorem dX2_tumble_12 : decode cX2_tumble 12 = .ok (.iload_n 2, 1) := by decide +kernel
theorem dX2_tumble_13 : decode cX2_tumble 13 = .ok (.invokestatic 45, 3) := by decide +kernel
theorem dX2_tumble_16 : decode cX2_tumble 16 = .ok (.istore_n 2, 1) := by decide +kernel
theorem dX2_tumble_17 : decode cX2_tumble 17 = .ok (.aload_n 0, 1) := by decide +kernel
theorem dX2_tumble_18 : decode cX2_tumble 18 = .ok (.getfield 18, 3) := by decide +kernel
theorem dX2_tumble_21 : decode cX2_tumble 21 = .ok (.iload_n 3, 1) := by decide +kernel
theorem dX2_tumble_22 : decode cX2_tumble 22 = .ok (.iload_n 2, 1) := by decide +kernel
theorem dX2_tumble_23 : decode cX2_tumble 23 = .ok (.bipush 8, 2) := by decide +kernel
theorem dX2_tumble_25 : decode cX2_tumble 25 = .ok (.iushr, 1) := by decide +kernel
theorem dX2_tumble_26 : decode cX2_tumble 26 = .ok (.bipush 12, 2) := by decide +kernel
theorem dX2_tumble_28 : decode cX2_tumble 28 = .ok (.irem, 1) := by decide +kernel
theorem dX2_tumble_29 : decode cX2_tumble 29 = .ok (.iastore, 1) := by decide +kernel
theorem dX2_tumble_30 : decode cX2_tumble 30 = .ok (.iinc 3 1, 3) := by decide +kernel
theorem dX2_tumble_33 : decode cX2_tumble 33 = .ok (.goto (-29), 3) := by decide +kernel
theorem dX2_tumble_36 : decode cX2_tumble 36 = .ok (.iload_n 2, 1) := by decide +kernel
theorem dX2_tumble_37 : decode cX2_tumble 37 = .ok (.ireturn, 1) := by decide +kernel
theorem dX2_drawn_0 : decode cX2_drawn 0 = .ok (.iload_n 0, 1) := by decide +kernel
theorem dX2_drawn_1 : decode cX2_drawn 1 = .ok (.ldc 49, 2) := by decide +kernel
theorem dX2_drawn_3 : decode cX2_drawn 3 = .ok (.imul, 1) := by decide +kernel
theorem dX2_drawn_4 : decode cX2_drawn 4 = .ok (.sipush 12345, 3) := by decide +kernel
theorem dX2_drawn_7 : decode cX2_drawn 7 = .ok (.iadd, 1) := by decide +kernel
theorem dX2_drawn_8 : decode cX2_drawn 8 = .ok (.ireturn, 1) := by decide +kernel
theorem dX2_across_0 : decode cX2_across 0 = .ok (.aload_n 0, 1) := by decide +kernel
theorem dX2_across_1 : decode cX2_across 1 = .ok (.getfield 38, 3) := by decide +kernel
theorem dX2_across_4 : decode cX2_across 4 = .ok (.bipush 100, 2) := by decide +kernel
theorem dX2_across_6 : decode cX2_across 6 = .ok (.idiv, 1) := by decide +kernel
theorem dX2_across_7 : decode cX2_across 7 = .ok (.aload_n 0, 1) := by decide +kernel
theorem dX2_across_8 : decode cX2_across 8 = .ok (.getfield 38, 3) := by decide +kernel
theorem dX2_across_11 : decode cX2_across 11 = .ok (.bipush 100, 2) := by decide +kernel
theorem dX2_across_13 : decode cX2_across 13 = .ok (.irem, 1) := by decide +kernel
theorem dX2_across_14 : decode cX2_across 14 = .ok (.invokestatic 50, 3) := by decide +kernel
theorem dX2_across_17 : decode cX2_across 17 = .ok (.imul, 1) := by decide +kernel
theorem dX2_across_18 : decode cX2_across 18 = .ok (.bipush 10, 2) := by decide +kernel
theorem dX2_across_20 : decode cX2_across 20 = .ok (.idiv, 1) := by decide +kernel
theorem dX2_across_21 : decode cX2_across 21 = .ok (.istore_n 1, 1) := by decide +kernel
theorem dX2_across_22 : decode cX2_across 22 = .ok (.iconst 0, 1) := by decide +kernel
theorem dX2_across_23 : decode cX2_across 23 = .ok (.istore_n 2, 1) := by decide +kernel
theorem dX2_across_24 : decode cX2_across 24 = .ok (.iload_n 2, 1) := by decide +kernel
theorem dX2_across_25 : decode cX2_across 25 = .ok (.aload_n 0, 1) := by decide +kernel
theorem dX2_across_26 : decode cX2_across 26 = .ok (.getfield 34, 3) := by decide +kernel
theorem dX2_across_29 : decode cX2_across 29 = .ok (.if_icmp .ge 38, 3) := by decide +kernel
theorem dX2_across_32 : decode cX2_across 32 = .ok (.iload_n 1, 1) := by decide +kernel
theorem dX2_across_33 : decode cX2_across 33 = .ok (.aload_n 0, 1) := by decide +kernel
theorem dX2_across_34 : decode cX2_across 34 = .ok (.getfield 11, 3) := by decide +kernel
theorem dX2_across_37 : decode cX2_across 37 = .ok (.iload_n 2, 1) := by decide +kernel
theorem dX2_across_38 : decode cX2_across 38 = .ok (.iaload, 1) := by decide +kernel
theorem dX2_across_39 : decode cX2_across 39 = .ok (.aload_n 0, 1) := by decide +kernel
theorem dX2_across_40 : decode cX2_across 40 = .ok (.getfield 15, 3) := by decide +kernel
theorem dX2_across_43 : decode cX2_across 43 = .ok (.iload_n 2, 1) := by decide +kernel
theorem dX2_across_44 : decode cX2_across 44 = .ok (.iaload, 1) := by decide +kernel
theorem dX2_across_45 : decode cX2_across 45 = .ok (.iadd, 1) := by decide +kernel
theorem dX2_across_46 : decode cX2_across 46 = .ok (.aload_n 0, 1) := by decide +kernel
theorem dX2_across_47 : decode cX2_across 47 = .ok (.getfield 18, 3) := by decide +kernel
theorem dX2_across_50 : decode cX2_across 50 = .ok (.iload_n 2, 1) := by decide +kernel
theorem dX2_across_51 : decode cX2_across 51 = .ok (.iaload, 1) := by decide +kernel
theorem dX2_across_52 : decode cX2_across 52 = .ok (.invokestatic 50, 3) := by decide +kernel
theorem dX2_across_55 : decode cX2_across 55 = .ok (.imul, 1) := by decide +kernel
theorem dX2_across_56 : decode cX2_across 56 = .ok (.bipush 10, 2) := by decide +kernel
theorem dX2_across_58 : decode cX2_across 58 = .ok (.idiv, 1) := by decide +kernel
theorem dX2_across_59 : decode cX2_across 59 = .ok (.iadd, 1) := by decide +kernel
theorem dX2_across_60 : decode cX2_across 60 = .ok (.istore_n 1, 1) := by decide +kernel
theorem dX2_across_61 : decode cX2_across 61 = .ok (.iinc 2 1, 3) := by decide +kernel
theorem dX2_across_64 : decode cX2_across 64 = .ok (.goto (-40), 3) := by decide +kernel
theorem dX2_across_67 : decode cX2_across 67 = .ok (.iload_n 1, 1) := by decide +kernel
theorem dX2_across_68 : decode cX2_across 68 = .ok (.ireturn, 1) := by decide +kernel
theorem dX2_along_0 : decode cX2_along 0 = .ok (.aload_n 0, 1) := by decide +kernel
theorem dX2_along_1 : decode cX2_along 1 = .ok (.getfield 38, 3) := by decide +kernel
theorem dX2_along_4 : decode cX2_along 4 = .ok (.bipush 100, 2) := by decide +kernel
theorem dX2_along_6 : decode cX2_along 6 = .ok (.idiv, 1) := by decide +kernel
theorem dX2_along_7 : decode cX2_along 7 = .ok (.aload_n 0, 1) := by decide +kernel
theorem dX2_along_8 : decode cX2_along 8 = .ok (.getfield 38, 3) := by decide +kernel
theorem dX2_along_11 : decode cX2_along 11 = .ok (.bipush 100, 2) := by decide +kernel
theorem dX2_along_13 : decode cX2_along 13 = .ok (.irem, 1) := by decide +kernel
theorem dX2_along_14 : decode cX2_along 14 = .ok (.invokestatic 53, 3) := by decide +kernel
theorem dX2_along_17 : decode cX2_along 17 = .ok (.imul, 1) := by decide +kernel
theorem dX2_along_18 : decode cX2_along 18 = .ok (.bipush 10, 2) := by decide +kernel
theorem dX2_along_20 : decode cX2_along 20 = .ok (.idiv, 1) := by decide +kernel
theorem dX2_along_21 : decode cX2_along 21 = .ok (.istore_n 1, 1) := by decide +kernel
theorem dX2_along_22 : decode cX2_along 22 = .ok (.iconst 0, 1) := by decide +kernel
theorem dX2_along_23 : decode cX2_along 23 = .ok (.istore_n 2, 1) := by decide +kernel
theorem dX2_along_24 : decode cX2_along 24 = .ok (.iload_n 2, 1) := by decide +kernel
theorem dX2_along_25 : decode cX2_along 25 = .ok (.aload_n 0, 1) := by decide +kernel
theorem dX2_along_26 : decode cX2_along 26 = .ok (.getfield 34, 3) := by decide +kernel
theorem dX2_along_29 : decode cX2_along 29 = .ok (.if_icmp .ge 38, 3) := by decide +kernel
theorem dX2_along_32 : decode cX2_along 32 = .ok (.iload_n 1, 1) := by decide +kernel
theorem dX2_along_33 : decode cX2_along 33 = .ok (.aload_n 0, 1) := by decide +kernel
theorem dX2_along_34 : decode cX2_along 34 = .ok (.getfield 11, 3) := by decide +kernel
theorem dX2_along_37 : decode cX2_along 37 = .ok (.iload_n 2, 1) := by decide +kernel
theorem dX2_along_38 : decode cX2_along 38 = .ok (.iaload, 1) := by decide +kernel
theorem dX2_along_39 : decode cX2_along 39 = .ok (.aload_n 0, 1) := by decide +kernel
theorem dX2_along_40 : decode cX2_along 40 = .ok (.getfield 15, 3) := by decide +kernel
theorem dX2_along_43 : decode cX2_along 43 = .ok (.iload_n 2, 1) := by decide +kernel
theorem dX2_along_44 : decode cX2_along 44 = .ok (.iaload, 1) := by decide +kernel
theorem dX2_along_45 : decode cX2_along 45 = .ok (.iadd, 1) := by decide +kernel
theorem dX2_along_46 : decode cX2_along 46 = .ok (.aload_n 0, 1) := by decide +kernel
theorem dX2_along_47 : decode cX2_along 47 = .ok (.getfield 18, 3) := by decide +kernel
theorem dX2_along_50 : decode cX2_along 50 = .ok (.iload_n 2, 1) := by decide +kernel
theorem dX2_along_51 : decode cX2_along 51 = .ok (.iaload, 1) := by decide +kernel
theorem dX2_along_52 : decode cX2_along 52 = .ok (.invokestatic 53, 3) := by decide +kernel
theorem dX2_along_55 : decode cX2_along 55 = .ok (.imul, 1) := by decide +kernel
theorem dX2_along_56 : decode cX2_along 56 = .ok (.bipush 10, 2) := by decide +kernel
theorem dX2_along_58 : decode cX2_along 58 = .ok (.idiv, 1) := by decide +kernel
theorem dX2_along_59 : decode cX2_along 59 = .ok (.iadd, 1) := by decide +kernel
theorem dX2_along_60 : decode cX2_along 60 = .ok (.istore_n 1, 1) := by decide +kernel
theorem dX2_along_61 : decode cX2_along 61 = .ok (.iinc 2 1, 3) := by decide +kernel
theorem dX2_along_64 : decode cX2_along 64 = .ok (.goto (-40), 3) := by decide +kernel
theorem dX2_along_67 : decode cX2_along 67 = .ok (.iload_n 1, 1) := by decide +kernel
theorem dX2_along_68 : decode cX2_along 68 = .ok (.ireturn, 1) := by decide +kernel
theorem dX2_lopsided_0 : decode cX2_lopsided 0 = .ok (.aload_n 0, 1) := by decide +kernel
theorem dX2_lopsided_1 : decode cX2_lopsided 1 = .ok (.invokevirtual 56, 3) := by decide +kernel
theorem dX2_lopsided_4 : decode cX2_lopsided 4 = .ok (.aload_n 0, 1) := by decide +kernel
theorem dX2_lopsided_5 : decode cX2_lopsided 5 = .ok (.invokevirtual 60, 3) := by decide +kernel
theorem dX2_lopsided_8 : decode cX2_lopsided 8 = .ok (.invokestatic 63, 3) := by decide +kernel
theorem dX2_lopsided_11 : decode cX2_lopsided 11 = .ok (.ireturn, 1) := by decide +kernel
theorem dX2_lopsidedBy_0 : decode cX2_lopsidedBy 0 = .ok (.iload_n 0, 1) := by decide +kernel
theorem dX2_lopsidedBy_1 : decode cX2_lopsidedBy 1 = .ok (.invokestatic 67, 3) := by decide +kernel
theorem dX2_lopsidedBy_4 : decode cX2_lopsidedBy 4 = .ok (.iload_n 1, 1) := by decide +kernel
theorem dX2_lopsidedBy_5 : decode cX2_lopsidedBy 5 = .ok (.invokestatic 67, 3) := by decide +kernel
theorem dX2_lopsidedBy_8 : decode cX2_lopsidedBy 8 = .ok (.invokestatic 72, 3) := by decide +kernel
theorem dX2_lopsidedBy_11 : decode cX2_lopsidedBy 11 = .ok (.istore_n 2, 1) := by decide +kernel
theorem dX2_lopsidedBy_12 : decode cX2_lopsidedBy 12 = .ok (.iload_n 0, 1) := by decide +kernel
theorem dX2_lopsidedBy_13 : decode cX2_lopsidedBy 13 = .ok (.invokestatic 67, 3) := by decide +kernel
theorem dX2_lopsidedBy_16 : decode cX2_lopsidedBy 16 = .ok (.iload_n 1, 1) := by decide +kernel
theorem dX2_lopsidedBy_17 : decode cX2_lopsidedBy 17 = .ok (.invokestatic 67, 3) := by decide +kernel
theorem dX2_lopsidedBy_20 : decode cX2_lopsidedBy 20 = .ok (.invokestatic 75, 3) := by decide +kernel
theorem dX2_lopsidedBy_23 : decode cX2_lopsidedBy 23 = .ok (.istore_n 3, 1) := by decide +kernel
theorem dX2_lopsidedBy_24 : decode cX2_lopsidedBy 24 = .ok (.iload_n 2, 1) := by decide +kernel
theorem dX2_lopsidedBy_25 : decode cX2_lopsidedBy 25 = .ok (.iconst 3, 1) := by decide +kernel
theorem dX2_lopsidedBy_26 : decode cX2_lopsidedBy 26 = .ok (.iload_n 3, 1) := by decide +kernel
theorem dX2_lopsidedBy_27 : decode cX2_lopsidedBy 27 = .ok (.imul, 1) := by decide +kernel
theorem dX2_lopsidedBy_28 : decode cX2_lopsidedBy 28 = .ok (.bipush 8, 2) := by decide +kernel
theorem dX2_lopsidedBy_30 : decode cX2_lopsidedBy 30 = .ok (.idiv, 1) := by decide +kernel
theorem dX2_lopsidedBy_31 : decode cX2_lopsidedBy 31 = .ok (.iadd, 1) := by decide +kernel
theorem dX2_lopsidedBy_32 : decode cX2_lopsidedBy 32 = .ok (.bipush 100, 2) := by decide +kernel
theorem dX2_lopsidedBy_34 : decode cX2_lopsidedBy 34 = .ok (.idiv, 1) := by decide +kernel
theorem dX2_lopsidedBy_35 : decode cX2_lopsidedBy 35 = .ok (.ireturn, 1) := by decide +kernel
theorem dX2_side_0 : decode cX2_side 0 = .ok (.aload_n 0, 1) := by decide +kernel
theorem dX2_side_1 : decode cX2_side 1 = .ok (.invokevirtual 56, 3) := by decide +kernel
theorem dX2_side_4 : decode cX2_side 4 = .ok (.istore_n 1, 1) := by decide +kernel
theorem dX2_side_5 : decode cX2_side 5 = .ok (.aload_n 0, 1) := by decide +kernel
theorem dX2_side_6 : decode cX2_side 6 = .ok (.invokevirtual 60, 3) := by decide +kernel
theorem dX2_side_9 : decode cX2_side 9 = .ok (.istore_n 2, 1) := by decide +kernel
theorem dX2_side_10 : decode cX2_side 10 = .ok (.iconst 0, 1) := by decide +kernel
theorem dX2_side_11 : decode cX2_side 11 = .ok (.istore_n 3, 1) := by decide +kernel
theorem dX2_side_12 : decode cX2_side 12 = .ok (.iconst 1, 1) := by decide +kernel
theorem dX2_side_13 : decode cX2_side 13 = .ok (.istore 4, 2) := by decide +kernel
theorem dX2_side_15 : decode cX2_side 15 = .ok (.iload 4, 2) := by decide +kernel
theorem dX2_side_17 : decode cX2_side 17 = .ok (.bipush 12, 2) := by decide +kernel
theorem dX2_side_19 : decode cX2_side 19 = .ok (.if_icmp .ge 43, 3) := by decide +kernel
theorem dX2_side_22 : decode cX2_side 22 = .ok (.iload_n 1, 1) := by decide +kernel
theorem dX2_side_23 : decode cX2_side 23 = .ok (.iload 4, 2) := by decide +kernel
theorem dX2_side_25 : decode cX2_side 25 = .ok (.invokestatic 50, 3) := by decide +kernel
theorem dX2_side_28 : decode cX2_side 28 = .ok (.imul, 1) := by decide +kernel
theorem dX2_side_29 : decode cX2_side 29 = .ok (.iload_n 2, 1) := by decide +kernel
theorem dX2_side_30 : decode cX2_side 30 = .ok (.iload 4, 2) := by decide +kernel
theorem dX2_side_32 : decode cX2_side 32 = .ok (.invokestatic 53, 3) := by decide +kernel
theorem dX2_side_35 : decode cX2_side 35 = .ok (.imul, 1) := by decide +kernel
theorem dX2_side_36 : decode cX2_side 36 = .ok (.iadd, 1) := by decide +kernel
theorem dX2_side_37 : decode cX2_side 37 = .ok (.iload_n 1, 1) := by decide +kernel
theorem dX2_side_38 : decode cX2_side 38 = .ok (.iload_n 3, 1) := by decide +kernel
theorem dX2_side_39 : decode cX2_side 39 = .ok (.invokestatic 50, 3) := by decide +kernel
theorem dX2_side_42 : decode cX2_side 42 = .ok (.imul, 1) := by decide +kernel
theorem dX2_side_43 : decode cX2_side 43 = .ok (.iload_n 2, 1) := by decide +kernel
theorem dX2_side_44 : decode cX2_side 44 = .ok (.iload_n 3, 1) := by decide +kernel
theorem dX2_side_45 : decode cX2_side 45 = .ok (.invokestatic 53, 3) := by decide +kernel
theorem dX2_side_48 : decode cX2_side 48 = .ok (.imul, 1) := by decide +kernel
theorem dX2_side_49 : decode cX2_side 49 = .ok (.iadd, 1) := by decide +kernel
theorem dX2_side_50 : decode cX2_side 50 = .ok (.if_icmp .le 6, 3) := by decide +kernel
theorem dX2_side_53 : decode cX2_side 53 = .ok (.iload 4, 2) := by decide +kernel
theorem dX2_side_55 : decode cX2_side 55 = .ok (.istore_n 3, 1) := by decide +kernel
theorem dX2_side_56 : decode cX2_side 56 = .ok (.iinc 4 1, 3) := by decide +kernel
theorem dX2_side_59 : decode cX2_side 59 = .ok (.goto (-44), 3) := by decide +kernel
theorem dX2_side_62 : decode cX2_side 62 = .ok (.iload_n 3, 1) := by decide +kernel
theorem dX2_side_63 : decode cX2_side 63 = .ok (.ireturn, 1) := by decide +kernel
theorem dX2_wetOfAll_0 : decode cX2_wetOfAll 0 = .ok (.iconst 0, 1) := by decide +kernel
theorem dX2_wetOfAll_1 : decode cX2_wetOfAll 1 = .ok (.istore_n 1, 1) := by decide +kernel
theorem dX2_wetOfAll_2 : decode cX2_wetOfAll 2 = .ok (.iconst 0, 1) := by decide +kernel
theorem dX2_wetOfAll_3 : decode cX2_wetOfAll 3 = .ok (.istore_n 2, 1) := by decide +kernel
theorem dX2_wetOfAll_4 : decode cX2_wetOfAll 4 = .ok (.iload_n 2, 1) := by decide +kernel
theorem dX2_wetOfAll_5 : decode cX2_wetOfAll 5 = .ok (.aload_n 0, 1) := by decide +kernel
theorem dX2_wetOfAll_6 : decode cX2_wetOfAll 6 = .ok (.getfield 34, 3) := by decide +kernel
theorem dX2_wetOfAll_9 : decode cX2_wetOfAll 9 = .ok (.if_icmp .ge 18, 3) := by decide +kernel
theorem dX2_wetOfAll_12 : decode cX2_wetOfAll 12 = .ok (.iload_n 1, 1) := by decide +kernel
theorem dX2_wetOfAll_13 : decode cX2_wetOfAll 13 = .ok (.aload_n 0, 1) := by decide +kernel
theorem dX2_wetOfAll_14 : decode cX2_wetOfAll 14 = .ok (.getfield 15, 3) := by decide +kernel
theorem dX2_wetOfAll_17 : decode cX2_wetOfAll 17 = .ok (.iload_n 2, 1) := by decide +kernel
theorem dX2_wetOfAll_18 : decode cX2_wetOfAll 18 = .ok (.iaload, 1) := by decide +kernel
theorem dX2_wetOfAll_19 : decode cX2_wetOfAll 19 = .ok (.iadd, 1) := by decide +kernel
theorem dX2_wetOfAll_20 : decode cX2_wetOfAll 20 = .ok (.istore_n 1, 1) := by decide +kernel
theorem dX2_wetOfAll_21 : decode cX2_wetOfAll 21 = .ok (.iinc 2 1, 3) := by decide +kernel
theorem dX2_wetOfAll_24 : decode cX2_wetOfAll 24 = .ok (.goto (-20), 3) := by decide +kernel
theorem dX2_wetOfAll_27 : decode cX2_wetOfAll 27 = .ok (.iload_n 1, 1) := by decide +kernel
theorem dX2_wetOfAll_28 : decode cX2_wetOfAll 28 = .ok (.ireturn, 1) := by decide +kernel
theorem dX3_nameOf_0 : decode cX3_nameOf 0 = .ok (.iload_n 0, 1) := by decide +kernel
theorem dX3_nameOf_1 : decode cX3_nameOf 1 = .ok (.tableswitch 120 99 119 #[117, 109, 120, 120, 111, 101, 120, 120, 120, 107, 120, 120, 120, 103, 120, 120, 114, 105, 120, 120, 99], 99) := by decide +kernel
theorem dX3_nameOf_100 : decode cX3_nameOf 100 = .ok (.iconst 0, 1) := by decide +kernel
theorem dX3_nameOf_101 : decode cX3_nameOf 101 = .ok (.ireturn, 1) := by decide +kernel
theorem dX3_nameOf_102 : decode cX3_nameOf 102 = .ok (.iconst 1, 1) := by decide +kernel
theorem dX3_nameOf_103 : decode cX3_nameOf 103 = .ok (.ireturn, 1) := by decide +kernel
theorem dX3_nameOf_104 : decode cX3_nameOf 104 = .ok (.iconst 2, 1) := by decide +kernel
theorem dX3_nameOf_105 : decode cX3_nameOf 105 = .ok (.ireturn, 1) := by decide +kernel
theorem dX3_nameOf_106 : decode cX3_nameOf 106 = .ok (.iconst 3, 1) := by decide +kernel
theorem dX3_nameOf_107 : decode cX3_nameOf 107 = .ok (.ireturn, 1) := by decide +kernel
theorem dX3_nameOf_108 : decode cX3_nameOf 108 = .ok (.iconst 4, 1) := by decide +kernel
theorem dX3_nameOf_109 : decode cX3_nameOf 109 = .ok (.ireturn, 1) := by decide +kernel
theorem dX3_nameOf_110 : decode cX3_nameOf 110 = .ok (.iconst 5, 1) := by decide +kernel
theorem dX3_nameOf_111 : decode cX3_nameOf 111 = .ok (.ireturn, 1) := by decide +kernel
theorem dX3_nameOf_112 : decode cX3_nameOf 112 = .ok (.bipush 6, 2) := by decide +kernel
theorem dX3_nameOf_114 : decode cX3_nameOf 114 = .ok (.ireturn, 1) := by decide +kernel
theorem dX3_nameOf_115 : decode cX3_nameOf 115 = .ok (.bipush 7, 2) := by decide +kernel
theorem dX3_nameOf_117 : decode cX3_nameOf 117 = .ok (.ireturn, 1) := by decide +kernel
theorem dX3_nameOf_118 : decode cX3_nameOf 118 = .ok (.bipush 8, 2) := by decide +kernel
theorem dX3_nameOf_120 : decode cX3_nameOf 120 = .ok (.ireturn, 1) := by decide +kernel
theorem dX3_nameOf_121 : decode cX3_nameOf 121 = .ok (.iconst (-1), 1) := by decide +kernel
theorem dX3_nameOf_122 : decode cX3_nameOf 122 = .ok (.ireturn, 1) := by decide +kernel
theorem dX3_empty_0 : decode cX3_empty 0 = .ok (.aload_n 0, 1) := by decide +kernel
theorem dX3_empty_1 : decode cX3_empty 1 = .ok (.iconst 0, 1) := by decide +kernel
theorem dX3_empty_2 : decode cX3_empty 2 = .ok (.putfield 18, 3) := by decide +kernel
theorem dX3_empty_5 : decode cX3_empty 5 = .ok (.return_, 1) := by decide +kernel
theorem dX3_add_0 : decode cX3_add 0 = .ok (.aload_n 0, 1) := by decide +kernel
theorem dX3_add_1 : decode cX3_add 1 = .ok (.getfield 18, 3) := by decide +kernel
theorem dX3_add_4 : decode cX3_add 4 = .ok (.bipush 120, 2) := by decide +kernel
theorem dX3_add_6 : decode cX3_add 6 = .ok (.if_icmp .ge 23, 3) := by decide +kernel
theorem dX3_add_9 : decode cX3_add 9 = .ok (.aload_n 0, 1) := by decide +kernel
theorem dX3_add_10 : decode cX3_add 10 = .ok (.getfield 11, 3) := by decide +kernel
theorem dX3_add_13 : decode cX3_add 13 = .ok (.aload_n 0, 1) := by decide +kernel
theorem dX3_add_14 : decode cX3_add 14 = .ok (.getfield 18, 3) := by decide +kernel
theorem dX3_add_17 : decode cX3_add 17 = .ok (.iload_n 1, 1) := by decide +kernel
theorem dX3_add_18 : decode cX3_add 18 = .ok (.iastore, 1) := by decide +kernel
theorem dX3_add_19 : decode cX3_add 19 = .ok (.aload_n 0, 1) := by decide +kernel
theorem dX3_add_20 : decode cX3_add 20 = .ok (.dup, 1) := by decide +kernel
theorem dX3_add_21 : decode cX3_add 21 = .ok (.getfield 18, 3) := by decide +kernel
theorem dX3_add_24 : decode cX3_add 24 = .ok (.iconst 1, 1) := by decide +kernel
theorem dX3_add_25 : decode cX3_add 25 = .ok (.iadd, 1) := by decide +kernel
theorem dX3_add_26 : decode cX3_add 26 = .ok (.putfield 18, 3) := by decide +kernel
theorem dX3_add_29 : decode cX3_add 29 = .ok (.return_, 1) := by decide +kernel
theorem dX3_worth_0 : decode cX3_worth 0 = .ok (.aload_n 0, 1) := by decide +kernel
theorem dX3_worth_1 : decode cX3_worth 1 = .ok (.iconst 0, 1) := by decide +kernel
theorem dX3_worth_2 : decode cX3_worth 2 = .ok (.putfield 22, 3) := by decide +kernel
theorem dX3_worth_5 : decode cX3_worth 5 = .ok (.iconst 0, 1) := by decide +kernel
theorem dX3_worth_6 : decode cX3_worth 6 = .ok (.istore_n 2, 1) := by decide +kernel
theorem dX3_worth_7 : decode cX3_worth 7 = .ok (.iconst 0, 1) := by decide +kernel
theorem dX3_worth_8 : decode cX3_worth 8 = .ok (.istore_n 3, 1) := by decide +kernel
theorem dX3_worth_9 : decode cX3_worth 9 = .ok (.iload_n 3, 1) := by decide +kernel
theorem dX3_worth_10 : decode cX3_worth 10 = .ok (.aload_n 0, 1) := by decide +kernel
theorem dX3_worth_11 : decode cX3_worth 11 = .ok (.getfield 18, 3) := by decide +kernel
theorem dX3_worth_14 : decode cX3_worth 14 = .ok (.if_icmp .ge 129, 3) := by decide +kernel
theorem dX3_worth_17 : decode cX3_worth 17 = .ok (.aload_n 0, 1) := by decide +kernel
theorem dX3_worth_18 : decode cX3_worth 18 = .ok (.getfield 11, 3) := by decide +kernel
theorem dX3_worth_21 : decode cX3_worth 21 = .ok (.iload_n 3, 1) := by decide +kernel
theorem dX3_worth_22 : decode cX3_worth 22 = .ok (.iaload, 1) := by decide +kernel
theorem dX3_worth_23 : decode cX3_worth 23 = .ok (.istore 4, 2) := by decide +kernel
theorem dX3_worth_25 : decode cX3_worth 25 = .ok (.iload_n 2, 1) := by decide +kernel
theorem dX3_worth_26 : decode cX3_worth 26 = .ok (.ifCond .eq 20, 3) := by decide +kernel
theorem dX3_worth_29 : decode cX3_worth 29 = .ok (.iload 4, 2) := by decide +kernel
theorem dX3_worth_31 : decode cX3_worth 31 = .ok (.sipush 10059, 3) := by decide +kernel
theorem dX3_worth_34 : decode cX3_worth 34 = .ok (.if_icmp .eq 7, 3) := by decide +kernel
theorem dX3_worth_37 : decode cX3_worth 37 = .ok (.iconst 1, 1) := by decide +kernel
theorem dX3_worth_38 : decode cX3_worth 38 = .ok (.goto 4, 3) := by decide +kernel
theorem dX3_worth_41 : decode cX3_worth 41 = .ok (.iconst 0, 1) := by decide +kernel
theorem dX3_worth_42 : decode cX3_worth 42 = .ok (.istore_n 2, 1) := by decide +kernel
theorem dX3_worth_43 : decode cX3_worth 43 = .ok (.goto 94, 3) := by decide +kernel
theorem dX3_worth_46 : decode cX3_worth 46 = .ok (.iload 4, 2) := by decide +kernel
theorem dX3_worth_48 : decode cX3_worth 48 = .ok (.sipush 10059, 3) := by decide +kernel
theorem dX3_worth_51 : decode cX3_worth 51 = .ok (.if_icmp .ne 8, 3) := by decide +kernel
theorem dX3_worth_54 : decode cX3_worth 54 = .ok (.aload_n 0, 1) := by decide +kernel
theorem dX3_worth_55 : decode cX3_worth 55 = .ok (.invokevirtual 25, 3) := by decide +kernel
theorem dX3_worth_58 : decode cX3_worth 58 = .ok (.ireturn, 1) := by decide +kernel
theorem dX3_worth_59 : decode cX3_worth 59 = .ok (.iload 4, 2) := by decide +kernel
theorem dX3_worth_61 : decode cX3_worth 61 = .ok (.sipush 10063, 3) := by decide +kernel
theorem dX3_worth_64 : decode cX3_worth 64 = .ok (.if_icmp .ne 19, 3) := by decide +kernel
theorem dX3_worth_67 : decode cX3_worth 67 = .ok (.aload_n 0, 1) := by decide +kernel
theorem dX3_worth_68 : decode cX3_worth 68 = .ok (.invokevirtual 25, 3) := by decide +kernel
theorem dX3_worth_71 : decode cX3_worth 71 = .ok (.ifCond .ne 7, 3) := by decide +kernel
theorem dX3_worth_74 : decode cX3_worth 74 = .ok (.iconst 1, 1) := by decide +kernel
theorem dX3_worth_75 : decode cX3_worth 75 = .ok (.goto 4, 3) := by decide +kernel
theorem dX3_worth_78 : decode cX3_worth 78 = .ok (.iconst 0, 1) := by decide +kernel
theorem dX3_worth_79 : decode cX3_worth 79 = .ok (.istore_n 2, 1) := by decide +kernel
theorem dX3_worth_80 : decode cX3_worth 80 = .ok (.goto 57, 3) := by decide +kernel
theorem dX3_worth_83 : decode cX3_worth 83 = .ok (.iload 4, 2) := by decide +kernel
theorem dX3_worth_85 : decode cX3_worth 85 = .ok (.ifCond .ge 29, 3) := by decide +kernel
theorem dX3_worth_88 : decode cX3_worth 88 = .ok (.aload_n 0, 1) := by decide +kernel
theorem dX3_worth_89 : decode cX3_worth 89 = .ok (.iconst (-1), 1) := by decide +kernel
theorem dX3_worth_90 : decode cX3_worth 90 = .ok (.iload 4, 2) := by decide +kernel
theorem dX3_worth_92 : decode cX3_worth 92 = .ok (.isub, 1) := by decide +kernel
theorem dX3_worth_93 : decode cX3_worth 93 = .ok (.aload_n 1, 1) := by decide +kernel
theorem dX3_worth_94 : decode cX3_worth 94 = .ok (.arraylength, 1) := by decide +kernel
theorem dX3_worth_95 : decode cX3_worth 95 = .ok (.if_icmp .ge 12, 3) := by decide +kernel
theorem dX3_worth_98 : decode cX3_worth 98 = .ok (.aload_n 1, 1) := by decide +kernel
theorem dX3_worth_99 : decode cX3_worth 99 = .ok (.iconst (-1), 1) := by decide +kernel
theorem dX3_worth_100 : decode cX3_worth 100 = .ok (.iload 4, 2) := by decide +kernel
theorem dX3_worth_102 : decode cX3_worth 102 = .ok (.isub, 1) := by decide +kernel
theorem dX3_worth_103 : decode cX3_worth 103 = .ok (.iaload, 1) := by decide +kernel
theorem dX3_worth_104 : decode cX3_worth 104 = .ok (.goto 4, 3) := by decide +kernel
theorem dX3_worth_107 : decode cX3_worth 107 = .ok (.iconst 0, 1) := by decide +kernel
theorem dX3_worth_108 : decode cX3_worth 108 = .ok (.invokevirtual 29, 3) := by decide +kernel
theorem dX3_worth_111 : decode cX3_worth 111 = .ok (.goto 26, 3) := by decide +kernel
theorem dX3_worth_114 : decode cX3_worth 114 = .ok (.iload 4, 2) := by decide +kernel
theorem dX3_worth_116 : decode cX3_worth 116 = .ok (.sipush 10000, 3) := by decide +kernel
theorem dX3_worth_119 : decode cX3_worth 119 = .ok (.if_icmp .ge 12, 3) := by decide +kernel
theorem dX3_worth_122 : decode cX3_worth 122 = .ok (.aload_n 0, 1) := by decide +kernel
theorem dX3_worth_123 : decode cX3_worth 123 = .ok (.iload 4, 2) := by decide +kernel
theorem dX3_worth_125 : decode cX3_worth 125 = .ok (.invokevirtual 29, 3) := by decide +kernel
theorem dX3_worth_128 : decode cX3_worth 128 = .ok (.goto 9, 3) := by decide +kernel
theorem dX3_worth_131 : decode cX3_worth 131 = .ok (.aload_n 0, 1) := by decide +kernel
theorem dX3_worth_132 : decode cX3_worth 132 = .ok (.iload 4, 2) := by decide +kernel
theorem dX3_worth_134 : decode cX3_worth 134 = .ok (.invokevirtual 33, 3) := by decide +kernel
theorem dX3_worth_137 : decode cX3_worth 137 = .ok (.iinc 3 1, 3) := by decide +kernel
theorem dX3_worth_140 : decode cX3_worth 140 = .ok (.goto (-131), 3) := by decide +kernel
theorem dX3_worth_143 : decode cX3_worth 143 = .ok (.aload_n 0, 1) := by decide +kernel
theorem dX3_worth_144 : decode cX3_worth 144 = .ok (.invokevirtual 25, 3) := by decide +kernel
theorem dX3_worth_147 : decode cX3_worth 147 = .ok (.ireturn, 1) := by decide +kernel
theorem dX3_push_0 : decode cX3_push 0 = .ok (.aload_n 0, 1) := by decide +kernel
theorem dX3_push_1 : decode cX3_push 1 = .ok (.getfield 22, 3) := by decide +kernel
theorem dX3_push_4 : decode cX3_push 4 = .ok (.bipush 120, 2) := by decide +kernel
theorem dX3_push_6 : decode cX3_push 6 = .ok (.if_icmp .ge 23, 3) := by decide +kernel
theorem dX3_push_9 : decode cX3_push 9 = .ok (.aload_n 0, 1) := by decide +kernel
theorem dX3_push_10 : decode cX3_push 10 = .ok (.getfield 15, 3) := by decide +kernel
theorem dX3_push_13 : decode cX3_push 13 = .ok (.aload_n 0, 1) := by decide +kernel
theorem dX3_push_14 : decode cX3_push 14 = .ok (.getfield 22, 3) := by decide +kernel
theorem dX3_push_17 : decode cX3_push 17 = .ok (.iload_n 1, 1) := by decide +kernel
theorem dX3_push_18 : decode cX3_push 18 = .ok (.iastore, 1) := by decide +kernel
theorem dX3_push_19 : decode cX3_push 19 = .ok (.aload_n 0, 1) := by decide +kernel
theorem dX3_push_20 : decode cX3_push 20 = .ok (.dup, 1) := by decide +kernel
theorem dX3_push_21 : decode cX3_push 21 = .ok (.getfield 22, 3) := by decide +kernel
theorem dX3_push_24 : decode cX3_push 24 = .ok (.iconst 1, 1) := by decide +kernel
theorem dX3_push_25 : decode cX3_push 25 = .ok (.iadd, 1) := by decide +kernel
theorem dX3_push_26 : decode cX3_push 26 = .ok (.putfield 22, 3) := by decide +kernel
theorem dX3_push_29 : decode cX3_push 29 = .ok (.return_, 1) := by decide +kernel
theorem dX3_pop_0 : decode cX3_pop 0 = .ok (.aload_n 0, 1) := by decide +kernel
theorem dX3_pop_1 : decode cX3_pop 1 = .ok (.getfield 22, 3) := by decide +kernel
theorem dX3_pop_4 : decode cX3_pop 4 = .ok (.iconst 1, 1) := by decide +kernel
theorem dX3_pop_5 : decode cX3_pop 5 = .ok (.if_icmp .ge 5, 3) := by decide +kernel
theorem dX3_pop_8 : decode cX3_pop 8 = .ok (.iconst 0, 1) := by decide +kernel
theorem dX3_pop_9 : decode cX3_pop 9 = .ok (.ireturn, 1) := by decide +kernel
theorem dX3_pop_10 : decode cX3_pop 10 = .ok (.aload_n 0, 1) := by decide +kernel
theorem dX3_pop_11 : decode cX3_pop 11 = .ok (.dup, 1) := by decide +kernel
theorem dX3_pop_12 : decode cX3_pop 12 = .ok (.getfield 22, 3) := by decide +kernel
theorem dX3_pop_15 : decode cX3_pop 15 = .ok (.iconst 1, 1) := by decide +kernel
theorem dX3_pop_16 : decode cX3_pop 16 = .ok (.isub, 1) := by decide +kernel
theorem dX3_pop_17 : decode cX3_pop 17 = .ok (.putfield 22, 3) := by decide +kernel
theorem dX3_pop_20 : decode cX3_pop 20 = .ok (.aload_n 0, 1) := by decide +kernel
theorem dX3_pop_21 : decode cX3_pop 21 = .ok (.getfield 15, 3) := by decide +kernel
theorem dX3_pop_24 : decode cX3_pop 24 = .ok (.aload_n 0, 1) := by decide +kernel
theorem dX3_pop_25 : decode cX3_pop 25 = .ok (.getfield 22, 3) := by decide +kernel
theorem dX3_pop_28 : decode cX3_pop 28 = .ok (.iaload, 1) := by decide +kernel
theorem dX3_pop_29 : decode cX3_pop 29 = .ok (.ireturn, 1) := by decide +kernel
theorem dX3_workOut_0 : decode cX3_workOut 0 = .ok (.aload_n 0, 1) := by decide +kernel
theorem dX3_workOut_1 : decode cX3_workOut 1 = .ok (.invokevirtual 25, 3) := by decide +kernel
theorem dX3_workOut_4 : decode cX3_workOut 4 = .ok (.istore_n 2, 1) := by decide +kernel
theorem dX3_workOut_5 : decode cX3_workOut 5 = .ok (.iload_n 1, 1) := by decide +kernel
theorem dX3_workOut_6 : decode cX3_workOut 6 = .ok (.sipush 10126, 3) := by decide +kernel
theorem dX3_workOut_9 : decode cX3_workOut 9 = .ok (.if_icmp .ne 12, 3) := by decide +kernel
theorem dX3_workOut_12 : decode cX3_workOut 12 = .ok (.aload_n 0, 1) := by decide +kernel
theorem dX3_workOut_13 : decode cX3_workOut 13 = .ok (.iload_n 2, 1) := by decide +kernel
theorem dX3_workOut_14 : decode cX3_workOut 14 = .ok (.ineg, 1) := by decide +kernel
theorem dX3_workOut_15 : decode cX3_workOut 15 = .ok (.invokevirtual 29, 3) := by decide +kernel
theorem dX3_workOut_18 : decode cX3_workOut 18 = .ok (.goto 44, 3) := by decide +kernel
theorem dX3_workOut_21 : decode cX3_workOut 21 = .ok (.iload_n 1, 1) := by decide +kernel
theorem dX3_workOut_22 : decode cX3_workOut 22 = .ok (.sipush 10033, 3) := by decide +kernel
theorem dX3_workOut_25 : decode cX3_workOut 25 = .ok (.if_icmp .ne 19, 3) := by decide +kernel
theorem dX3_workOut_28 : decode cX3_workOut 28 = .ok (.aload_n 0, 1) := by decide +kernel
theorem dX3_workOut_29 : decode cX3_workOut 29 = .ok (.iload_n 2, 1) := by decide +kernel
theorem dX3_workOut_30 : decode cX3_workOut 30 = .ok (.ifCond .ne 7, 3) := by decide +kernel
theorem dX3_workOut_33 : decode cX3_workOut 33 = .ok (.iconst 1, 1) := by decide +kernel
theorem dX3_workOut_34 : decode cX3_workOut 34 = .ok (.goto 4, 3) := by decide +kernel
theorem dX3_workOut_37 : decode cX3_workOut 37 = .ok (.iconst 0, 1) := by decide +kernel
theorem dX3_workOut_38 : decode cX3_workOut 38 = .ok (.invokevirtual 29, 3) := by decide +kernel
theorem dX3_workOut_41 : decode cX3_workOut 41 = .ok (.goto 21, 3) := by decide +kernel
theorem dX3_workOut_44 : decode cX3_workOut 44 = .ok (.aload_n 0, 1) := by decide +kernel
theorem dX3_workOut_45 : decode cX3_workOut 45 = .ok (.iload_n 1, 1) := by decide +kernel
theorem dX3_workOut_46 : decode cX3_workOut 46 = .ok (.sipush 10000, 3) := by decide +kernel
theorem dX3_workOut_49 : decode cX3_workOut 49 = .ok (.isub, 1) := by decide +kernel
theorem dX3_workOut_50 : decode cX3_workOut 50 = .ok (.i2c, 1) := by decide +kernel
theorem dX3_workOut_51 : decode cX3_workOut 51 = .ok (.aload_n 0, 1) := by decide +kernel
theorem dX3_workOut_52 : decode cX3_workOut 52 = .ok (.invokevirtual 25, 3) := by decide +kernel
theorem dX3_workOut_55 : decode cX3_workOut 55 = .ok (.iload_n 2, 1) := by decide +kernel
theorem dX3_workOut_56 : decode cX3_workOut 56 = .ok (.invokestatic 36, 3) := by decide +kernel
theorem dX3_workOut_59 : decode cX3_workOut 59 = .ok (.invokevirtual 29, 3) := by decide +kernel
theorem dX3_workOut_62 : decode cX3_workOut 62 = .ok (.return_, 1) := by decide +kernel
theorem dX3_joined_0 : decode cX3_joined 0 = .ok (.iload_n 0, 1) := by decide +kernel
theorem dX3_joined_1 : decode cX3_joined 1 = .ok (.lookupswitch 188 #[(37, 176), (38, 105), (42, 160), (43, 152), (45, 156), (47, 164), (60, 119), (61, 130), (62, 141), (124, 91)], 91) := by decide +kernel
theorem dX3_joined_92 : decode cX3_joined 92 = .ok (.iload_n 1, 1) := by decide +kernel
theorem dX3_joined_93 : decode cX3_joined 93 = .ok (.ifCond .ne 7, 3) := by decide +kernel
theorem dX3_joined_96 : decode cX3_joined 96 = .ok (.iload_n 2, 1) := by decide +kernel
theorem dX3_joined_97 : decode cX3_joined 97 = .ok (.ifCond .eq 7, 3) := by decide +kernel
theorem dX3_joined_100 : decode cX3_joined 100 = .ok (.iconst 1, 1) := by decide +kernel
theorem dX3_joined_101 : decode cX3_joined 101 = .ok (.goto 4, 3) := by decide +kernel
theorem dX3_joined_104 : decode cX3_joined 104 = .ok (.iconst 0, 1) := by decide +kernel
theorem dX3_joined_105 : decode cX3_joined 105 = .ok (.ireturn, 1) := by decide +kernel
theorem dX3_joined_106 : decode cX3_joined 106 = .ok (.iload_n 1, 1) := by decide +kernel
theorem dX3_joined_107 : decode cX3_joined 107 = .ok (.ifCond .eq 11, 3) := by decide +kernel
theorem dX3_joined_110 : decode cX3_joined 110 = .ok (.iload_n 2, 1) := by decide +kernel
theorem dX3_joined_111 : decode cX3_joined 111 = .ok (.ifCond .eq 7, 3) := by decide +kernel
theorem dX3_joined_114 : decode cX3_joined 114 = .ok (.iconst 1, 1) := by decide +kernel
theorem dX3_joined_115 : decode cX3_joined 115 = .ok (.goto 4, 3) := by decide +kernel
theorem dX3_joined_118 : decode cX3_joined 118 = .ok (.iconst 0, 1) := by decide +kernel
theorem dX3_joined_119 : decode cX3_joined 119 = .ok (.ireturn, 1) := by decide +kernel
theorem dX3_joined_120 : decode cX3_joined 120 = .ok (.iload_n 1, 1) := by decide +kernel
theorem dX3_joined_121 : decode cX3_joined 121 = .ok (.iload_n 2, 1) := by decide +kernel
theorem dX3_joined_122 : decode cX3_joined 122 = .ok (.if_icmp .ge 7, 3) := by decide +kernel
theorem dX3_joined_125 : decode cX3_joined 125 = .ok (.iconst 1, 1) := by decide +kernel
theorem dX3_joined_126 : decode cX3_joined 126 = .ok (.goto 4, 3) := by decide +kernel
theorem dX3_joined_129 : decode cX3_joined 129 = .ok (.iconst 0, 1) := by decide +kernel
theorem dX3_joined_130 : decode cX3_joined 130 = .ok (.ireturn, 1) := by decide +kernel
theorem dX3_joined_131 : decode cX3_joined 131 = .ok (.iload_n 1, 1) := by decide +kernel
theorem dX3_joined_132 : decode cX3_joined 132 = .ok (.iload_n 2, 1) := by decide +kernel
theorem dX3_joined_133 : decode cX3_joined 133 = .ok (.if_icmp .ne 7, 3) := by decide +kernel
theorem dX3_joined_136 : decode cX3_joined 136 = .ok (.iconst 1, 1) := by decide +kernel
theorem dX3_joined_137 : decode cX3_joined 137 = .ok (.goto 4, 3) := by decide +kernel
theorem dX3_joined_140 : decode cX3_joined 140 = .ok (.iconst 0, 1) := by decide +kernel
theorem dX3_joined_141 : decode cX3_joined 141 = .ok (.ireturn, 1) := by decide +kernel
theorem dX3_joined_142 : decode cX3_joined 142 = .ok (.iload_n 1, 1) := by decide +kernel
theorem dX3_joined_143 : decode cX3_joined 143 = .ok (.iload_n 2, 1) := by decide +kernel
theorem dX3_joined_144 : decode cX3_joined 144 = .ok (.if_icmp .le 7, 3) := by decide +kernel
theorem dX3_joined_147 : decode cX3_joined 147 = .ok (.iconst 1, 1) := by decide +kernel
theorem dX3_joined_148 : decode cX3_joined 148 = .ok (.goto 4, 3) := by decide +kernel
theorem dX3_joined_151 : decode cX3_joined 151 = .ok (.iconst 0, 1) := by decide +kernel
theorem dX3_joined_152 : decode cX3_joined 152 = .ok (.ireturn, 1) := by decide +kernel
theorem dX3_joined_153 : decode cX3_joined 153 = .ok (.iload_n 1, 1) := by decide +kernel
theorem dX3_joined_154 : decode cX3_joined 154 = .ok (.iload_n 2, 1) := by decide +kernel
theorem dX3_joined_155 : decode cX3_joined 155 = .ok (.iadd, 1) := by decide +kernel
theorem dX3_joined_156 : decode cX3_joined 156 = .ok (.ireturn, 1) := by decide +kernel
theorem dX3_joined_157 : decode cX3_joined 157 = .ok (.iload_n 1, 1) := by decide +kernel
theorem dX3_joined_158 : decode cX3_joined 158 = .ok (.iload_n 2, 1) := by decide +kernel
theorem dX3_joined_159 : decode cX3_joined 159 = .ok (.isub, 1) := by decide +kernel
theorem dX3_joined_160 : decode cX3_joined 160 = .ok (.ireturn, 1) := by decide +kernel
theorem dX3_joined_161 : decode cX3_joined 161 = .ok (.iload_n 1, 1) := by decide +kernel
theorem dX3_joined_162 : decode cX3_joined 162 = .ok (.iload_n 2, 1) := by decide +kernel
theorem dX3_joined_163 : decode cX3_joined 163 = .ok (.imul, 1) := by decide +kernel
theorem dX3_joined_164 : decode cX3_joined 164 = .ok (.ireturn, 1) := by decide +kernel
theorem dX3_joined_165 : decode cX3_joined 165 = .ok (.iload_n 2, 1) := by decide +kernel
theorem dX3_joined_166 : decode cX3_joined 166 = .ok (.ifCond .ne 7, 3) := by decide +kernel
theorem dX3_joined_169 : decode cX3_joined 169 = .ok (.iconst 0, 1) := by decide +kernel
theorem dX3_joined_170 : decode cX3_joined 170 = .ok (.goto 6, 3) := by decide +kernel
theorem dX3_joined_173 : decode cX3_joined 173 = .ok (.iload_n 1, 1) := by decide +kernel
theorem dX3_joined_174 : decode cX3_joined 174 = .ok (.iload_n 2, 1) := by decide +kernel
theorem dX3_joined_175 : decode cX3_joined 175 = .ok (.idiv, 1) := by decide +kernel
theorem dX3_joined_176 : decode cX3_joined 176 = .ok (.ireturn, 1) := by decide +kernel
theorem dX3_joined_177 : decode cX3_joined 177 = .ok (.iload_n 2, 1) := by decide +kernel
theorem dX3_joined_178 : decode cX3_joined 178 = .ok (.ifCond .ne 7, 3) := by decide +kernel
theorem dX3_joined_181 : decode cX3_joined 181 = .ok (.iconst 0, 1) := by decide +kernel
theorem dX3_joined_182 : decode cX3_joined 182 = .ok (.goto 6, 3) := by decide +kernel
theorem dX3_joined_185 : decode cX3_joined 185 = .ok (.iload_n 1, 1) := by decide +kernel
theorem dX3_joined_186 : decode cX3_joined 186 = .ok (.iload_n 2, 1) := by decide +kernel
theorem dX3_joined_187 : decode cX3_joined 187 = .ok (.irem, 1) := by decide +kernel
theorem dX3_joined_188 : decode cX3_joined 188 = .ok (.ireturn, 1) := by decide +kernel
theorem dX3_joined_189 : decode cX3_joined 189 = .ok (.iconst 0, 1) := by decide +kernel
theorem dX3_joined_190 : decode cX3_joined 190 = .ok (.ireturn, 1) := by decide +kernel
theorem dX4_areFull_0 : decode cX4_areFull 0 = .ok (.aload_n 0, 1) := by decide +kernel
theorem dX4_areFull_1 : decode cX4_areFull 1 = .ok (.getfield 33, 3) := by decide +kernel
theorem dX4_areFull_4 : decode cX4_areFull 4 = .ok (.iconst 4, 1) := by decide +kernel
theorem dX4_areFull_5 : decode cX4_areFull 5 = .ok (.if_icmp .lt 7, 3) := by decide +kernel
theorem dX4_areFull_8 : decode cX4_areFull 8 = .ok (.iconst 1, 1) := by decide +kernel
theorem dX4_areFull_9 : decode cX4_areFull 9 = .ok (.goto 4, 3) := by decide +kernel
theorem dX4_areFull_12 : decode cX4_areFull 12 = .ok (.iconst 0, 1) := by decide +kernel
theorem dX4_areFull_13 : decode cX4_areFull 13 = .ok (.ireturn, 1) := by decide +kernel
theorem dX4_has_0 : decode cX4_has 0 = .ok (.iload_n 1, 1) := by decide +kernel
theorem dX4_has_1 : decode cX4_has 1 = .ok (.ifCond .lt 15, 3) := by decide +kernel
theorem dX4_has_4 : decode cX4_has 4 = .ok (.iload_n 1, 1) := by decide +kernel
theorem dX4_has_5 : decode cX4_has 5 = .ok (.aload_n 0, 1) := by decide +kernel
theorem dX4_has_6 : decode cX4_has 6 = .ok (.getfield 33, 3) := by decide +kernel
theorem dX4_has_9 : decode cX4_has 9 = .ok (.if_icmp .ge 7, 3) := by decide +kernel
theorem dX4_has_12 : decode cX4_has 12 = .ok (.iconst 1, 1) := by decide +kernel
theorem dX4_has_13 : decode cX4_has 13 = .ok (.goto 4, 3) := by decide +kernel
theorem dX4_has_16 : decode cX4_has 16 = .ok (.iconst 0, 1) := by decide +kernel
theorem dX4_has_17 : decode cX4_has 17 = .ok (.ireturn, 1) := by decide +kernel
theorem dX4_makeFromTape_0 : decode cX4_makeFromTape 0 = .ok (.aload_n 0, 1) := by decide +kernel
theorem dX4_makeFromTape_1 : decode cX4_makeFromTape 1 = .ok (.getfield 33, 3) := by decide +kernel
theorem dX4_makeFromTape_4 : decode cX4_makeFromTape 4 = .ok (.iconst 4, 1) := by decide +kernel
theorem dX4_makeFromTape_5 : decode cX4_makeFromTape 5 = .ok (.if_icmp .lt 6, 3) := by decide +kernel
theorem dX4_makeFromTape_8 : decode cX4_makeFromTape 8 = .ok (.bipush (-3), 2) := by decide +kernel
theorem dX4_makeFromTape_10 : decode cX4_makeFromTape 10 = .ok (.ireturn, 1) := by decide +kernel
theorem dX4_makeFromTape_11 : decode cX4_makeFromTape 11 = .ok (.aload_n 0, 1) := by decide +kernel
theorem dX4_makeFromTape_12 : decode cX4_makeFromTape 12 = .ok (.getfield 12, 3) := by decide +kernel
theorem dX4_makeFromTape_15 : decode cX4_makeFromTape 15 = .ok (.aload_n 0, 1) := by decide +kernel
theorem dX4_makeFromTape_16 : decode cX4_makeFromTape 16 = .ok (.getfield 24, 3) := by decide +kernel
theorem dX4_makeFromTape_19 : decode cX4_makeFromTape 19 = .ok (.aload_n 0, 1) := by decide +kernel
theorem dX4_makeFromTape_20 : decode cX4_makeFromTape 20 = .ok (.getfield 33, 3) := by decide +kernel
theorem dX4_makeFromTape_23 : decode cX4_makeFromTape 23 = .ok (.aaload, 1) := by decide +kernel
theorem dX4_makeFromTape_24 : decode cX4_makeFromTape 24 = .ok (.invokevirtual 36, 3) := by decide +kernel
theorem dX4_makeFromTape_27 : decode cX4_makeFromTape 27 = .ok (.istore_n 1, 1) := by decide +kernel
theorem dX4_makeFromTape_28 : decode cX4_makeFromTape 28 = .ok (.aload_n 0, 1) := by decide +kernel
theorem dX4_makeFromTape_29 : decode cX4_makeFromTape 29 = .ok (.getfield 12, 3) := by decide +kernel
theorem dX4_makeFromTape_32 : decode cX4_makeFromTape 32 = .ok (.invokevirtual 40, 3) := by decide +kernel
theorem dX4_makeFromTape_35 : decode cX4_makeFromTape 35 = .ok (.iload_n 1, 1) := by decide +kernel
theorem dX4_makeFromTape_36 : decode cX4_makeFromTape 36 = .ok (.ifCond .ne 14, 3) := by decide +kernel
theorem dX4_makeFromTape_39 : decode cX4_makeFromTape 39 = .ok (.bipush (-100), 2) := by decide +kernel
theorem dX4_makeFromTape_41 : decode cX4_makeFromTape 41 = .ok (.aload_n 0, 1) := by decide +kernel
theorem dX4_makeFromTape_42 : decode cX4_makeFromTape 42 = .ok (.getfield 12, 3) := by decide +kernel
theorem dX4_makeFromTape_45 : decode cX4_makeFromTape 45 = .ok (.invokevirtual 43, 3) := by decide +kernel
theorem dX4_makeFromTape_48 : decode cX4_makeFromTape 48 = .ok (.isub, 1) := by decide +kernel
theorem dX4_makeFromTape_49 : decode cX4_makeFromTape 49 = .ok (.ireturn, 1) := by decide +kernel
theorem dX4_makeFromTape_50 : decode cX4_makeFromTape 50 = .ok (.aload_n 0, 1) := by decide +kernel
theorem dX4_makeFromTape_51 : decode cX4_makeFromTape 51 = .ok (.dup, 1) := by decide +kernel
theorem dX4_makeFromTape_52 : decode cX4_makeFromTape 52 = .ok (.getfield 33, 3) := by decide +kernel
theorem dX4_makeFromTape_55 : decode cX4_makeFromTape 55 = .ok (.iconst 1, 1) := by decide +kernel
theorem dX4_makeFromTape_56 : decode cX4_makeFromTape 56 = .ok (.iadd, 1) := by decide +kernel
theorem dX4_makeFromTape_57 : decode cX4_makeFromTape 57 = .ok (.putfield 33, 3) := by decide +kernel
theorem dX4_makeFromTape_60 : decode cX4_makeFromTape 60 = .ok (.aload_n 0, 1) := by decide +kernel
theorem dX4_makeFromTape_61 : decode cX4_makeFromTape 61 = .ok (.getfield 33, 3) := by decide +kernel
theorem dX4_makeFromTape_64 : decode cX4_makeFromTape 64 = .ok (.iconst 1, 1) := by decide +kernel
theorem dX4_makeFromTape_65 : decode cX4_makeFromTape 65 = .ok (.isub, 1) := by decide +kernel
theorem dX4_makeFromTape_66 : decode cX4_makeFromTape 66 = .ok (.ireturn, 1) := by decide +kernel
theorem dX4_giveWater_0 : decode cX4_giveWater 0 = .ok (.aload_n 0, 1) := by decide +kernel
theorem dX4_giveWater_1 : decode cX4_giveWater 1 = .ok (.getfield 29, 3) := by decide +kernel
theorem dX4_giveWater_4 : decode cX4_giveWater 4 = .ok (.istore_n 2, 1) := by decide +kernel
theorem dX4_giveWater_5 : decode cX4_giveWater 5 = .ok (.aload_n 0, 1) := by decide +kernel
theorem dX4_giveWater_6 : decode cX4_giveWater 6 = .ok (.iload_n 1, 1) := by decide +kernel
theorem dX4_giveWater_7 : decode cX4_giveWater 7 = .ok (.putfield 29, 3) := by decide +kernel
theorem dX4_giveWater_10 : decode cX4_giveWater 10 = .ok (.iload_n 2, 1) := by decide +kernel
theorem dX4_giveWater_11 : decode cX4_giveWater 11 = .ok (.ireturn, 1) := by decide +kernel
theorem dX4_paceBy_0 : decode cX4_paceBy 0 = .ok (.aload_n 0, 1) := by decide +kernel
theorem dX4_paceBy_1 : decode cX4_paceBy 1 = .ok (.iconst 0, 1) := by decide +kernel
theorem dX4_paceBy_2 : decode cX4_paceBy 2 = .ok (.iconst 0, 1) := by decide +kernel
theorem dX4_paceBy_3 : decode cX4_paceBy 3 = .ok (.iload_n 2, 1) := by decide +kernel
theorem dX4_paceBy_4 : decode cX4_paceBy 4 = .ok (.iload_n 3, 1) := by decide +kernel
theorem dX4_paceBy_5 : decode cX4_paceBy 5 = .ok (.iconst 0, 1) := by decide +kernel
theorem dX4_paceBy_6 : decode cX4_paceBy 6 = .ok (.iload 6, 2) := by decide +kernel
theorem dX4_paceBy_8 : decode cX4_paceBy 8 = .ok (.iload 7, 2) := by decide +kernel
theorem dX4_paceBy_10 : decode cX4_paceBy 10 = .ok (.invokevirtual 47, 3) := by decide +kernel
theorem dX4_paceBy_13 : decode cX4_paceBy 13 = .ok (.aload_n 0, 1) := by decide +kernel
theorem dX4_paceBy_14 : decode cX4_paceBy 14 = .ok (.getfield 20, 3) := by decide +kernel
theorem dX4_paceBy_17 : decode cX4_paceBy 17 = .ok (.iconst 5, 1) := by decide +kernel
theorem dX4_paceBy_18 : decode cX4_paceBy 18 = .ok (.iload 4, 2) := by decide +kernel
theorem dX4_paceBy_20 : decode cX4_paceBy 20 = .ok (.iastore, 1) := by decide +kernel
theorem dX4_paceBy_21 : decode cX4_paceBy 21 = .ok (.aload_n 0, 1) := by decide +kernel
theorem dX4_paceBy_22 : decode cX4_paceBy 22 = .ok (.getfield 20, 3) := by decide +kernel
theorem dX4_paceBy_25 : decode cX4_paceBy 25 = .ok (.bipush 6, 2) := by decide +kernel
theorem dX4_paceBy_27 : decode cX4_paceBy 27 = .ok (.iload 5, 2) := by decide +kernel
theorem dX4_paceBy_29 : decode cX4_paceBy 29 = .ok (.iastore, 1) := by decide +kernel
theorem dX4_paceBy_30 : decode cX4_paceBy 30 = .ok (.aload_n 0, 1) := by decide +kernel
theorem dX4_paceBy_31 : decode cX4_paceBy 31 = .ok (.iload_n 1, 1) := by decide +kernel
theorem dX4_paceBy_32 : decode cX4_paceBy 32 = .ok (.invokevirtual 51, 3) := by decide +kernel
theorem dX4_paceBy_35 : decode cX4_paceBy 35 = .ok (.ifCond .eq 19, 3) := by decide +kernel
theorem dX4_paceBy_38 : decode cX4_paceBy 38 = .ok (.aload_n 0, 1) := by decide +kernel
theorem dX4_paceBy_39 : decode cX4_paceBy 39 = .ok (.getfield 24, 3) := by decide +kernel
theorem dX4_paceBy_42 : decode cX4_paceBy 42 = .ok (.iload_n 1, 1) := by decide +kernel
theorem dX4_paceBy_43 : decode cX4_paceBy 43 = .ok (.aaload, 1) := by decide +kernel
theorem dX4_paceBy_44 : decode cX4_paceBy 44 = .ok (.aload_n 0, 1) := by decide +kernel
theorem dX4_paceBy_45 : decode cX4_paceBy 45 = .ok (.getfield 20, 3) := by decide +kernel
theorem dX4_paceBy_48 : decode cX4_paceBy 48 = .ok (.invokevirtual 55, 3) := by decide +kernel
theorem dX4_paceBy_51 : decode cX4_paceBy 51 = .ok (.goto 4, 3) := by decide +kernel
theorem dX4_paceBy_54 : decode cX4_paceBy 54 = .ok (.iconst 0, 1) := by decide +kernel
theorem dX4_paceBy_55 : decode cX4_paceBy 55 = .ok (.istore 8, 2) := by decide +kernel
theorem dX4_paceBy_57 : decode cX4_paceBy 57 = .ok (.iconst 0, 1) := by decide +kernel
theorem dX4_paceBy_58 : decode cX4_paceBy 58 = .ok (.sipush 1200, 3) := by decide +kernel
theorem dX4_paceBy_61 : decode cX4_paceBy 61 = .ok (.iload 8, 2) := by decide +kernel
theorem dX4_paceBy_63 : decode cX4_paceBy 63 = .ok (.invokestatic 61, 3) := by decide +kernel
theorem dX4_paceBy_66 : decode cX4_paceBy 66 = .ok (.invokestatic 67, 3) := by decide +kernel
theorem dX4_paceBy_69 : decode cX4_paceBy 69 = .ok (.ireturn, 1) := by decide +kernel
theorem dX4_drain_0 : decode cX4_drain 0 = .ok (.iconst 0, 1) := by decide +kernel
theorem dX4_drain_1 : decode cX4_drain 1 = .ok (.istore 7, 2) := by decide +kernel
theorem dX4_drain_3 : decode cX4_drain 3 = .ok (.iload 7, 2) := by decide +kernel
theorem dX4_drain_5 : decode cX4_drain 5 = .ok (.aload_n 1, 1) := by decide +kernel
theorem dX4_drain_6 : decode cX4_drain 6 = .ok (.getfield 70, 3) := by decide +kernel
theorem dX4_drain_9 : decode cX4_drain 9 = .ok (.if_icmp .ge 99, 3) := by decide +kernel
theorem dX4_drain_12 : decode cX4_drain 12 = .ok (.aload_n 1, 1) := by decide +kernel
theorem dX4_drain_13 : decode cX4_drain 13 = .ok (.iload 7, 2) := by decide +kernel
theorem dX4_drain_15 : decode cX4_drain 15 = .ok (.iconst 1, 1) := by decide +kernel
theorem dX4_drain_16 : decode cX4_drain 16 = .ok (.invokevirtual 73, 3) := by decide +kernel
theorem dX4_drain_19 : decode cX4_drain 19 = .ok (.istore 8, 2) := by decide +kernel
theorem dX4_drain_21 : decode cX4_drain 21 = .ok (.iload 8, 2) := by decide +kernel
theorem dX4_drain_23 : decode cX4_drain 23 = .ok (.iload_n 3, 1) := by decide +kernel
theorem dX4_drain_24 : decode cX4_drain 24 = .ok (.imul, 1) := by decide +kernel
theorem dX4_drain_25 : decode cX4_drain 25 = .ok (.sipush 6000, 3) := by decide +kernel
theorem dX4_drain_28 : decode cX4_drain 28 = .ok (.idiv, 1) := by decide +kernel
theorem dX4_drain_29 : decode cX4_drain 29 = .ok (.istore 9, 2) := by decide +kernel
theorem dX4_drain_31 : decode cX4_drain 31 = .ok (.aload_n 0, 1) := by decide +kernel
theorem dX4_drain_32 : decode cX4_drain 32 = .ok (.aload_n 0, 1) := by decide +kernel
theorem dX4_drain_33 : decode cX4_drain 33 = .ok (.getfield 29, 3) := by decide +kernel
theorem dX4_drain_36 : decode cX4_drain 36 = .ok (.invokevirtual 51, 3) := by decide +kernel
theorem dX4_drain_39 : decode cX4_drain 39 = .ok (.ifCond .eq 51, 3) := by decide +kernel
theorem dX4_drain_42 : decode cX4_drain 42 = .ok (.aload_n 0, 1) := by decide +kernel
theorem dX4_drain_43 : decode cX4_drain 43 = .ok (.iload 8, 2) := by decide +kernel
theorem dX4_drain_45 : decode cX4_drain 45 = .ok (.aload_n 1, 1) := by decide +kernel
theorem dX4_drain_46 : decode cX4_drain 46 = .ok (.iload 7, 2) := by decide +kernel
theorem dX4_drain_48 : decode cX4_drain 48 = .ok (.iconst 3, 1) := by decide +kernel
theorem dX4_drain_49 : decode cX4_drain 49 = .ok (.invokevirtual 73, 3) := by decide +kernel
theorem dX4_drain_52 : decode cX4_drain 52 = .ok (.iload_n 3, 1) := by decide +kernel
theorem dX4_drain_53 : decode cX4_drain 53 = .ok (.iload 4, 2) := by decide +kernel
theorem dX4_drain_55 : decode cX4_drain 55 = .ok (.iload_n 2, 1) := by decide +kernel
theorem dX4_drain_56 : decode cX4_drain 56 = .ok (.iload 5, 2) := by decide +kernel
theorem dX4_drain_58 : decode cX4_drain 58 = .ok (.iload 6, 2) := by decide +kernel
theorem dX4_drain_60 : decode cX4_drain 60 = .ok (.invokevirtual 47, 3) := by decide +kernel
theorem dX4_drain_63 : decode cX4_drain 63 = .ok (.iconst 0, 1) := by decide +kernel
theorem dX4_drain_64 : decode cX4_drain 64 = .ok (.iload 8, 2) := by decide +kernel
theorem dX4_drain_66 : decode cX4_drain 66 = .ok (.aload_n 0, 1) := by decide +kernel
theorem dX4_drain_67 : decode cX4_drain 67 = .ok (.getfield 24, 3) := by decide +kernel
theorem dX4_drain_70 : decode cX4_drain 70 = .ok (.aload_n 0, 1) := by decide +kernel
theorem dX4_drain_71 : decode cX4_drain 71 = .ok (.getfield 29, 3) := by decide +kernel
theorem dX4_drain_74 : decode cX4_drain 74 = .ok (.aaload, 1) := by decide +kernel
theorem dX4_drain_75 : decode cX4_drain 75 = .ok (.aload_n 0, 1) := by decide +kernel
theorem dX4_drain_76 : decode cX4_drain 76 = .ok (.getfield 20, 3) := by decide +kernel
theorem dX4_drain_79 : decode cX4_drain 79 = .ok (.invokevirtual 55, 3) := by decide +kernel
theorem dX4_drain_82 : decode cX4_drain 82 = .ok (.invokestatic 61, 3) := by decide +kernel
theorem dX4_drain_85 : decode cX4_drain 85 = .ok (.invokestatic 67, 3) := by decide +kernel
theorem dX4_drain_88 : decode cX4_drain 88 = .ok (.istore 9, 2) := by decide +kernel
theorem dX4_drain_90 : decode cX4_drain 90 = .ok (.aload_n 1, 1) := by decide +kernel
theorem dX4_drain_91 : decode cX4_drain 91 = .ok (.iload 7, 2) := by decide +kernel
theorem dX4_drain_93 : decode cX4_drain 93 = .ok (.iconst 1, 1) := by decide +kernel
theorem dX4_drain_94 : decode cX4_drain 94 = .ok (.iload 8, 2) := by decide +kernel
theorem dX4_drain_96 : decode cX4_drain 96 = .ok (.iload 9, 2) := by decide +kernel
theorem dX4_drain_98 : decode cX4_drain 98 = .ok (.isub, 1) := by decide +kernel
theorem dX4_drain_99 : decode cX4_drain 99 = .ok (.invokevirtual 76, 3) := by decide +kernel
theorem dX4_drain_102 : decode cX4_drain 102 = .ok (.iinc 7 1, 3) := by decide +kernel
theorem dX4_drain_105 : decode cX4_drain 105 = .ok (.goto (-102), 3) := by decide +kernel
theorem dX4_drain_108 : decode cX4_drain 108 = .ok (.return_, 1) := by decide +kernel
theorem dX4_name_0 : decode cX4_name 0 = .ok (.aload_n 0, 1) := by decide +kernel
theorem dX4_name_1 : decode cX4_name 1 = .ok (.getfield 20, 3) := by decide +kernel
theorem dX4_name_4 : decode cX4_name 4 = .ok (.iconst 0, 1) := by decide +kernel
theorem dX4_name_5 : decode cX4_name 5 = .ok (.iload_n 1, 1) := by decide +kernel
theorem dX4_name_6 : decode cX4_name 6 = .ok (.iastore, 1) := by decide +kernel
theorem dX4_name_7 : decode cX4_name 7 = .ok (.aload_n 0, 1) := by decide +kernel
theorem dX4_name_8 : decode cX4_name 8 = .ok (.getfield 20, 3) := by decide +kernel
theorem dX4_name_11 : decode cX4_name 11 = .ok (.iconst 1, 1) := by decide +kernel
theorem dX4_name_12 : decode cX4_name 12 = .ok (.iload_n 2, 1) := by decide +kernel
theorem dX4_name_13 : decode cX4_name 13 = .ok (.iastore, 1) := by decide +kernel
theorem dX4_name_14 : decode cX4_name 14 = .ok (.aload_n 0, 1) := by decide +kernel
theorem dX4_name_15 : decode cX4_name 15 = .ok (.getfield 20, 3) := by decide +kernel
theorem dX4_name_18 : decode cX4_name 18 = .ok (.iconst 2, 1) := by decide +kernel
theorem dX4_name_19 : decode cX4_name 19 = .ok (.iload_n 3, 1) := by decide +kernel
theorem dX4_name_20 : decode cX4_name 20 = .ok (.iastore, 1) := by decide +kernel
theorem dX4_name_21 : decode cX4_name 21 = .ok (.aload_n 0, 1) := by decide +kernel
theorem dX4_name_22 : decode cX4_name 22 = .ok (.getfield 20, 3) := by decide +kernel
theorem dX4_name_25 : decode cX4_name 25 = .ok (.iconst 3, 1) := by decide +kernel
theorem dX4_name_26 : decode cX4_name 26 = .ok (.iload 4, 2) := by decide +kernel
theorem dX4_name_28 : decode cX4_name 28 = .ok (.iastore, 1) := by decide +kernel
theorem dX4_name_29 : decode cX4_name 29 = .ok (.aload_n 0, 1) := by decide +kernel
theorem dX4_name_30 : decode cX4_name 30 = .ok (.getfield 20, 3) := by decide +kernel
theorem dX4_name_33 : decode cX4_name 33 = .ok (.iconst 4, 1) := by decide +kernel
theorem dX4_name_34 : decode cX4_name 34 = .ok (.iload 5, 2) := by decide +kernel
theorem dX4_name_36 : decode cX4_name 36 = .ok (.iastore, 1) := by decide +kernel
theorem dX4_name_37 : decode cX4_name 37 = .ok (.aload_n 0, 1) := by decide +kernel
theorem dX4_name_38 : decode cX4_name 38 = .ok (.getfield 20, 3) := by decide +kernel
theorem dX4_name_41 : decode cX4_name 41 = .ok (.iconst 5, 1) := by decide +kernel
theorem dX4_name_42 : decode cX4_name 42 = .ok (.iconst 0, 1) := by decide +kernel
theorem dX4_name_43 : decode cX4_name 43 = .ok (.iastore, 1) := by decide +kernel
theorem dX4_name_44 : decode cX4_name 44 = .ok (.aload_n 0, 1) := by decide +kernel
theorem dX4_name_45 : decode cX4_name 45 = .ok (.getfield 20, 3) := by decide +kernel
theorem dX4_name_48 : decode cX4_name 48 = .ok (.bipush 6, 2) := by decide +kernel
theorem dX4_name_50 : decode cX4_name 50 = .ok (.iconst 0, 1) := by decide +kernel
theorem dX4_name_51 : decode cX4_name 51 = .ok (.iastore, 1) := by decide +kernel
theorem dX4_name_52 : decode cX4_name 52 = .ok (.aload_n 0, 1) := by decide +kernel
theorem dX4_name_53 : decode cX4_name 53 = .ok (.getfield 20, 3) := by decide +kernel
theorem dX4_name_56 : decode cX4_name 56 = .ok (.bipush 7, 2) := by decide +kernel
theorem dX4_name_58 : decode cX4_name 58 = .ok (.iload 6, 2) := by decide +kernel
theorem dX4_name_60 : decode cX4_name 60 = .ok (.iastore, 1) := by decide +kernel
theorem dX4_name_61 : decode cX4_name 61 = .ok (.aload_n 0, 1) := by decide +kernel
theorem dX4_name_62 : decode cX4_name 62 = .ok (.getfield 20, 3) := by decide +kernel
theorem dX4_name_65 : decode cX4_name 65 = .ok (.bipush 8, 2) := by decide +kernel
theorem dX4_name_67 : decode cX4_name 67 = .ok (.iload 7, 2) := by decide +kernel
theorem dX4_name_69 : decode cX4_name 69 = .ok (.iastore, 1) := by decide +kernel
theorem dX4_name_70 : decode cX4_name 70 = .ok (.return_, 1) := by decide +kernel
theorem dX5_isPace_0 : decode cX5_isPace 0 = .ok (.iload_n 0, 1) := by decide +kernel
theorem dX5_isPace_1 : decode cX5_isPace 1 = .ok (.ifCond .lt 14, 3) := by decide +kernel
theorem dX5_isPace_4 : decode cX5_isPace 4 = .ok (.iload_n 0, 1) := by decide +kernel
theorem dX5_isPace_5 : decode cX5_isPace 5 = .ok (.sipush 1200, 3) := by decide +kernel
theorem dX5_isPace_8 : decode cX5_isPace 8 = .ok (.if_icmp .gt 7, 3) := by decide +kernel
theorem dX5_isPace_11 : decode cX5_isPace 11 = .ok (.iconst 1, 1) := by decide +kernel
theorem dX5_isPace_12 : decode cX5_isPace 12 = .ok (.goto 4, 3) := by decide +kernel
theorem dX5_isPace_15 : decode cX5_isPace 15 = .ok (.iconst 0, 1) := by decide +kernel
theorem dX5_isPace_16 : decode cX5_isPace 16 = .ok (.ireturn, 1) := by decide +kernel
theorem dX5_isGoal_0 : decode cX5_isGoal 0 = .ok (.iload_n 0, 1) := by decide +kernel
theorem dX5_isGoal_1 : decode cX5_isGoal 1 = .ok (.bipush 100, 2) := by decide +kernel
theorem dX5_isGoal_3 : decode cX5_isGoal 3 = .ok (.if_icmp .lt 14, 3) := by decide +kernel
theorem dX5_isGoal_6 : decode cX5_isGoal 6 = .ok (.iload_n 0, 1) := by decide +kernel
theorem dX5_isGoal_7 : decode cX5_isGoal 7 = .ok (.sipush 1200, 3) := by decide +kernel
theorem dX5_isGoal_10 : decode cX5_isGoal 10 = .ok (.if_icmp .gt 7, 3) := by decide +kernel
theorem dX5_isGoal_13 : decode cX5_isGoal 13 = .ok (.iconst 1, 1) := by decide +kernel
theorem dX5_isGoal_14 : decode cX5_isGoal 14 = .ok (.goto 4, 3) := by decide +kernel
theorem dX5_isGoal_17 : decode cX5_isGoal 17 = .ok (.iconst 0, 1) := by decide +kernel
theorem dX5_isGoal_18 : decode cX5_isGoal 18 = .ok (.ireturn, 1) := by decide +kernel
theorem dX5_isTold_0 : decode cX5_isTold 0 = .ok (.iload_n 0, 1) := by decide +kernel
theorem dX5_isTold_1 : decode cX5_isTold 1 = .ok (.tableswitch 122 0 4 #[35, 54, 72, 88, 104], 35) := by decide +kernel
theorem dX5_isTold_36 : decode cX5_isTold 36 = .ok (.iload_n 1, 1) := by decide +kernel
theorem dX5_isTold_37 : decode cX5_isTold 37 = .ok (.bipush 100, 2) := by decide +kernel
theorem dX5_isTold_39 : decode cX5_isTold 39 = .ok (.if_icmp .lt 14, 3) := by decide +kernel
theorem dX5_isTold_42 : decode cX5_isTold 42 = .ok (.iload_n 1, 1) := by decide +kernel
theorem dX5_isTold_43 : decode cX5_isTold 43 = .ok (.sipush 900, 3) := by decide +kernel
theorem dX5_isTold_46 : decode cX5_isTold 46 = .ok (.if_icmp .gt 7, 3) := by decide +kernel
