theorem dX5_isTold_49 : decode cX5_isTold 49 = .ok (.iconst 1, 1) := by decide +kernel
theorem dX5_isTold_50 : decode cX5_isTold 50 = .ok (.goto 4, 3) := by decide +kernel
theorem dX5_isTold_53 : decode cX5_isTold 53 = .ok (.iconst 0, 1) := by decide +kernel
theorem dX5_isTold_54 : decode cX5_isTold 54 = .ok (.ireturn, 1) := by decide +kernel
theorem dX5_isTold_55 : decode cX5_isTold 55 = .ok (.iload_n 1, 1) := by decide +kernel
theorem dX5_isTold_56 : decode cX5_isTold 56 = .ok (.iconst 1, 1) := by decide +kernel
theorem dX5_isTold_57 : decode cX5_isTold 57 = .ok (.if_icmp .lt 14, 3) := by decide +kernel
theorem dX5_isTold_60 : decode cX5_isTold 60 = .ok (.iload_n 1, 1) := by decide +kernel
theorem dX5_isTold_61 : decode cX5_isTold 61 = .ok (.sipush 9999, 3) := by decide +kernel
theorem dX5_isTold_64 : decode cX5_isTold 64 = .ok (.if_icmp .gt 7, 3) := by decide +kernel
theorem dX5_isTold_67 : decode cX5_isTold 67 = .ok (.iconst 1, 1) := by decide +kernel
theorem dX5_isTold_68 : decode cX5_isTold 68 = .ok (.goto 4, 3) := by decide +kernel
theorem dX5_isTold_71 : decode cX5_isTold 71 = .ok (.iconst 0, 1) := by decide +kernel
theorem dX5_isTold_72 : decode cX5_isTold 72 = .ok (.ireturn, 1) := by decide +kernel
theorem dX5_isTold_73 : decode cX5_isTold 73 = .ok (.iload_n 1, 1) := by decide +kernel
theorem dX5_isTold_74 : decode cX5_isTold 74 = .ok (.ifCond .lt 13, 3) := by decide +kernel
theorem dX5_isTold_77 : decode cX5_isTold 77 = .ok (.iload_n 1, 1) := by decide +kernel
theorem dX5_isTold_78 : decode cX5_isTold 78 = .ok (.bipush 9, 2) := by decide +kernel
theorem dX5_isTold_80 : decode cX5_isTold 80 = .ok (.if_icmp .gt 7, 3) := by decide +kernel
theorem dX5_isTold_83 : decode cX5_isTold 83 = .ok (.iconst 1, 1) := by decide +kernel
theorem dX5_isTold_84 : decode cX5_isTold 84 = .ok (.goto 4, 3) := by decide +kernel
theorem dX5_isTold_87 : decode cX5_isTold 87 = .ok (.iconst 0, 1) := by decide +kernel
theorem dX5_isTold_88 : decode cX5_isTold 88 = .ok (.ireturn, 1) := by decide +kernel
theorem dX5_isTold_89 : decode cX5_isTold 89 = .ok (.iload_n 1, 1) := by decide +kernel
theorem dX5_isTold_90 : decode cX5_isTold 90 = .ok (.ifCond .lt 13, 3) := by decide +kernel
theorem dX5_isTold_93 : decode cX5_isTold 93 = .ok (.iload_n 1, 1) := by decide +kernel
theorem dX5_isTold_94 : decode cX5_isTold 94 = .ok (.bipush 50, 2) := by decide +kernel
theorem dX5_isTold_96 : decode cX5_isTold 96 = .ok (.if_icmp .gt 7, 3) := by decide +kernel
theorem dX5_isTold_99 : decode cX5_isTold 99 = .ok (.iconst 1, 1) := by decide +kernel
theorem dX5_isTold_100 : decode cX5_isTold 100 = .ok (.goto 4, 3) := by decide +kernel
theorem dX5_isTold_103 : decode cX5_isTold 103 = .ok (.iconst 0, 1) := by decide +kernel
theorem dX5_isTold_104 : decode cX5_isTold 104 = .ok (.ireturn, 1) := by decide +kernel
theorem dX5_isTold_105 : decode cX5_isTold 105 = .ok (.iload_n 1, 1) := by decide +kernel
theorem dX5_isTold_106 : decode cX5_isTold 106 = .ok (.iconst 1, 1) := by decide +kernel
theorem dX5_isTold_107 : decode cX5_isTold 107 = .ok (.if_icmp .lt 14, 3) := by decide +kernel
theorem dX5_isTold_110 : decode cX5_isTold 110 = .ok (.iload_n 1, 1) := by decide +kernel
theorem dX5_isTold_111 : decode cX5_isTold 111 = .ok (.sipush 9999, 3) := by decide +kernel
theorem dX5_isTold_114 : decode cX5_isTold 114 = .ok (.if_icmp .gt 7, 3) := by decide +kernel
theorem dX5_isTold_117 : decode cX5_isTold 117 = .ok (.iconst 1, 1) := by decide +kernel
theorem dX5_isTold_118 : decode cX5_isTold 118 = .ok (.goto 4, 3) := by decide +kernel
theorem dX5_isTold_121 : decode cX5_isTold 121 = .ok (.iconst 0, 1) := by decide +kernel
theorem dX5_isTold_122 : decode cX5_isTold 122 = .ok (.ireturn, 1) := by decide +kernel
theorem dX5_isTold_123 : decode cX5_isTold 123 = .ok (.iconst 0, 1) := by decide +kernel
theorem dX5_isTold_124 : decode cX5_isTold 124 = .ok (.ireturn, 1) := by decide +kernel
theorem dX5_tell_0 : decode cX5_tell 0 = .ok (.aload_n 0, 1) := by decide +kernel
theorem dX5_tell_1 : decode cX5_tell 1 = .ok (.iload_n 1, 1) := by decide +kernel
theorem dX5_tell_2 : decode cX5_tell 2 = .ok (.invokevirtual 31, 3) := by decide +kernel
theorem dX5_tell_5 : decode cX5_tell 5 = .ok (.istore_n 3, 1) := by decide +kernel
theorem dX5_tell_6 : decode cX5_tell 6 = .ok (.iload_n 1, 1) := by decide +kernel
theorem dX5_tell_7 : decode cX5_tell 7 = .ok (.ifCond .ne 8, 3) := by decide +kernel
theorem dX5_tell_10 : decode cX5_tell 10 = .ok (.aload_n 0, 1) := by decide +kernel
theorem dX5_tell_11 : decode cX5_tell 11 = .ok (.iload_n 2, 1) := by decide +kernel
theorem dX5_tell_12 : decode cX5_tell 12 = .ok (.putfield 9, 3) := by decide +kernel
theorem dX5_tell_15 : decode cX5_tell 15 = .ok (.iload_n 1, 1) := by decide +kernel
theorem dX5_tell_16 : decode cX5_tell 16 = .ok (.iconst 1, 1) := by decide +kernel
theorem dX5_tell_17 : decode cX5_tell 17 = .ok (.if_icmp .ne 8, 3) := by decide +kernel
theorem dX5_tell_20 : decode cX5_tell 20 = .ok (.aload_n 0, 1) := by decide +kernel
theorem dX5_tell_21 : decode cX5_tell 21 = .ok (.iload_n 2, 1) := by decide +kernel
theorem dX5_tell_22 : decode cX5_tell 22 = .ok (.putfield 15, 3) := by decide +kernel
theorem dX5_tell_25 : decode cX5_tell 25 = .ok (.iload_n 1, 1) := by decide +kernel
theorem dX5_tell_26 : decode cX5_tell 26 = .ok (.iconst 2, 1) := by decide +kernel
theorem dX5_tell_27 : decode cX5_tell 27 = .ok (.if_icmp .ne 8, 3) := by decide +kernel
theorem dX5_tell_30 : decode cX5_tell 30 = .ok (.aload_n 0, 1) := by decide +kernel
theorem dX5_tell_31 : decode cX5_tell 31 = .ok (.iload_n 2, 1) := by decide +kernel
theorem dX5_tell_32 : decode cX5_tell 32 = .ok (.putfield 35, 3) := by decide +kernel
theorem dX5_tell_35 : decode cX5_tell 35 = .ok (.iload_n 1, 1) := by decide +kernel
theorem dX5_tell_36 : decode cX5_tell 36 = .ok (.iconst 3, 1) := by decide +kernel
theorem dX5_tell_37 : decode cX5_tell 37 = .ok (.if_icmp .ne 8, 3) := by decide +kernel
theorem dX5_tell_40 : decode cX5_tell 40 = .ok (.aload_n 0, 1) := by decide +kernel
theorem dX5_tell_41 : decode cX5_tell 41 = .ok (.iload_n 2, 1) := by decide +kernel
theorem dX5_tell_42 : decode cX5_tell 42 = .ok (.putfield 38, 3) := by decide +kernel
theorem dX5_tell_45 : decode cX5_tell 45 = .ok (.iload_n 1, 1) := by decide +kernel
theorem dX5_tell_46 : decode cX5_tell 46 = .ok (.iconst 4, 1) := by decide +kernel
theorem dX5_tell_47 : decode cX5_tell 47 = .ok (.if_icmp .ne 8, 3) := by decide +kernel
theorem dX5_tell_50 : decode cX5_tell 50 = .ok (.aload_n 0, 1) := by decide +kernel
theorem dX5_tell_51 : decode cX5_tell 51 = .ok (.iload_n 2, 1) := by decide +kernel
theorem dX5_tell_52 : decode cX5_tell 52 = .ok (.putfield 18, 3) := by decide +kernel
theorem dX5_tell_55 : decode cX5_tell 55 = .ok (.iload_n 3, 1) := by decide +kernel
theorem dX5_tell_56 : decode cX5_tell 56 = .ok (.ireturn, 1) := by decide +kernel
theorem dX5_told_0 : decode cX5_told 0 = .ok (.iload_n 1, 1) := by decide +kernel
theorem dX5_told_1 : decode cX5_told 1 = .ok (.tableswitch 60 0 4 #[35, 40, 45, 50, 55], 35) := by decide +kernel
theorem dX5_told_36 : decode cX5_told 36 = .ok (.aload_n 0, 1) := by decide +kernel
theorem dX5_told_37 : decode cX5_told 37 = .ok (.getfield 9, 3) := by decide +kernel
theorem dX5_told_40 : decode cX5_told 40 = .ok (.ireturn, 1) := by decide +kernel
theorem dX5_told_41 : decode cX5_told 41 = .ok (.aload_n 0, 1) := by decide +kernel
theorem dX5_told_42 : decode cX5_told 42 = .ok (.getfield 15, 3) := by decide +kernel
theorem dX5_told_45 : decode cX5_told 45 = .ok (.ireturn, 1) := by decide +kernel
theorem dX5_told_46 : decode cX5_told 46 = .ok (.aload_n 0, 1) := by decide +kernel
theorem dX5_told_47 : decode cX5_told 47 = .ok (.getfield 35, 3) := by decide +kernel
theorem dX5_told_50 : decode cX5_told 50 = .ok (.ireturn, 1) := by decide +kernel
theorem dX5_told_51 : decode cX5_told 51 = .ok (.aload_n 0, 1) := by decide +kernel
theorem dX5_told_52 : decode cX5_told 52 = .ok (.getfield 38, 3) := by decide +kernel
theorem dX5_told_55 : decode cX5_told 55 = .ok (.ireturn, 1) := by decide +kernel
theorem dX5_told_56 : decode cX5_told 56 = .ok (.aload_n 0, 1) := by decide +kernel
theorem dX5_told_57 : decode cX5_told 57 = .ok (.getfield 18, 3) := by decide +kernel
theorem dX5_told_60 : decode cX5_told 60 = .ok (.ireturn, 1) := by decide +kernel
theorem dX5_told_61 : decode cX5_told 61 = .ok (.iconst (-1), 1) := by decide +kernel
theorem dX5_told_62 : decode cX5_told 62 = .ok (.ireturn, 1) := by decide +kernel
theorem dX5_isFloor_0 : decode cX5_isFloor 0 = .ok (.iload_n 0, 1) := by decide +kernel
theorem dX5_isFloor_1 : decode cX5_isFloor 1 = .ok (.iconst 1, 1) := by decide +kernel
theorem dX5_isFloor_2 : decode cX5_isFloor 2 = .ok (.if_icmp .lt 38, 3) := by decide +kernel
theorem dX5_isFloor_5 : decode cX5_isFloor 5 = .ok (.iload_n 0, 1) := by decide +kernel
theorem dX5_isFloor_6 : decode cX5_isFloor 6 = .ok (.sipush 999, 3) := by decide +kernel
theorem dX5_isFloor_9 : decode cX5_isFloor 9 = .ok (.if_icmp .gt 31, 3) := by decide +kernel
theorem dX5_isFloor_12 : decode cX5_isFloor 12 = .ok (.iload_n 1, 1) := by decide +kernel
theorem dX5_isFloor_13 : decode cX5_isFloor 13 = .ok (.bipush (-9), 2) := by decide +kernel
theorem dX5_isFloor_15 : decode cX5_isFloor 15 = .ok (.if_icmp .lt 25, 3) := by decide +kernel
theorem dX5_isFloor_18 : decode cX5_isFloor 18 = .ok (.iload_n 1, 1) := by decide +kernel
theorem dX5_isFloor_19 : decode cX5_isFloor 19 = .ok (.bipush 9, 2) := by decide +kernel
theorem dX5_isFloor_21 : decode cX5_isFloor 21 = .ok (.if_icmp .gt 19, 3) := by decide +kernel
theorem dX5_isFloor_24 : decode cX5_isFloor 24 = .ok (.iload_n 2, 1) := by decide +kernel
theorem dX5_isFloor_25 : decode cX5_isFloor 25 = .ok (.bipush (-9), 2) := by decide +kernel
theorem dX5_isFloor_27 : decode cX5_isFloor 27 = .ok (.if_icmp .lt 13, 3) := by decide +kernel
theorem dX5_isFloor_30 : decode cX5_isFloor 30 = .ok (.iload_n 2, 1) := by decide +kernel
theorem dX5_isFloor_31 : decode cX5_isFloor 31 = .ok (.bipush 9, 2) := by decide +kernel
theorem dX5_isFloor_33 : decode cX5_isFloor 33 = .ok (.if_icmp .gt 7, 3) := by decide +kernel
theorem dX5_isFloor_36 : decode cX5_isFloor 36 = .ok (.iconst 1, 1) := by decide +kernel
theorem dX5_isFloor_37 : decode cX5_isFloor 37 = .ok (.goto 4, 3) := by decide +kernel
theorem dX5_isFloor_40 : decode cX5_isFloor 40 = .ok (.iconst 0, 1) := by decide +kernel
theorem dX5_isFloor_41 : decode cX5_isFloor 41 = .ok (.ireturn, 1) := by decide +kernel
theorem dX5_floorsAreFull_0 : decode cX5_floorsAreFull 0 = .ok (.aload_n 0, 1) := by decide +kernel
theorem dX5_floorsAreFull_1 : decode cX5_floorsAreFull 1 = .ok (.getfield 41, 3) := by decide +kernel
theorem dX5_floorsAreFull_4 : decode cX5_floorsAreFull 4 = .ok (.iconst 4, 1) := by decide +kernel
theorem dX5_floorsAreFull_5 : decode cX5_floorsAreFull 5 = .ok (.if_icmp .lt 7, 3) := by decide +kernel
theorem dX5_floorsAreFull_8 : decode cX5_floorsAreFull 8 = .ok (.iconst 1, 1) := by decide +kernel
theorem dX5_floorsAreFull_9 : decode cX5_floorsAreFull 9 = .ok (.goto 4, 3) := by decide +kernel
theorem dX5_floorsAreFull_12 : decode cX5_floorsAreFull 12 = .ok (.iconst 0, 1) := by decide +kernel
theorem dX5_floorsAreFull_13 : decode cX5_floorsAreFull 13 = .ok (.ireturn, 1) := by decide +kernel
theorem dX5_hasFloor_0 : decode cX5_hasFloor 0 = .ok (.iload_n 1, 1) := by decide +kernel
theorem dX5_hasFloor_1 : decode cX5_hasFloor 1 = .ok (.ifCond .lt 15, 3) := by decide +kernel
theorem dX5_hasFloor_4 : decode cX5_hasFloor 4 = .ok (.iload_n 1, 1) := by decide +kernel
theorem dX5_hasFloor_5 : decode cX5_hasFloor 5 = .ok (.aload_n 0, 1) := by decide +kernel
theorem dX5_hasFloor_6 : decode cX5_hasFloor 6 = .ok (.getfield 41, 3) := by decide +kernel
theorem dX5_hasFloor_9 : decode cX5_hasFloor 9 = .ok (.if_icmp .ge 7, 3) := by decide +kernel
theorem dX5_hasFloor_12 : decode cX5_hasFloor 12 = .ok (.iconst 1, 1) := by decide +kernel
theorem dX5_hasFloor_13 : decode cX5_hasFloor 13 = .ok (.goto 4, 3) := by decide +kernel
theorem dX5_hasFloor_16 : decode cX5_hasFloor 16 = .ok (.iconst 0, 1) := by decide +kernel
theorem dX5_hasFloor_17 : decode cX5_hasFloor 17 = .ok (.ireturn, 1) := by decide +kernel
theorem dX5_layFloor_0 : decode cX5_layFloor 0 = .ok (.aload_n 0, 1) := by decide +kernel
theorem dX5_layFloor_1 : decode cX5_layFloor 1 = .ok (.getfield 41, 3) := by decide +kernel
theorem dX5_layFloor_4 : decode cX5_layFloor 4 = .ok (.iconst 4, 1) := by decide +kernel
theorem dX5_layFloor_5 : decode cX5_layFloor 5 = .ok (.if_icmp .lt 6, 3) := by decide +kernel
theorem dX5_layFloor_8 : decode cX5_layFloor 8 = .ok (.bipush (-3), 2) := by decide +kernel
theorem dX5_layFloor_10 : decode cX5_layFloor 10 = .ok (.ireturn, 1) := by decide +kernel
theorem dX5_layFloor_11 : decode cX5_layFloor 11 = .ok (.aload_n 0, 1) := by decide +kernel
theorem dX5_layFloor_12 : decode cX5_layFloor 12 = .ok (.getfield 21, 3) := by decide +kernel
theorem dX5_layFloor_15 : decode cX5_layFloor 15 = .ok (.aload_n 0, 1) := by decide +kernel
theorem dX5_layFloor_16 : decode cX5_layFloor 16 = .ok (.getfield 41, 3) := by decide +kernel
theorem dX5_layFloor_19 : decode cX5_layFloor 19 = .ok (.iload_n 1, 1) := by decide +kernel
theorem dX5_layFloor_20 : decode cX5_layFloor 20 = .ok (.iastore, 1) := by decide +kernel
theorem dX5_layFloor_21 : decode cX5_layFloor 21 = .ok (.aload_n 0, 1) := by decide +kernel
theorem dX5_layFloor_22 : decode cX5_layFloor 22 = .ok (.getfield 25, 3) := by decide +kernel
theorem dX5_layFloor_25 : decode cX5_layFloor 25 = .ok (.aload_n 0, 1) := by decide +kernel
theorem dX5_layFloor_26 : decode cX5_layFloor 26 = .ok (.getfield 41, 3) := by decide +kernel
theorem dX5_layFloor_29 : decode cX5_layFloor 29 = .ok (.iload_n 2, 1) := by decide +kernel
theorem dX5_layFloor_30 : decode cX5_layFloor 30 = .ok (.iastore, 1) := by decide +kernel
theorem dX5_layFloor_31 : decode cX5_layFloor 31 = .ok (.aload_n 0, 1) := by decide +kernel
theorem dX5_layFloor_32 : decode cX5_layFloor 32 = .ok (.getfield 28, 3) := by decide +kernel
theorem dX5_layFloor_35 : decode cX5_layFloor 35 = .ok (.aload_n 0, 1) := by decide +kernel
theorem dX5_layFloor_36 : decode cX5_layFloor 36 = .ok (.getfield 41, 3) := by decide +kernel
theorem dX5_layFloor_39 : decode cX5_layFloor 39 = .ok (.iload_n 3, 1) := by decide +kernel
theorem dX5_layFloor_40 : decode cX5_layFloor 40 = .ok (.iastore, 1) := by decide +kernel
theorem dX5_layFloor_41 : decode cX5_layFloor 41 = .ok (.aload_n 0, 1) := by decide +kernel
theorem dX5_layFloor_42 : decode cX5_layFloor 42 = .ok (.dup, 1) := by decide +kernel
theorem dX5_layFloor_43 : decode cX5_layFloor 43 = .ok (.getfield 41, 3) := by decide +kernel
theorem dX5_layFloor_46 : decode cX5_layFloor 46 = .ok (.iconst 1, 1) := by decide +kernel
theorem dX5_layFloor_47 : decode cX5_layFloor 47 = .ok (.iadd, 1) := by decide +kernel
theorem dX5_layFloor_48 : decode cX5_layFloor 48 = .ok (.putfield 41, 3) := by decide +kernel
theorem dX5_layFloor_51 : decode cX5_layFloor 51 = .ok (.aload_n 0, 1) := by decide +kernel
theorem dX5_layFloor_52 : decode cX5_layFloor 52 = .ok (.getfield 41, 3) := by decide +kernel
theorem dX5_layFloor_55 : decode cX5_layFloor 55 = .ok (.iconst 1, 1) := by decide +kernel
theorem dX5_layFloor_56 : decode cX5_layFloor 56 = .ok (.isub, 1) := by decide +kernel
theorem dX5_layFloor_57 : decode cX5_layFloor 57 = .ok (.ireturn, 1) := by decide +kernel
theorem dX5_gripOf_0 : decode cX5_gripOf 0 = .ok (.aload_n 0, 1) := by decide +kernel
theorem dX5_gripOf_1 : decode cX5_gripOf 1 = .ok (.iload_n 1, 1) := by decide +kernel
theorem dX5_gripOf_2 : decode cX5_gripOf 2 = .ok (.invokevirtual 44, 3) := by decide +kernel
theorem dX5_gripOf_5 : decode cX5_gripOf 5 = .ok (.ifCond .eq 12, 3) := by decide +kernel
theorem dX5_gripOf_8 : decode cX5_gripOf 8 = .ok (.aload_n 0, 1) := by decide +kernel
theorem dX5_gripOf_9 : decode cX5_gripOf 9 = .ok (.getfield 21, 3) := by decide +kernel
theorem dX5_gripOf_12 : decode cX5_gripOf 12 = .ok (.iload_n 1, 1) := by decide +kernel
theorem dX5_gripOf_13 : decode cX5_gripOf 13 = .ok (.iaload, 1) := by decide +kernel
theorem dX5_gripOf_14 : decode cX5_gripOf 14 = .ok (.goto 4, 3) := by decide +kernel
theorem dX5_gripOf_17 : decode cX5_gripOf 17 = .ok (.iconst 0, 1) := by decide +kernel
theorem dX5_gripOf_18 : decode cX5_gripOf 18 = .ok (.ireturn, 1) := by decide +kernel
theorem dX5_slopeX_0 : decode cX5_slopeX 0 = .ok (.aload_n 0, 1) := by decide +kernel
theorem dX5_slopeX_1 : decode cX5_slopeX 1 = .ok (.iload_n 1, 1) := by decide +kernel
theorem dX5_slopeX_2 : decode cX5_slopeX 2 = .ok (.invokevirtual 44, 3) := by decide +kernel
theorem dX5_slopeX_5 : decode cX5_slopeX 5 = .ok (.ifCond .eq 12, 3) := by decide +kernel
theorem dX5_slopeX_8 : decode cX5_slopeX 8 = .ok (.aload_n 0, 1) := by decide +kernel
theorem dX5_slopeX_9 : decode cX5_slopeX 9 = .ok (.getfield 25, 3) := by decide +kernel
theorem dX5_slopeX_12 : decode cX5_slopeX 12 = .ok (.iload_n 1, 1) := by decide +kernel
theorem dX5_slopeX_13 : decode cX5_slopeX 13 = .ok (.iaload, 1) := by decide +kernel
theorem dX5_slopeX_14 : decode cX5_slopeX 14 = .ok (.goto 4, 3) := by decide +kernel
theorem dX5_slopeX_17 : decode cX5_slopeX 17 = .ok (.iconst 0, 1) := by decide +kernel
theorem dX5_slopeX_18 : decode cX5_slopeX 18 = .ok (.ireturn, 1) := by decide +kernel
theorem dX5_slopeY_0 : decode cX5_slopeY 0 = .ok (.aload_n 0, 1) := by decide +kernel
theorem dX5_slopeY_1 : decode cX5_slopeY 1 = .ok (.iload_n 1, 1) := by decide +kernel
theorem dX5_slopeY_2 : decode cX5_slopeY 2 = .ok (.invokevirtual 44, 3) := by decide +kernel
theorem dX5_slopeY_5 : decode cX5_slopeY 5 = .ok (.ifCond .eq 12, 3) := by decide +kernel
theorem dX5_slopeY_8 : decode cX5_slopeY 8 = .ok (.aload_n 0, 1) := by decide +kernel
theorem dX5_slopeY_9 : decode cX5_slopeY 9 = .ok (.getfield 28, 3) := by decide +kernel
theorem dX5_slopeY_12 : decode cX5_slopeY 12 = .ok (.iload_n 1, 1) := by decide +kernel
theorem dX5_slopeY_13 : decode cX5_slopeY 13 = .ok (.iaload, 1) := by decide +kernel
theorem dX5_slopeY_14 : decode cX5_slopeY 14 = .ok (.goto 4, 3) := by decide +kernel
theorem dX5_slopeY_17 : decode cX5_slopeY 17 = .ok (.iconst 0, 1) := by decide +kernel
theorem dX5_slopeY_18 : decode cX5_slopeY 18 = .ok (.ireturn, 1) := by decide +kernel
theorem dX5_stiffness_0 : decode cX5_stiffness 0 = .ok (.iload_n 1, 1) := by decide +kernel
theorem dX5_stiffness_1 : decode cX5_stiffness 1 = .ok (.bipush 10, 2) := by decide +kernel
theorem dX5_stiffness_3 : decode cX5_stiffness 3 = .ok (.idiv, 1) := by decide +kernel
theorem dX5_stiffness_4 : decode cX5_stiffness 4 = .ok (.i2l, 1) := by decide +kernel
theorem dX5_stiffness_5 : decode cX5_stiffness 5 = .ok (.lstore_n 2, 1) := by decide +kernel
theorem dX5_stiffness_6 : decode cX5_stiffness 6 = .ok (.aload_n 0, 1) := by decide +kernel
theorem dX5_stiffness_7 : decode cX5_stiffness 7 = .ok (.getfield 9, 3) := by decide +kernel
theorem dX5_stiffness_10 : decode cX5_stiffness 10 = .ok (.bipush 10, 2) := by decide +kernel
theorem dX5_stiffness_12 : decode cX5_stiffness 12 = .ok (.idiv, 1) := by decide +kernel
theorem dX5_stiffness_13 : decode cX5_stiffness 13 = .ok (.i2l, 1) := by decide +kernel
theorem dX5_stiffness_14 : decode cX5_stiffness 14 = .ok (.lstore 4, 2) := by decide +kernel
theorem dX5_stiffness_16 : decode cX5_stiffness 16 = .ok (.lconst 1, 1) := by decide +kernel
theorem dX5_stiffness_17 : decode cX5_stiffness 17 = .ok (.lload_n 2, 1) := by decide +kernel
theorem dX5_stiffness_18 : decode cX5_stiffness 18 = .ok (.lload_n 2, 1) := by decide +kernel
theorem dX5_stiffness_19 : decode cX5_stiffness 19 = .ok (.lmul, 1) := by decide +kernel
theorem dX5_stiffness_20 : decode cX5_stiffness 20 = .ok (.lload 4, 2) := by decide +kernel
theorem dX5_stiffness_22 : decode cX5_stiffness 22 = .ok (.lload 4, 2) := by decide +kernel
theorem dX5_stiffness_24 : decode cX5_stiffness 24 = .ok (.lmul, 1) := by decide +kernel
theorem dX5_stiffness_25 : decode cX5_stiffness 25 = .ok (.lsub, 1) := by decide +kernel
theorem dX5_stiffness_26 : decode cX5_stiffness 26 = .ok (.invokestatic 48, 3) := by decide +kernel
theorem dX5_stiffness_29 : decode cX5_stiffness 29 = .ok (.aload_n 0, 1) := by decide +kernel
theorem dX5_stiffness_30 : decode cX5_stiffness 30 = .ok (.getfield 15, 3) := by decide +kernel
theorem dX5_stiffness_33 : decode cX5_stiffness 33 = .ok (.i2l, 1) := by decide +kernel
theorem dX5_stiffness_34 : decode cX5_stiffness 34 = .ok (.ladd, 1) := by decide +kernel
theorem dX5_stiffness_35 : decode cX5_stiffness 35 = .ok (.invokestatic 54, 3) := by decide +kernel
theorem dX5_stiffness_38 : decode cX5_stiffness 38 = .ok (.lreturn, 1) := by decide +kernel
theorem dX5_shakeOf_0 : decode cX5_shakeOf 0 = .ok (.iload_n 2, 1) := by decide +kernel
theorem dX5_shakeOf_1 : decode cX5_shakeOf 1 = .ok (.bipush 10, 2) := by decide +kernel
theorem dX5_shakeOf_3 : decode cX5_shakeOf 3 = .ok (.idiv, 1) := by decide +kernel
theorem dX5_shakeOf_4 : decode cX5_shakeOf 4 = .ok (.i2l, 1) := by decide +kernel
theorem dX5_shakeOf_5 : decode cX5_shakeOf 5 = .ok (.lstore_n 3, 1) := by decide +kernel
theorem dX5_shakeOf_6 : decode cX5_shakeOf 6 = .ok (.ldc2_w 58, 3) := by decide +kernel
theorem dX5_shakeOf_9 : decode cX5_shakeOf 9 = .ok (.iload_n 1, 1) := by decide +kernel
theorem dX5_shakeOf_10 : decode cX5_shakeOf 10 = .ok (.i2l, 1) := by decide +kernel
theorem dX5_shakeOf_11 : decode cX5_shakeOf 11 = .ok (.lload_n 3, 1) := by decide +kernel
theorem dX5_shakeOf_12 : decode cX5_shakeOf 12 = .ok (.lmul, 1) := by decide +kernel
theorem dX5_shakeOf_13 : decode cX5_shakeOf 13 = .ok (.lload_n 3, 1) := by decide +kernel
theorem dX5_shakeOf_14 : decode cX5_shakeOf 14 = .ok (.lmul, 1) := by decide +kernel
theorem dX5_shakeOf_15 : decode cX5_shakeOf 15 = .ok (.aload_n 0, 1) := by decide +kernel
theorem dX5_shakeOf_16 : decode cX5_shakeOf 16 = .ok (.iload_n 2, 1) := by decide +kernel
theorem dX5_shakeOf_17 : decode cX5_shakeOf 17 = .ok (.invokevirtual 60, 3) := by decide +kernel
theorem dX5_shakeOf_20 : decode cX5_shakeOf 20 = .ok (.ldiv, 1) := by decide +kernel
theorem dX5_shakeOf_21 : decode cX5_shakeOf 21 = .ok (.invokestatic 64, 3) := by decide +kernel
theorem dX5_shakeOf_24 : decode cX5_shakeOf 24 = .ok (.l2i, 1) := by decide +kernel
theorem dX5_shakeOf_25 : decode cX5_shakeOf 25 = .ok (.ireturn, 1) := by decide +kernel
theorem dX5_mostLopsided_0 : decode cX5_mostLopsided 0 = .ok (.ldc2_w 67, 3) := by decide +kernel
theorem dX5_mostLopsided_3 : decode cX5_mostLopsided 3 = .ok (.lstore_n 3, 1) := by decide +kernel
theorem dX5_mostLopsided_4 : decode cX5_mostLopsided 4 = .ok (.bipush 10, 2) := by decide +kernel
theorem dX5_mostLopsided_6 : decode cX5_mostLopsided 6 = .ok (.istore 5, 2) := by decide +kernel
theorem dX5_mostLopsided_8 : decode cX5_mostLopsided 8 = .ok (.iload 5, 2) := by decide +kernel
theorem dX5_mostLopsided_10 : decode cX5_mostLopsided 10 = .ok (.iload_n 2, 1) := by decide +kernel
theorem dX5_mostLopsided_11 : decode cX5_mostLopsided 11 = .ok (.if_icmp .gt 57, 3) := by decide +kernel
theorem dX5_mostLopsided_14 : decode cX5_mostLopsided 14 = .ok (.iload 5, 2) := by decide +kernel
theorem dX5_mostLopsided_16 : decode cX5_mostLopsided 16 = .ok (.sipush 1200, 3) := by decide +kernel
theorem dX5_mostLopsided_19 : decode cX5_mostLopsided 19 = .ok (.if_icmp .gt 49, 3) := by decide +kernel
theorem dX5_mostLopsided_22 : decode cX5_mostLopsided 22 = .ok (.iconst 1, 1) := by decide +kernel
theorem dX5_mostLopsided_23 : decode cX5_mostLopsided 23 = .ok (.iload 5, 2) := by decide +kernel
theorem dX5_mostLopsided_25 : decode cX5_mostLopsided 25 = .ok (.bipush 10, 2) := by decide +kernel
theorem dX5_mostLopsided_27 : decode cX5_mostLopsided 27 = .ok (.idiv, 1) := by decide +kernel
theorem dX5_mostLopsided_28 : decode cX5_mostLopsided 28 = .ok (.invokestatic 69, 3) := by decide +kernel
theorem dX5_mostLopsided_31 : decode cX5_mostLopsided 31 = .ok (.i2l, 1) := by decide +kernel
theorem dX5_mostLopsided_32 : decode cX5_mostLopsided 32 = .ok (.lstore 6, 2) := by decide +kernel
theorem dX5_mostLopsided_34 : decode cX5_mostLopsided 34 = .ok (.lload_n 3, 1) := by decide +kernel
theorem dX5_mostLopsided_35 : decode cX5_mostLopsided 35 = .ok (.aload_n 0, 1) := by decide +kernel
theorem dX5_mostLopsided_36 : decode cX5_mostLopsided 36 = .ok (.iload_n 1, 1) := by decide +kernel
theorem dX5_mostLopsided_37 : decode cX5_mostLopsided 37 = .ok (.invokevirtual 72, 3) := by decide +kernel
theorem dX5_mostLopsided_40 : decode cX5_mostLopsided 40 = .ok (.iconst 1, 1) := by decide +kernel
theorem dX5_mostLopsided_41 : decode cX5_mostLopsided 41 = .ok (.iadd, 1) := by decide +kernel
theorem dX5_mostLopsided_42 : decode cX5_mostLopsided 42 = .ok (.i2l, 1) := by decide +kernel
theorem dX5_mostLopsided_43 : decode cX5_mostLopsided 43 = .ok (.aload_n 0, 1) := by decide +kernel
theorem dX5_mostLopsided_44 : decode cX5_mostLopsided 44 = .ok (.iload 5, 2) := by decide +kernel
theorem dX5_mostLopsided_46 : decode cX5_mostLopsided 46 = .ok (.invokevirtual 60, 3) := by decide +kernel
theorem dX5_mostLopsided_49 : decode cX5_mostLopsided 49 = .ok (.lmul, 1) := by decide +kernel
theorem dX5_mostLopsided_50 : decode cX5_mostLopsided 50 = .ok (.lconst 1, 1) := by decide +kernel
theorem dX5_mostLopsided_51 : decode cX5_mostLopsided 51 = .ok (.lsub, 1) := by decide +kernel
theorem dX5_mostLopsided_52 : decode cX5_mostLopsided 52 = .ok (.lload 6, 2) := by decide +kernel
theorem dX5_mostLopsided_54 : decode cX5_mostLopsided 54 = .ok (.lload 6, 2) := by decide +kernel
theorem dX5_mostLopsided_56 : decode cX5_mostLopsided 56 = .ok (.lmul, 1) := by decide +kernel
theorem dX5_mostLopsided_57 : decode cX5_mostLopsided 57 = .ok (.ldiv, 1) := by decide +kernel
theorem dX5_mostLopsided_58 : decode cX5_mostLopsided 58 = .ok (.invokestatic 64, 3) := by decide +kernel
theorem dX5_mostLopsided_61 : decode cX5_mostLopsided 61 = .ok (.lstore_n 3, 1) := by decide +kernel
theorem dX5_mostLopsided_62 : decode cX5_mostLopsided 62 = .ok (.iinc 5 10, 3) := by decide +kernel
theorem dX5_mostLopsided_65 : decode cX5_mostLopsided 65 = .ok (.goto (-57), 3) := by decide +kernel
theorem dX5_mostLopsided_68 : decode cX5_mostLopsided 68 = .ok (.lload_n 3, 1) := by decide +kernel
theorem dX5_mostLopsided_69 : decode cX5_mostLopsided 69 = .ok (.l2i, 1) := by decide +kernel
theorem dX5_mostLopsided_70 : decode cX5_mostLopsided 70 = .ok (.ireturn, 1) := by decide +kernel
theorem dX6_isShelf_0 : decode cX6_isShelf 0 = .ok (.iload_n 0, 1) := by decide +kernel
theorem dX6_isShelf_1 : decode cX6_isShelf 1 = .ok (.ifCond .lt 13, 3) := by decide +kernel
theorem dX6_isShelf_4 : decode cX6_isShelf 4 = .ok (.iload_n 0, 1) := by decide +kernel
theorem dX6_isShelf_5 : decode cX6_isShelf 5 = .ok (.bipush 6, 2) := by decide +kernel
theorem dX6_isShelf_7 : decode cX6_isShelf 7 = .ok (.if_icmp .ge 7, 3) := by decide +kernel
theorem dX6_isShelf_10 : decode cX6_isShelf 10 = .ok (.iconst 1, 1) := by decide +kernel
theorem dX6_isShelf_11 : decode cX6_isShelf 11 = .ok (.goto 4, 3) := by decide +kernel
theorem dX6_isShelf_14 : decode cX6_isShelf 14 = .ok (.iconst 0, 1) := by decide +kernel
theorem dX6_isShelf_15 : decode cX6_isShelf 15 = .ok (.ireturn, 1) := by decide +kernel
theorem dX6_isSort_0 : decode cX6_isSort 0 = .ok (.iload_n 0, 1) := by decide +kernel
theorem dX6_isSort_1 : decode cX6_isSort 1 = .ok (.ifCond .lt 12, 3) := by decide +kernel
theorem dX6_isSort_4 : decode cX6_isSort 4 = .ok (.iload_n 0, 1) := by decide +kernel
theorem dX6_isSort_5 : decode cX6_isSort 5 = .ok (.iconst 4, 1) := by decide +kernel
theorem dX6_isSort_6 : decode cX6_isSort 6 = .ok (.if_icmp .gt 7, 3) := by decide +kernel
theorem dX6_isSort_9 : decode cX6_isSort 9 = .ok (.iconst 1, 1) := by decide +kernel
theorem dX6_isSort_10 : decode cX6_isSort 10 = .ok (.goto 4, 3) := by decide +kernel
theorem dX6_isSort_13 : decode cX6_isSort 13 = .ok (.iconst 0, 1) := by decide +kernel
theorem dX6_isSort_14 : decode cX6_isSort 14 = .ok (.ireturn, 1) := by decide +kernel
theorem dX6_isEmpty_0 : decode cX6_isEmpty 0 = .ok (.iload_n 1, 1) := by decide +kernel
theorem dX6_isEmpty_1 : decode cX6_isEmpty 1 = .ok (.invokestatic 29, 3) := by decide +kernel
theorem dX6_isEmpty_4 : decode cX6_isEmpty 4 = .ok (.ifCond .eq 12, 3) := by decide +kernel
theorem dX6_isEmpty_7 : decode cX6_isEmpty 7 = .ok (.aload_n 0, 1) := by decide +kernel
theorem dX6_isEmpty_8 : decode cX6_isEmpty 8 = .ok (.getfield 11, 3) := by decide +kernel
theorem dX6_isEmpty_11 : decode cX6_isEmpty 11 = .ok (.iload_n 1, 1) := by decide +kernel
theorem dX6_isEmpty_12 : decode cX6_isEmpty 12 = .ok (.iaload, 1) := by decide +kernel
theorem dX6_isEmpty_13 : decode cX6_isEmpty 13 = .ok (.ifCond .ne 7, 3) := by decide +kernel
theorem dX6_isEmpty_16 : decode cX6_isEmpty 16 = .ok (.iconst 1, 1) := by decide +kernel
theorem dX6_isEmpty_17 : decode cX6_isEmpty 17 = .ok (.goto 4, 3) := by decide +kernel
theorem dX6_isEmpty_20 : decode cX6_isEmpty 20 = .ok (.iconst 0, 1) := by decide +kernel
theorem dX6_isEmpty_21 : decode cX6_isEmpty 21 = .ok (.ireturn, 1) := by decide +kernel
theorem dX6_holdsRow_0 : decode cX6_holdsRow 0 = .ok (.iload_n 1, 1) := by decide +kernel
theorem dX6_holdsRow_1 : decode cX6_holdsRow 1 = .ok (.invokestatic 29, 3) := by decide +kernel
theorem dX6_holdsRow_4 : decode cX6_holdsRow 4 = .ok (.ifCond .eq 17, 3) := by decide +kernel
theorem dX6_holdsRow_7 : decode cX6_holdsRow 7 = .ok (.aload_n 0, 1) := by decide +kernel
theorem dX6_holdsRow_8 : decode cX6_holdsRow 8 = .ok (.getfield 11, 3) := by decide +kernel
theorem dX6_holdsRow_11 : decode cX6_holdsRow 11 = .ok (.iload_n 1, 1) := by decide +kernel
theorem dX6_holdsRow_12 : decode cX6_holdsRow 12 = .ok (.iaload, 1) := by decide +kernel
theorem dX6_holdsRow_13 : decode cX6_holdsRow 13 = .ok (.iconst 2, 1) := by decide +kernel
theorem dX6_holdsRow_14 : decode cX6_holdsRow 14 = .ok (.if_icmp .ne 7, 3) := by decide +kernel
theorem dX6_holdsRow_17 : decode cX6_holdsRow 17 = .ok (.iconst 1, 1) := by decide +kernel
theorem dX6_holdsRow_18 : decode cX6_holdsRow 18 = .ok (.goto 4, 3) := by decide +kernel
theorem dX6_holdsRow_21 : decode cX6_holdsRow 21 = .ok (.iconst 0, 1) := by decide +kernel
theorem dX6_holdsRow_22 : decode cX6_holdsRow 22 = .ok (.ireturn, 1) := by decide +kernel
theorem dX6_holdsRowOf_0 : decode cX6_holdsRowOf 0 = .ok (.aload_n 0, 1) := by decide +kernel
theorem dX6_holdsRowOf_1 : decode cX6_holdsRowOf 1 = .ok (.iload_n 1, 1) := by decide +kernel
theorem dX6_holdsRowOf_2 : decode cX6_holdsRowOf 2 = .ok (.invokevirtual 33, 3) := by decide +kernel
theorem dX6_holdsRowOf_5 : decode cX6_holdsRowOf 5 = .ok (.ifCond .eq 17, 3) := by decide +kernel
theorem dX6_holdsRowOf_8 : decode cX6_holdsRowOf 8 = .ok (.aload_n 0, 1) := by decide +kernel
theorem dX6_holdsRowOf_9 : decode cX6_holdsRowOf 9 = .ok (.getfield 18, 3) := by decide +kernel
theorem dX6_holdsRowOf_12 : decode cX6_holdsRowOf 12 = .ok (.iload_n 1, 1) := by decide +kernel
theorem dX6_holdsRowOf_13 : decode cX6_holdsRowOf 13 = .ok (.iaload, 1) := by decide +kernel
theorem dX6_holdsRowOf_14 : decode cX6_holdsRowOf 14 = .ok (.iload_n 2, 1) := by decide +kernel
theorem dX6_holdsRowOf_15 : decode cX6_holdsRowOf 15 = .ok (.if_icmp .ne 7, 3) := by decide +kernel
theorem dX6_holdsRowOf_18 : decode cX6_holdsRowOf 18 = .ok (.iconst 1, 1) := by decide +kernel
theorem dX6_holdsRowOf_19 : decode cX6_holdsRowOf 19 = .ok (.goto 4, 3) := by decide +kernel
theorem dX6_holdsRowOf_22 : decode cX6_holdsRowOf 22 = .ok (.iconst 0, 1) := by decide +kernel
theorem dX6_holdsRowOf_23 : decode cX6_holdsRowOf 23 = .ok (.ireturn, 1) := by decide +kernel
theorem dX6_sortOf_0 : decode cX6_sortOf 0 = .ok (.iload_n 1, 1) := by decide +kernel
theorem dX6_sortOf_1 : decode cX6_sortOf 1 = .ok (.invokestatic 29, 3) := by decide +kernel
theorem dX6_sortOf_4 : decode cX6_sortOf 4 = .ok (.ifCond .eq 12, 3) := by decide +kernel
theorem dX6_sortOf_7 : decode cX6_sortOf 7 = .ok (.aload_n 0, 1) := by decide +kernel
theorem dX6_sortOf_8 : decode cX6_sortOf 8 = .ok (.getfield 18, 3) := by decide +kernel
theorem dX6_sortOf_11 : decode cX6_sortOf 11 = .ok (.iload_n 1, 1) := by decide +kernel
theorem dX6_sortOf_12 : decode cX6_sortOf 12 = .ok (.iaload, 1) := by decide +kernel
theorem dX6_sortOf_13 : decode cX6_sortOf 13 = .ok (.goto 4, 3) := by decide +kernel
theorem dX6_sortOf_16 : decode cX6_sortOf 16 = .ok (.iconst (-1), 1) := by decide +kernel
theorem dX6_sortOf_17 : decode cX6_sortOf 17 = .ok (.ireturn, 1) := by decide +kernel
theorem dX6_loadOn_0 : decode cX6_loadOn 0 = .ok (.iload_n 1, 1) := by decide +kernel
theorem dX6_loadOn_1 : decode cX6_loadOn 1 = .ok (.invokestatic 29, 3) := by decide +kernel
theorem dX6_loadOn_4 : decode cX6_loadOn 4 = .ok (.ifCond .eq 22, 3) := by decide +kernel
theorem dX6_loadOn_7 : decode cX6_loadOn 7 = .ok (.aload_n 0, 1) := by decide +kernel
theorem dX6_loadOn_8 : decode cX6_loadOn 8 = .ok (.getfield 11, 3) := by decide +kernel
theorem dX6_loadOn_11 : decode cX6_loadOn 11 = .ok (.iload_n 1, 1) := by decide +kernel
theorem dX6_loadOn_12 : decode cX6_loadOn 12 = .ok (.iaload, 1) := by decide +kernel
theorem dX6_loadOn_13 : decode cX6_loadOn 13 = .ok (.iconst 1, 1) := by decide +kernel
theorem dX6_loadOn_14 : decode cX6_loadOn 14 = .ok (.if_icmp .ne 12, 3) := by decide +kernel
theorem dX6_loadOn_17 : decode cX6_loadOn 17 = .ok (.aload_n 0, 1) := by decide +kernel
theorem dX6_loadOn_18 : decode cX6_loadOn 18 = .ok (.getfield 15, 3) := by decide +kernel
theorem dX6_loadOn_21 : decode cX6_loadOn 21 = .ok (.iload_n 1, 1) := by decide +kernel
theorem dX6_loadOn_22 : decode cX6_loadOn 22 = .ok (.iaload, 1) := by decide +kernel
theorem dX6_loadOn_23 : decode cX6_loadOn 23 = .ok (.goto 4, 3) := by decide +kernel
theorem dX6_loadOn_26 : decode cX6_loadOn 26 = .ok (.iconst (-1), 1) := by decide +kernel
theorem dX6_loadOn_27 : decode cX6_loadOn 27 = .ok (.ireturn, 1) := by decide +kernel
theorem dX6_hold_0 : decode cX6_hold 0 = .ok (.iload_n 1, 1) := by decide +kernel
theorem dX6_hold_1 : decode cX6_hold 1 = .ok (.invokestatic 29, 3) := by decide +kernel
theorem dX6_hold_4 : decode cX6_hold 4 = .ok (.ifCond .ne 4, 3) := by decide +kernel
theorem dX6_hold_7 : decode cX6_hold 7 = .ok (.return_, 1) := by decide +kernel
theorem dX6_hold_8 : decode cX6_hold 8 = .ok (.aload_n 0, 1) := by decide +kernel
theorem dX6_hold_9 : decode cX6_hold 9 = .ok (.getfield 11, 3) := by decide +kernel
theorem dX6_hold_12 : decode cX6_hold 12 = .ok (.iload_n 1, 1) := by decide +kernel
theorem dX6_hold_13 : decode cX6_hold 13 = .ok (.iload_n 2, 1) := by decide +kernel
theorem dX6_hold_14 : decode cX6_hold 14 = .ok (.ifCond .ge 7, 3) := by decide +kernel
theorem dX6_hold_17 : decode cX6_hold 17 = .ok (.iconst 0, 1) := by decide +kernel
theorem dX6_hold_18 : decode cX6_hold 18 = .ok (.goto 4, 3) := by decide +kernel
theorem dX6_hold_21 : decode cX6_hold 21 = .ok (.iconst 1, 1) := by decide +kernel
theorem dX6_hold_22 : decode cX6_hold 22 = .ok (.iastore, 1) := by decide +kernel
theorem dX6_hold_23 : decode cX6_hold 23 = .ok (.aload_n 0, 1) := by decide +kernel
theorem dX6_hold_24 : decode cX6_hold 24 = .ok (.getfield 15, 3) := by decide +kernel
theorem dX6_hold_27 : decode cX6_hold 27 = .ok (.iload_n 1, 1) := by decide +kernel
theorem dX6_hold_28 : decode cX6_hold 28 = .ok (.iload_n 2, 1) := by decide +kernel
theorem dX6_hold_29 : decode cX6_hold 29 = .ok (.iastore, 1) := by decide +kernel
theorem dX6_hold_30 : decode cX6_hold 30 = .ok (.return_, 1) := by decide +kernel
theorem dX6_holdRow_0 : decode cX6_holdRow 0 = .ok (.iload_n 1, 1) := by decide +kernel
theorem dX6_holdRow_1 : decode cX6_holdRow 1 = .ok (.invokestatic 29, 3) := by decide +kernel
theorem dX6_holdRow_4 : decode cX6_holdRow 4 = .ok (.ifCond .ne 4, 3) := by decide +kernel
theorem dX6_holdRow_7 : decode cX6_holdRow 7 = .ok (.return_, 1) := by decide +kernel
theorem dX6_holdRow_8 : decode cX6_holdRow 8 = .ok (.aload_n 0, 1) := by decide +kernel
theorem dX6_holdRow_9 : decode cX6_holdRow 9 = .ok (.getfield 11, 3) := by decide +kernel
theorem dX6_holdRow_12 : decode cX6_holdRow 12 = .ok (.iload_n 1, 1) := by decide +kernel
theorem dX6_holdRow_13 : decode cX6_holdRow 13 = .ok (.iconst 2, 1) := by decide +kernel
theorem dX6_holdRow_14 : decode cX6_holdRow 14 = .ok (.iastore, 1) := by decide +kernel
theorem dX6_holdRow_15 : decode cX6_holdRow 15 = .ok (.aload_n 0, 1) := by decide +kernel
theorem dX6_holdRow_16 : decode cX6_holdRow 16 = .ok (.getfield 18, 3) := by decide +kernel
theorem dX6_holdRow_19 : decode cX6_holdRow 19 = .ok (.iload_n 1, 1) := by decide +kernel
theorem dX6_holdRow_20 : decode cX6_holdRow 20 = .ok (.iload_n 2, 1) := by decide +kernel
theorem dX6_holdRow_21 : decode cX6_holdRow 21 = .ok (.iastore, 1) := by decide +kernel
theorem dX6_holdRow_22 : decode cX6_holdRow 22 = .ok (.aload_n 0, 1) := by decide +kernel
theorem dX6_holdRow_23 : decode cX6_holdRow 23 = .ok (.getfield 21, 3) := by decide +kernel
theorem dX6_holdRow_26 : decode cX6_holdRow 26 = .ok (.iload_n 1, 1) := by decide +kernel
theorem dX6_holdRow_27 : decode cX6_holdRow 27 = .ok (.iload_n 3, 1) := by decide +kernel
theorem dX6_holdRow_28 : decode cX6_holdRow 28 = .ok (.iastore, 1) := by decide +kernel
theorem dX6_holdRow_29 : decode cX6_holdRow 29 = .ok (.iconst 0, 1) := by decide +kernel
theorem dX6_holdRow_30 : decode cX6_holdRow 30 = .ok (.istore 4, 2) := by decide +kernel
theorem dX6_holdRow_32 : decode cX6_holdRow 32 = .ok (.iload 4, 2) := by decide +kernel
theorem dX6_holdRow_34 : decode cX6_holdRow 34 = .ok (.bipush 60, 2) := by decide +kernel
theorem dX6_holdRow_36 : decode cX6_holdRow 36 = .ok (.if_icmp .ge 19, 3) := by decide +kernel
theorem dX6_holdRow_39 : decode cX6_holdRow 39 = .ok (.aload_n 0, 1) := by decide +kernel
theorem dX6_holdRow_40 : decode cX6_holdRow 40 = .ok (.getfield 26, 3) := by decide +kernel
theorem dX6_holdRow_43 : decode cX6_holdRow 43 = .ok (.iload_n 1, 1) := by decide +kernel
theorem dX6_holdRow_44 : decode cX6_holdRow 44 = .ok (.aaload, 1) := by decide +kernel
theorem dX6_holdRow_45 : decode cX6_holdRow 45 = .ok (.iload 4, 2) := by decide +kernel
theorem dX6_holdRow_47 : decode cX6_holdRow 47 = .ok (.lconst 0, 1) := by decide +kernel
theorem dX6_holdRow_48 : decode cX6_holdRow 48 = .ok (.lastore, 1) := by decide +kernel
theorem dX6_holdRow_49 : decode cX6_holdRow 49 = .ok (.iinc 4 1, 3) := by decide +kernel
theorem dX6_holdRow_52 : decode cX6_holdRow 52 = .ok (.goto (-20), 3) := by decide +kernel
theorem dX6_holdRow_55 : decode cX6_holdRow 55 = .ok (.return_, 1) := by decide +kernel
theorem dX6_hasPlaces_0 : decode cX6_hasPlaces 0 = .ok (.aload_n 0, 1) := by decide +kernel
theorem dX6_hasPlaces_1 : decode cX6_hasPlaces 1 = .ok (.iload_n 1, 1) := by decide +kernel
theorem dX6_hasPlaces_2 : decode cX6_hasPlaces 2 = .ok (.invokevirtual 33, 3) := by decide +kernel
theorem dX6_hasPlaces_5 : decode cX6_hasPlaces 5 = .ok (.ifCond .eq 34, 3) := by decide +kernel
theorem dX6_hasPlaces_8 : decode cX6_hasPlaces 8 = .ok (.lload_n 2, 1) := by decide +kernel
theorem dX6_hasPlaces_9 : decode cX6_hasPlaces 9 = .ok (.lconst 0, 1) := by decide +kernel
theorem dX6_hasPlaces_10 : decode cX6_hasPlaces 10 = .ok (.lcmp, 1) := by decide +kernel
theorem dX6_hasPlaces_11 : decode cX6_hasPlaces 11 = .ok (.ifCond .lt 28, 3) := by decide +kernel
theorem dX6_hasPlaces_14 : decode cX6_hasPlaces 14 = .ok (.iload 4, 2) := by decide +kernel
theorem dX6_hasPlaces_16 : decode cX6_hasPlaces 16 = .ok (.ifCond .lt 23, 3) := by decide +kernel
theorem dX6_hasPlaces_19 : decode cX6_hasPlaces 19 = .ok (.lload_n 2, 1) := by decide +kernel
theorem dX6_hasPlaces_20 : decode cX6_hasPlaces 20 = .ok (.iload 4, 2) := by decide +kernel
theorem dX6_hasPlaces_22 : decode cX6_hasPlaces 22 = .ok (.i2l, 1) := by decide +kernel
theorem dX6_hasPlaces_23 : decode cX6_hasPlaces 23 = .ok (.ladd, 1) := by decide +kernel
theorem dX6_hasPlaces_24 : decode cX6_hasPlaces 24 = .ok (.aload_n 0, 1) := by decide +kernel
theorem dX6_hasPlaces_25 : decode cX6_hasPlaces 25 = .ok (.getfield 21, 3) := by decide +kernel
theorem dX6_hasPlaces_28 : decode cX6_hasPlaces 28 = .ok (.iload_n 1, 1) := by decide +kernel
theorem dX6_hasPlaces_29 : decode cX6_hasPlaces 29 = .ok (.iaload, 1) := by decide +kernel
theorem dX6_hasPlaces_30 : decode cX6_hasPlaces 30 = .ok (.i2l, 1) := by decide +kernel
theorem dX6_hasPlaces_31 : decode cX6_hasPlaces 31 = .ok (.lcmp, 1) := by decide +kernel
theorem dX6_hasPlaces_32 : decode cX6_hasPlaces 32 = .ok (.ifCond .gt 7, 3) := by decide +kernel
theorem dX6_hasPlaces_35 : decode cX6_hasPlaces 35 = .ok (.iconst 1, 1) := by decide +kernel
theorem dX6_hasPlaces_36 : decode cX6_hasPlaces 36 = .ok (.goto 4, 3) := by decide +kernel
theorem dX6_hasPlaces_39 : decode cX6_hasPlaces 39 = .ok (.iconst 0, 1) := by decide +kernel
theorem dX6_hasPlaces_40 : decode cX6_hasPlaces 40 = .ok (.ireturn, 1) := by decide +kernel
theorem dX6_valueAt_0 : decode cX6_valueAt 0 = .ok (.aload_n 0, 1) := by decide +kernel
theorem dX6_valueAt_1 : decode cX6_valueAt 1 = .ok (.iload_n 1, 1) := by decide +kernel
theorem dX6_valueAt_2 : decode cX6_valueAt 2 = .ok (.iload_n 2, 1) := by decide +kernel
theorem dX6_valueAt_3 : decode cX6_valueAt 3 = .ok (.i2l, 1) := by decide +kernel
theorem dX6_valueAt_4 : decode cX6_valueAt 4 = .ok (.iconst 1, 1) := by decide +kernel
theorem dX6_valueAt_5 : decode cX6_valueAt 5 = .ok (.invokevirtual 36, 3) := by decide +kernel
theorem dX6_valueAt_8 : decode cX6_valueAt 8 = .ok (.ifCond .eq 20, 3) := by decide +kernel
theorem dX6_valueAt_11 : decode cX6_valueAt 11 = .ok (.iload_n 2, 1) := by decide +kernel
theorem dX6_valueAt_12 : decode cX6_valueAt 12 = .ok (.bipush 60, 2) := by decide +kernel
theorem dX6_valueAt_14 : decode cX6_valueAt 14 = .ok (.if_icmp .ge 14, 3) := by decide +kernel
theorem dX6_valueAt_17 : decode cX6_valueAt 17 = .ok (.aload_n 0, 1) := by decide +kernel
theorem dX6_valueAt_18 : decode cX6_valueAt 18 = .ok (.getfield 26, 3) := by decide +kernel
theorem dX6_valueAt_21 : decode cX6_valueAt 21 = .ok (.iload_n 1, 1) := by decide +kernel
theorem dX6_valueAt_22 : decode cX6_valueAt 22 = .ok (.aaload, 1) := by decide +kernel
theorem dX6_valueAt_23 : decode cX6_valueAt 23 = .ok (.iload_n 2, 1) := by decide +kernel
theorem dX6_valueAt_24 : decode cX6_valueAt 24 = .ok (.laload, 1) := by decide +kernel
theorem dX6_valueAt_25 : decode cX6_valueAt 25 = .ok (.goto 6, 3) := by decide +kernel
theorem dX6_valueAt_28 : decode cX6_valueAt 28 = .ok (.ldc2_w 42, 3) := by decide +kernel
theorem dX6_valueAt_31 : decode cX6_valueAt 31 = .ok (.lreturn, 1) := by decide +kernel
theorem dX6_change_0 : decode cX6_change 0 = .ok (.aload_n 0, 1) := by decide +kernel
theorem dX6_change_1 : decode cX6_change 1 = .ok (.iload_n 1, 1) := by decide +kernel
theorem dX6_change_2 : decode cX6_change 2 = .ok (.iload_n 2, 1) := by decide +kernel
theorem dX6_change_3 : decode cX6_change 3 = .ok (.i2l, 1) := by decide +kernel
theorem dX6_change_4 : decode cX6_change 4 = .ok (.iconst 1, 1) := by decide +kernel
theorem dX6_change_5 : decode cX6_change 5 = .ok (.invokevirtual 36, 3) := by decide +kernel
theorem dX6_change_8 : decode cX6_change 8 = .ok (.ifCond .eq 27, 3) := by decide +kernel
theorem dX6_change_11 : decode cX6_change 11 = .ok (.iload_n 2, 1) := by decide +kernel
theorem dX6_change_12 : decode cX6_change 12 = .ok (.bipush 60, 2) := by decide +kernel
theorem dX6_change_14 : decode cX6_change 14 = .ok (.if_icmp .ge 21, 3) := by decide +kernel
theorem dX6_change_17 : decode cX6_change 17 = .ok (.aload_n 0, 1) := by decide +kernel
theorem dX6_change_18 : decode cX6_change 18 = .ok (.getfield 26, 3) := by decide +kernel
theorem dX6_change_21 : decode cX6_change 21 = .ok (.iload_n 1, 1) := by decide +kernel
theorem dX6_change_22 : decode cX6_change 22 = .ok (.aaload, 1) := by decide +kernel
theorem dX6_change_23 : decode cX6_change 23 = .ok (.iload_n 2, 1) := by decide +kernel
theorem dX6_change_24 : decode cX6_change 24 = .ok (.aload_n 0, 1) := by decide +kernel
theorem dX6_change_25 : decode cX6_change 25 = .ok (.getfield 18, 3) := by decide +kernel
theorem dX6_change_28 : decode cX6_change 28 = .ok (.iload_n 1, 1) := by decide +kernel
theorem dX6_change_29 : decode cX6_change 29 = .ok (.iaload, 1) := by decide +kernel
theorem dX6_change_30 : decode cX6_change 30 = .ok (.lload_n 3, 1) := by decide +kernel
theorem dX6_change_31 : decode cX6_change 31 = .ok (.invokestatic 44, 3) := by decide +kernel
theorem dX6_change_34 : decode cX6_change 34 = .ok (.lastore, 1) := by decide +kernel
theorem dX6_change_35 : decode cX6_change 35 = .ok (.return_, 1) := by decide +kernel
theorem dX6_lowestBits_0 : decode cX6_lowestBits 0 = .ok (.iload_n 0, 1) := by decide +kernel
theorem dX6_lowestBits_1 : decode cX6_lowestBits 1 = .ok (.tableswitch 61 0 4 #[35, 40, 45, 61, 49], 35) := by decide +kernel
theorem dX6_lowestBits_36 : decode cX6_lowestBits 36 = .ok (.lload_n 1, 1) := by decide +kernel
theorem dX6_lowestBits_37 : decode cX6_lowestBits 37 = .ok (.l2i, 1) := by decide +kernel
theorem dX6_lowestBits_38 : decode cX6_lowestBits 38 = .ok (.i2b, 1) := by decide +kernel
theorem dX6_lowestBits_39 : decode cX6_lowestBits 39 = .ok (.i2l, 1) := by decide +kernel
theorem dX6_lowestBits_40 : decode cX6_lowestBits 40 = .ok (.lreturn, 1) := by decide +kernel
theorem dX6_lowestBits_41 : decode cX6_lowestBits 41 = .ok (.lload_n 1, 1) := by decide +kernel
theorem dX6_lowestBits_42 : decode cX6_lowestBits 42 = .ok (.l2i, 1) := by decide +kernel
theorem dX6_lowestBits_43 : decode cX6_lowestBits 43 = .ok (.i2s, 1) := by decide +kernel
theorem dX6_lowestBits_44 : decode cX6_lowestBits 44 = .ok (.i2l, 1) := by decide +kernel
theorem dX6_lowestBits_45 : decode cX6_lowestBits 45 = .ok (.lreturn, 1) := by decide +kernel
theorem dX6_lowestBits_46 : decode cX6_lowestBits 46 = .ok (.lload_n 1, 1) := by decide +kernel
theorem dX6_lowestBits_47 : decode cX6_lowestBits 47 = .ok (.l2i, 1) := by decide +kernel
theorem dX6_lowestBits_48 : decode cX6_lowestBits 48 = .ok (.i2l, 1) := by decide +kernel
theorem dX6_lowestBits_49 : decode cX6_lowestBits 49 = .ok (.lreturn, 1) := by decide +kernel
theorem dX6_lowestBits_50 : decode cX6_lowestBits 50 = .ok (.lload_n 1, 1) := by decide +kernel
theorem dX6_lowestBits_51 : decode cX6_lowestBits 51 = .ok (.lconst 0, 1) := by decide +kernel
theorem dX6_lowestBits_52 : decode cX6_lowestBits 52 = .ok (.lcmp, 1) := by decide +kernel
theorem dX6_lowestBits_53 : decode cX6_lowestBits 53 = .ok (.ifCond .eq 7, 3) := by decide +kernel
theorem dX6_lowestBits_56 : decode cX6_lowestBits 56 = .ok (.lconst 1, 1) := by decide +kernel
theorem dX6_lowestBits_57 : decode cX6_lowestBits 57 = .ok (.goto 4, 3) := by decide +kernel
theorem dX6_lowestBits_60 : decode cX6_lowestBits 60 = .ok (.lconst 0, 1) := by decide +kernel
theorem dX6_lowestBits_61 : decode cX6_lowestBits 61 = .ok (.lreturn, 1) := by decide +kernel
theorem dX6_lowestBits_62 : decode cX6_lowestBits 62 = .ok (.lload_n 1, 1) := by decide +kernel
theorem dX6_lowestBits_63 : decode cX6_lowestBits 63 = .ok (.lreturn, 1) := by decide +kernel
theorem dX6_copy_0 : decode cX6_copy 0 = .ok (.aload_n 0, 1) := by decide +kernel
theorem dX6_copy_1 : decode cX6_copy 1 = .ok (.iload_n 1, 1) := by decide +kernel
theorem dX6_copy_2 : decode cX6_copy 2 = .ok (.iload_n 2, 1) := by decide +kernel
theorem dX6_copy_3 : decode cX6_copy 3 = .ok (.i2l, 1) := by decide +kernel
theorem dX6_copy_4 : decode cX6_copy 4 = .ok (.iload 5, 2) := by decide +kernel
theorem dX6_copy_6 : decode cX6_copy 6 = .ok (.invokevirtual 36, 3) := by decide +kernel
theorem dX6_copy_9 : decode cX6_copy 9 = .ok (.ifCond .eq 36, 3) := by decide +kernel
theorem dX6_copy_12 : decode cX6_copy 12 = .ok (.aload_n 0, 1) := by decide +kernel
theorem dX6_copy_13 : decode cX6_copy 13 = .ok (.iload_n 3, 1) := by decide +kernel
theorem dX6_copy_14 : decode cX6_copy 14 = .ok (.iload 4, 2) := by decide +kernel
theorem dX6_copy_16 : decode cX6_copy 16 = .ok (.i2l, 1) := by decide +kernel
theorem dX6_copy_17 : decode cX6_copy 17 = .ok (.iload 5, 2) := by decide +kernel
theorem dX6_copy_19 : decode cX6_copy 19 = .ok (.invokevirtual 36, 3) := by decide +kernel
theorem dX6_copy_22 : decode cX6_copy 22 = .ok (.ifCond .eq 23, 3) := by decide +kernel
theorem dX6_copy_25 : decode cX6_copy 25 = .ok (.aload_n 0, 1) := by decide +kernel
theorem dX6_copy_26 : decode cX6_copy 26 = .ok (.getfield 26, 3) := by decide +kernel
theorem dX6_copy_29 : decode cX6_copy 29 = .ok (.iload_n 1, 1) := by decide +kernel
theorem dX6_copy_30 : decode cX6_copy 30 = .ok (.aaload, 1) := by decide +kernel
theorem dX6_copy_31 : decode cX6_copy 31 = .ok (.iload_n 2, 1) := by decide +kernel
theorem dX6_copy_32 : decode cX6_copy 32 = .ok (.aload_n 0, 1) := by decide +kernel
theorem dX6_copy_33 : decode cX6_copy 33 = .ok (.getfield 26, 3) := by decide +kernel
theorem dX6_copy_36 : decode cX6_copy 36 = .ok (.iload_n 3, 1) := by decide +kernel
theorem dX6_copy_37 : decode cX6_copy 37 = .ok (.aaload, 1) := by decide +kernel
theorem dX6_copy_38 : decode cX6_copy 38 = .ok (.iload 4, 2) := by decide +kernel
theorem dX6_copy_40 : decode cX6_copy 40 = .ok (.iload 5, 2) := by decide +kernel
theorem dX6_copy_42 : decode cX6_copy 42 = .ok (.invokestatic 48, 3) := by decide +kernel
theorem dX6_copy_45 : decode cX6_copy 45 = .ok (.return_, 1) := by decide +kernel
theorem dX7_hasRoomFor_0 : decode cX7_hasRoomFor 0 = .ok (.aload_n 0, 1) := by decide +kernel
theorem dX7_hasRoomFor_1 : decode cX7_hasRoomFor 1 = .ok (.getfield 13, 3) := by decide +kernel
theorem dX7_hasRoomFor_4 : decode cX7_hasRoomFor 4 = .ok (.iload_n 1, 1) := by decide +kernel
theorem dX7_hasRoomFor_5 : decode cX7_hasRoomFor 5 = .ok (.iadd, 1) := by decide +kernel
theorem dX7_hasRoomFor_6 : decode cX7_hasRoomFor 6 = .ok (.bipush 120, 2) := by decide +kernel
theorem dX7_hasRoomFor_8 : decode cX7_hasRoomFor 8 = .ok (.if_icmp .gt 7, 3) := by decide +kernel
theorem dX7_hasRoomFor_11 : decode cX7_hasRoomFor 11 = .ok (.iconst 1, 1) := by decide +kernel
theorem dX7_hasRoomFor_12 : decode cX7_hasRoomFor 12 = .ok (.goto 4, 3) := by decide +kernel
theorem dX7_hasRoomFor_15 : decode cX7_hasRoomFor 15 = .ok (.iconst 0, 1) := by decide +kernel
theorem dX7_hasRoomFor_16 : decode cX7_hasRoomFor 16 = .ok (.ireturn, 1) := by decide +kernel
theorem dX7_take_0 : decode cX7_take 0 = .ok (.iconst 0, 1) := by decide +kernel
theorem dX7_take_1 : decode cX7_take 1 = .ok (.istore_n 3, 1) := by decide +kernel
theorem dX7_take_2 : decode cX7_take 2 = .ok (.iload_n 3, 1) := by decide +kernel
theorem dX7_take_3 : decode cX7_take 3 = .ok (.iload_n 1, 1) := by decide +kernel
theorem dX7_take_4 : decode cX7_take 4 = .ok (.if_icmp .ge 47, 3) := by decide +kernel
theorem dX7_take_7 : decode cX7_take 7 = .ok (.aload_n 0, 1) := by decide +kernel
theorem dX7_take_8 : decode cX7_take 8 = .ok (.getfield 13, 3) := by decide +kernel
theorem dX7_take_11 : decode cX7_take 11 = .ok (.bipush 120, 2) := by decide +kernel
theorem dX7_take_13 : decode cX7_take 13 = .ok (.if_icmp .ge 38, 3) := by decide +kernel
theorem dX7_take_16 : decode cX7_take 16 = .ok (.aload_n 0, 1) := by decide +kernel
theorem dX7_take_17 : decode cX7_take 17 = .ok (.getfield 9, 3) := by decide +kernel
theorem dX7_take_20 : decode cX7_take 20 = .ok (.aload_n 0, 1) := by decide +kernel
theorem dX7_take_21 : decode cX7_take 21 = .ok (.getfield 13, 3) := by decide +kernel
theorem dX7_take_24 : decode cX7_take 24 = .ok (.iload_n 2, 1) := by decide +kernel
theorem dX7_take_25 : decode cX7_take 25 = .ok (.bipush 8, 2) := by decide +kernel
theorem dX7_take_27 : decode cX7_take 27 = .ok (.iload_n 3, 1) := by decide +kernel
theorem dX7_take_28 : decode cX7_take 28 = .ok (.imul, 1) := by decide +kernel
theorem dX7_take_29 : decode cX7_take 29 = .ok (.iushr, 1) := by decide +kernel
theorem dX7_take_30 : decode cX7_take 30 = .ok (.sipush 255, 3) := by decide +kernel
theorem dX7_take_33 : decode cX7_take 33 = .ok (.iand, 1) := by decide +kernel
theorem dX7_take_34 : decode cX7_take 34 = .ok (.iastore, 1) := by decide +kernel
theorem dX7_take_35 : decode cX7_take 35 = .ok (.aload_n 0, 1) := by decide +kernel
theorem dX7_take_36 : decode cX7_take 36 = .ok (.dup, 1) := by decide +kernel
theorem dX7_take_37 : decode cX7_take 37 = .ok (.getfield 13, 3) := by decide +kernel
theorem dX7_take_40 : decode cX7_take 40 = .ok (.iconst 1, 1) := by decide +kernel
theorem dX7_take_41 : decode cX7_take 41 = .ok (.iadd, 1) := by decide +kernel
theorem dX7_take_42 : decode cX7_take 42 = .ok (.putfield 13, 3) := by decide +kernel
theorem dX7_take_45 : decode cX7_take 45 = .ok (.iinc 3 1, 3) := by decide +kernel
theorem dX7_take_48 : decode cX7_take 48 = .ok (.goto (-46), 3) := by decide +kernel
theorem dX7_take_51 : decode cX7_take 51 = .ok (.aload_n 0, 1) := by decide +kernel
theorem dX7_take_52 : decode cX7_take 52 = .ok (.getfield 13, 3) := by decide +kernel
theorem dX7_take_55 : decode cX7_take 55 = .ok (.ireturn, 1) := by decide +kernel
theorem dX7_empty_0 : decode cX7_empty 0 = .ok (.aload_n 0, 1) := by decide +kernel
theorem dX7_empty_1 : decode cX7_empty 1 = .ok (.iconst 0, 1) := by decide +kernel
theorem dX7_empty_2 : decode cX7_empty 2 = .ok (.putfield 13, 3) := by decide +kernel
theorem dX7_empty_5 : decode cX7_empty 5 = .ok (.return_, 1) := by decide +kernel
theorem dX7_isReadInto_0 : decode cX7_isReadInto 0 = .ok (.aload_n 0, 1) := by decide +kernel
theorem dX7_isReadInto_1 : decode cX7_isReadInto 1 = .ok (.aload_n 1, 1) := by decide +kernel
theorem dX7_isReadInto_2 : decode cX7_isReadInto 2 = .ok (.putfield 17, 3) := by decide +kernel
theorem dX7_isReadInto_5 : decode cX7_isReadInto 5 = .ok (.aload_n 0, 1) := by decide +kernel
theorem dX7_isReadInto_6 : decode cX7_isReadInto 6 = .ok (.getfield 17, 3) := by decide +kernel
theorem dX7_isReadInto_9 : decode cX7_isReadInto 9 = .ok (.invokevirtual 21, 3) := by decide +kernel
theorem dX7_isReadInto_12 : decode cX7_isReadInto 12 = .ok (.aload_n 0, 1) := by decide +kernel
theorem dX7_isReadInto_13 : decode cX7_isReadInto 13 = .ok (.iconst 0, 1) := by decide +kernel
theorem dX7_isReadInto_14 : decode cX7_isReadInto 14 = .ok (.putfield 26, 3) := by decide +kernel
theorem dX7_isReadInto_17 : decode cX7_isReadInto 17 = .ok (.iconst 0, 1) := by decide +kernel
theorem dX7_isReadInto_18 : decode cX7_isReadInto 18 = .ok (.istore_n 2, 1) := by decide +kernel
theorem dX7_isReadInto_19 : decode cX7_isReadInto 19 = .ok (.iload_n 2, 1) := by decide +kernel
theorem dX7_isReadInto_20 : decode cX7_isReadInto 20 = .ok (.bipush 120, 2) := by decide +kernel
theorem dX7_isReadInto_22 : decode cX7_isReadInto 22 = .ok (.if_icmp .ge 60, 3) := by decide +kernel
theorem dX7_isReadInto_25 : decode cX7_isReadInto 25 = .ok (.aload_n 0, 1) := by decide +kernel
theorem dX7_isReadInto_26 : decode cX7_isReadInto 26 = .ok (.invokevirtual 29, 3) := by decide +kernel
theorem dX7_isReadInto_29 : decode cX7_isReadInto 29 = .ok (.ifCond .eq 53, 3) := by decide +kernel
theorem dX7_isReadInto_32 : decode cX7_isReadInto 32 = .ok (.aload_n 0, 1) := by decide +kernel
theorem dX7_isReadInto_33 : decode cX7_isReadInto 33 = .ok (.getfield 26, 3) := by decide +kernel
theorem dX7_isReadInto_36 : decode cX7_isReadInto 36 = .ok (.aload_n 0, 1) := by decide +kernel
theorem dX7_isReadInto_37 : decode cX7_isReadInto 37 = .ok (.getfield 13, 3) := by decide +kernel
theorem dX7_isReadInto_40 : decode cX7_isReadInto 40 = .ok (.if_icmp .lt 5, 3) := by decide +kernel
theorem dX7_isReadInto_43 : decode cX7_isReadInto 43 = .ok (.iconst 1, 1) := by decide +kernel
theorem dX7_isReadInto_44 : decode cX7_isReadInto 44 = .ok (.ireturn, 1) := by decide +kernel
theorem dX7_isReadInto_45 : decode cX7_isReadInto 45 = .ok (.aload_n 0, 1) := by decide +kernel
theorem dX7_isReadInto_46 : decode cX7_isReadInto 46 = .ok (.bipush 59, 2) := by decide +kernel
theorem dX7_isReadInto_48 : decode cX7_isReadInto 48 = .ok (.invokevirtual 33, 3) := by decide +kernel
theorem dX7_isReadInto_51 : decode cX7_isReadInto 51 = .ok (.ifCond .ne 5, 3) := by decide +kernel
theorem dX7_isReadInto_54 : decode cX7_isReadInto 54 = .ok (.iconst 0, 1) := by decide +kernel
theorem dX7_isReadInto_55 : decode cX7_isReadInto 55 = .ok (.ireturn, 1) := by decide +kernel
theorem dX7_isReadInto_56 : decode cX7_isReadInto 56 = .ok (.aload_n 0, 1) := by decide +kernel
theorem dX7_isReadInto_57 : decode cX7_isReadInto 57 = .ok (.getfield 17, 3) := by decide +kernel
theorem dX7_isReadInto_60 : decode cX7_isReadInto 60 = .ok (.sipush 10059, 3) := by decide +kernel
theorem dX7_isReadInto_63 : decode cX7_isReadInto 63 = .ok (.invokevirtual 37, 3) := by decide +kernel
theorem dX7_isReadInto_66 : decode cX7_isReadInto 66 = .ok (.aload_n 0, 1) := by decide +kernel
theorem dX7_isReadInto_67 : decode cX7_isReadInto 67 = .ok (.dup, 1) := by decide +kernel
theorem dX7_isReadInto_68 : decode cX7_isReadInto 68 = .ok (.getfield 26, 3) := by decide +kernel
theorem dX7_isReadInto_71 : decode cX7_isReadInto 71 = .ok (.iconst 1, 1) := by decide +kernel
theorem dX7_isReadInto_72 : decode cX7_isReadInto 72 = .ok (.iadd, 1) := by decide +kernel
theorem dX7_isReadInto_73 : decode cX7_isReadInto 73 = .ok (.putfield 26, 3) := by decide +kernel
theorem dX7_isReadInto_76 : decode cX7_isReadInto 76 = .ok (.iinc 2 1, 3) := by decide +kernel
theorem dX7_isReadInto_79 : decode cX7_isReadInto 79 = .ok (.goto (-60), 3) := by decide +kernel
theorem dX7_isReadInto_82 : decode cX7_isReadInto 82 = .ok (.iconst 0, 1) := by decide +kernel
theorem dX7_isReadInto_83 : decode cX7_isReadInto 83 = .ok (.ireturn, 1) := by decide +kernel
theorem dX7_faultPlace_0 : decode cX7_faultPlace 0 = .ok (.aload_n 0, 1) := by decide +kernel
theorem dX7_faultPlace_1 : decode cX7_faultPlace 1 = .ok (.getfield 26, 3) := by decide +kernel
theorem dX7_faultPlace_4 : decode cX7_faultPlace 4 = .ok (.ireturn, 1) := by decide +kernel
theorem dX7_lineIsRead_0 : decode cX7_lineIsRead 0 = .ok (.aload_n 0, 1) := by decide +kernel
theorem dX7_lineIsRead_1 : decode cX7_lineIsRead 1 = .ok (.iconst 0, 1) := by decide +kernel
theorem dX7_lineIsRead_2 : decode cX7_lineIsRead 2 = .ok (.iconst 0, 1) := by decide +kernel
theorem dX7_lineIsRead_3 : decode cX7_lineIsRead 3 = .ok (.invokevirtual 41, 3) := by decide +kernel
theorem dX7_lineIsRead_6 : decode cX7_lineIsRead 6 = .ok (.ifCond .ne 5, 3) := by decide +kernel
theorem dX7_lineIsRead_9 : decode cX7_lineIsRead 9 = .ok (.iconst 0, 1) := by decide +kernel
theorem dX7_lineIsRead_10 : decode cX7_lineIsRead 10 = .ok (.ireturn, 1) := by decide +kernel
theorem dX7_lineIsRead_11 : decode cX7_lineIsRead 11 = .ok (.aload_n 0, 1) := by decide +kernel
theorem dX7_lineIsRead_12 : decode cX7_lineIsRead 12 = .ok (.bipush 63, 2) := by decide +kernel
theorem dX7_lineIsRead_14 : decode cX7_lineIsRead 14 = .ok (.invokevirtual 33, 3) := by decide +kernel
theorem dX7_lineIsRead_17 : decode cX7_lineIsRead 17 = .ok (.ifCond .ne 5, 3) := by decide +kernel
theorem dX7_lineIsRead_20 : decode cX7_lineIsRead 20 = .ok (.iconst 1, 1) := by decide +kernel
theorem dX7_lineIsRead_21 : decode cX7_lineIsRead 21 = .ok (.ireturn, 1) := by decide +kernel
theorem dX7_lineIsRead_22 : decode cX7_lineIsRead 22 = .ok (.aload_n 0, 1) := by decide +kernel
theorem dX7_lineIsRead_23 : decode cX7_lineIsRead 23 = .ok (.getfield 17, 3) := by decide +kernel
theorem dX7_lineIsRead_26 : decode cX7_lineIsRead 26 = .ok (.sipush 10063, 3) := by decide +kernel
theorem dX7_lineIsRead_29 : decode cX7_lineIsRead 29 = .ok (.invokevirtual 37, 3) := by decide +kernel
theorem dX7_lineIsRead_32 : decode cX7_lineIsRead 32 = .ok (.aload_n 0, 1) := by decide +kernel
theorem dX7_lineIsRead_33 : decode cX7_lineIsRead 33 = .ok (.dup, 1) := by decide +kernel
theorem dX7_lineIsRead_34 : decode cX7_lineIsRead 34 = .ok (.getfield 26, 3) := by decide +kernel
theorem dX7_lineIsRead_37 : decode cX7_lineIsRead 37 = .ok (.iconst 1, 1) := by decide +kernel
theorem dX7_lineIsRead_38 : decode cX7_lineIsRead 38 = .ok (.iadd, 1) := by decide +kernel
theorem dX7_lineIsRead_39 : decode cX7_lineIsRead 39 = .ok (.putfield 26, 3) := by decide +kernel
theorem dX7_lineIsRead_42 : decode cX7_lineIsRead 42 = .ok (.aload_n 0, 1) := by decide +kernel
theorem dX7_lineIsRead_43 : decode cX7_lineIsRead 43 = .ok (.iconst 0, 1) := by decide +kernel
theorem dX7_lineIsRead_44 : decode cX7_lineIsRead 44 = .ok (.iconst 0, 1) := by decide +kernel
theorem dX7_lineIsRead_45 : decode cX7_lineIsRead 45 = .ok (.invokevirtual 41, 3) := by decide +kernel
theorem dX7_lineIsRead_48 : decode cX7_lineIsRead 48 = .ok (.ireturn, 1) := by decide +kernel
theorem dX7_isHere_0 : decode cX7_isHere 0 = .ok (.aload_n 0, 1) := by decide +kernel
theorem dX7_isHere_1 : decode cX7_isHere 1 = .ok (.getfield 26, 3) := by decide +kernel
theorem dX7_isHere_4 : decode cX7_isHere 4 = .ok (.aload_n 0, 1) := by decide +kernel
theorem dX7_isHere_5 : decode cX7_isHere 5 = .ok (.getfield 13, 3) := by decide +kernel
theorem dX7_isHere_8 : decode cX7_isHere 8 = .ok (.if_icmp .ge 29, 3) := by decide +kernel
theorem dX7_isHere_11 : decode cX7_isHere 11 = .ok (.aload_n 0, 1) := by decide +kernel
theorem dX7_isHere_12 : decode cX7_isHere 12 = .ok (.getfield 26, 3) := by decide +kernel
theorem dX7_isHere_15 : decode cX7_isHere 15 = .ok (.bipush 120, 2) := by decide +kernel
theorem dX7_isHere_17 : decode cX7_isHere 17 = .ok (.if_icmp .ge 20, 3) := by decide +kernel
theorem dX7_isHere_20 : decode cX7_isHere 20 = .ok (.aload_n 0, 1) := by decide +kernel
theorem dX7_isHere_21 : decode cX7_isHere 21 = .ok (.getfield 9, 3) := by decide +kernel
theorem dX7_isHere_24 : decode cX7_isHere 24 = .ok (.aload_n 0, 1) := by decide +kernel
theorem dX7_isHere_25 : decode cX7_isHere 25 = .ok (.getfield 26, 3) := by decide +kernel
theorem dX7_isHere_28 : decode cX7_isHere 28 = .ok (.iaload, 1) := by decide +kernel
theorem dX7_isHere_29 : decode cX7_isHere 29 = .ok (.iload_n 1, 1) := by decide +kernel
theorem dX7_isHere_30 : decode cX7_isHere 30 = .ok (.if_icmp .ne 7, 3) := by decide +kernel
theorem dX7_isHere_33 : decode cX7_isHere 33 = .ok (.iconst 1, 1) := by decide +kernel
theorem dX7_isHere_34 : decode cX7_isHere 34 = .ok (.goto 4, 3) := by decide +kernel
theorem dX7_isHere_37 : decode cX7_isHere 37 = .ok (.iconst 0, 1) := by decide +kernel
theorem dX7_isHere_38 : decode cX7_isHere 38 = .ok (.ireturn, 1) := by decide +kernel
theorem dX7_here_0 : decode cX7_here 0 = .ok (.aload_n 0, 1) := by decide +kernel
theorem dX7_here_1 : decode cX7_here 1 = .ok (.getfield 26, 3) := by decide +kernel
theorem dX7_here_4 : decode cX7_here 4 = .ok (.aload_n 0, 1) := by decide +kernel
theorem dX7_here_5 : decode cX7_here 5 = .ok (.getfield 13, 3) := by decide +kernel
theorem dX7_here_8 : decode cX7_here 8 = .ok (.if_icmp .ge 24, 3) := by decide +kernel
theorem dX7_here_11 : decode cX7_here 11 = .ok (.aload_n 0, 1) := by decide +kernel
theorem dX7_here_12 : decode cX7_here 12 = .ok (.getfield 26, 3) := by decide +kernel
theorem dX7_here_15 : decode cX7_here 15 = .ok (.bipush 120, 2) := by decide +kernel
theorem dX7_here_17 : decode cX7_here 17 = .ok (.if_icmp .ge 15, 3) := by decide +kernel
theorem dX7_here_20 : decode cX7_here 20 = .ok (.aload_n 0, 1) := by decide +kernel
theorem dX7_here_21 : decode cX7_here 21 = .ok (.getfield 9, 3) := by decide +kernel
theorem dX7_here_24 : decode cX7_here 24 = .ok (.aload_n 0, 1) := by decide +kernel
theorem dX7_here_25 : decode cX7_here 25 = .ok (.getfield 26, 3) := by decide +kernel
theorem dX7_here_28 : decode cX7_here 28 = .ok (.iaload, 1) := by decide +kernel
theorem dX7_here_29 : decode cX7_here 29 = .ok (.goto 4, 3) := by decide +kernel
theorem dX7_here_32 : decode cX7_here 32 = .ok (.iconst 0, 1) := by decide +kernel
theorem dX7_here_33 : decode cX7_here 33 = .ok (.ireturn, 1) := by decide +kernel
theorem dX7_isRead_0 : decode cX7_isRead 0 = .ok (.iload_n 1, 1) := by decide +kernel
theorem dX7_isRead_1 : decode cX7_isRead 1 = .ok (.iconst 5, 1) := by decide +kernel
theorem dX7_isRead_2 : decode cX7_isRead 2 = .ok (.if_icmp .lt 9, 3) := by decide +kernel
theorem dX7_isRead_5 : decode cX7_isRead 5 = .ok (.aload_n 0, 1) := by decide +kernel
theorem dX7_isRead_6 : decode cX7_isRead 6 = .ok (.iload_n 2, 1) := by decide +kernel
theorem dX7_isRead_7 : decode cX7_isRead 7 = .ok (.invokevirtual 45, 3) := by decide +kernel
theorem dX7_isRead_10 : decode cX7_isRead 10 = .ok (.ireturn, 1) := by decide +kernel
theorem dX7_isRead_11 : decode cX7_isRead 11 = .ok (.aload_n 0, 1) := by decide +kernel
theorem dX7_isRead_12 : decode cX7_isRead 12 = .ok (.iload_n 1, 1) := by decide +kernel
theorem dX7_isRead_13 : decode cX7_isRead 13 = .ok (.iconst 1, 1) := by decide +kernel
theorem dX7_isRead_14 : decode cX7_isRead 14 = .ok (.iadd, 1) := by decide +kernel
theorem dX7_isRead_15 : decode cX7_isRead 15 = .ok (.iload_n 2, 1) := by decide +kernel
theorem dX7_isRead_16 : decode cX7_isRead 16 = .ok (.invokevirtual 41, 3) := by decide +kernel
theorem dX7_isRead_19 : decode cX7_isRead 19 = .ok (.ifCond .ne 5, 3) := by decide +kernel
theorem dX7_isRead_22 : decode cX7_isRead 22 = .ok (.iconst 0, 1) := by decide +kernel
theorem dX7_isRead_23 : decode cX7_isRead 23 = .ok (.ireturn, 1) := by decide +kernel
theorem dX7_isRead_24 : decode cX7_isRead 24 = .ok (.iload_n 1, 1) := by decide +kernel
theorem dX7_isRead_25 : decode cX7_isRead 25 = .ok (.iconst 2, 1) := by decide +kernel
theorem dX7_isRead_26 : decode cX7_isRead 26 = .ok (.if_icmp .ne 7, 3) := by decide +kernel
theorem dX7_isRead_29 : decode cX7_isRead 29 = .ok (.iconst 1, 1) := by decide +kernel
theorem dX7_isRead_30 : decode cX7_isRead 30 = .ok (.goto 5, 3) := by decide +kernel
theorem dX7_isRead_33 : decode cX7_isRead 33 = .ok (.bipush 120, 2) := by decide +kernel
theorem dX7_isRead_35 : decode cX7_isRead 35 = .ok (.istore_n 3, 1) := by decide +kernel
theorem dX7_isRead_36 : decode cX7_isRead 36 = .ok (.iconst 0, 1) := by decide +kernel
theorem dX7_isRead_37 : decode cX7_isRead 37 = .ok (.istore 4, 2) := by decide +kernel
theorem dX7_isRead_39 : decode cX7_isRead 39 = .ok (.iload 4, 2) := by decide +kernel
theorem dX7_isRead_41 : decode cX7_isRead 41 = .ok (.iload_n 3, 1) := by decide +kernel
theorem dX7_isRead_42 : decode cX7_isRead 42 = .ok (.if_icmp .ge 62, 3) := by decide +kernel
theorem dX7_isRead_45 : decode cX7_isRead 45 = .ok (.aload_n 0, 1) := by decide +kernel
theorem dX7_isRead_46 : decode cX7_isRead 46 = .ok (.invokevirtual 49, 3) := by decide +kernel
theorem dX7_isRead_49 : decode cX7_isRead 49 = .ok (.iload_n 1, 1) := by decide +kernel
theorem dX7_isRead_50 : decode cX7_isRead 50 = .ok (.invokestatic 53, 3) := by decide +kernel
theorem dX7_isRead_53 : decode cX7_isRead 53 = .ok (.ifCond .eq 51, 3) := by decide +kernel
theorem dX7_isRead_56 : decode cX7_isRead 56 = .ok (.aload_n 0, 1) := by decide +kernel
theorem dX7_isRead_57 : decode cX7_isRead 57 = .ok (.invokevirtual 49, 3) := by decide +kernel
theorem dX7_isRead_60 : decode cX7_isRead 60 = .ok (.istore 5, 2) := by decide +kernel
theorem dX7_isRead_62 : decode cX7_isRead 62 = .ok (.aload_n 0, 1) := by decide +kernel
theorem dX7_isRead_63 : decode cX7_isRead 63 = .ok (.dup, 1) := by decide +kernel
theorem dX7_isRead_64 : decode cX7_isRead 64 = .ok (.getfield 26, 3) := by decide +kernel
theorem dX7_isRead_67 : decode cX7_isRead 67 = .ok (.iconst 1, 1) := by decide +kernel
theorem dX7_isRead_68 : decode cX7_isRead 68 = .ok (.iadd, 1) := by decide +kernel
theorem dX7_isRead_69 : decode cX7_isRead 69 = .ok (.putfield 26, 3) := by decide +kernel
theorem dX7_isRead_72 : decode cX7_isRead 72 = .ok (.aload_n 0, 1) := by decide +kernel
theorem dX7_isRead_73 : decode cX7_isRead 73 = .ok (.iload_n 1, 1) := by decide +kernel
theorem dX7_isRead_74 : decode cX7_isRead 74 = .ok (.iconst 1, 1) := by decide +kernel
theorem dX7_isRead_75 : decode cX7_isRead 75 = .ok (.iadd, 1) := by decide +kernel
theorem dX7_isRead_76 : decode cX7_isRead 76 = .ok (.iload_n 2, 1) := by decide +kernel
theorem dX7_isRead_77 : decode cX7_isRead 77 = .ok (.invokevirtual 41, 3) := by decide +kernel
theorem dX7_isRead_80 : decode cX7_isRead 80 = .ok (.ifCond .ne 5, 3) := by decide +kernel
theorem dX7_isRead_83 : decode cX7_isRead 83 = .ok (.iconst 0, 1) := by decide +kernel
theorem dX7_isRead_84 : decode cX7_isRead 84 = .ok (.ireturn, 1) := by decide +kernel
theorem dX7_isRead_85 : decode cX7_isRead 85 = .ok (.aload_n 0, 1) := by decide +kernel
theorem dX7_isRead_86 : decode cX7_isRead 86 = .ok (.getfield 17, 3) := by decide +kernel
theorem dX7_isRead_89 : decode cX7_isRead 89 = .ok (.sipush 10000, 3) := by decide +kernel
theorem dX7_isRead_92 : decode cX7_isRead 92 = .ok (.iload 5, 2) := by decide +kernel
theorem dX7_isRead_94 : decode cX7_isRead 94 = .ok (.iadd, 1) := by decide +kernel
theorem dX7_isRead_95 : decode cX7_isRead 95 = .ok (.invokevirtual 37, 3) := by decide +kernel
theorem dX7_isRead_98 : decode cX7_isRead 98 = .ok (.iinc 4 1, 3) := by decide +kernel
theorem dX7_isRead_101 : decode cX7_isRead 101 = .ok (.goto (-62), 3) := by decide +kernel
theorem dX7_isRead_104 : decode cX7_isRead 104 = .ok (.iconst 1, 1) := by decide +kernel
theorem dX7_isRead_105 : decode cX7_isRead 105 = .ok (.ireturn, 1) := by decide +kernel
theorem dX7_binds_0 : decode cX7_binds 0 = .ok (.iload_n 1, 1) := by decide +kernel
theorem dX7_binds_1 : decode cX7_binds 1 = .ok (.tableswitch 97 0 3 #[31, 43, 55, 79], 31) := by decide +kernel
theorem dX7_binds_32 : decode cX7_binds 32 = .ok (.iload_n 0, 1) := by decide +kernel
theorem dX7_binds_33 : decode cX7_binds 33 = .ok (.bipush 124, 2) := by decide +kernel
theorem dX7_binds_35 : decode cX7_binds 35 = .ok (.if_icmp .ne 7, 3) := by decide +kernel
theorem dX7_binds_38 : decode cX7_binds 38 = .ok (.iconst 1, 1) := by decide +kernel
theorem dX7_binds_39 : decode cX7_binds 39 = .ok (.goto 4, 3) := by decide +kernel
theorem dX7_binds_42 : decode cX7_binds 42 = .ok (.iconst 0, 1) := by decide +kernel
theorem dX7_binds_43 : decode cX7_binds 43 = .ok (.ireturn, 1) := by decide +kernel
theorem dX7_binds_44 : decode cX7_binds 44 = .ok (.iload_n 0, 1) := by decide +kernel
theorem dX7_binds_45 : decode cX7_binds 45 = .ok (.bipush 38, 2) := by decide +kernel
theorem dX7_binds_47 : decode cX7_binds 47 = .ok (.if_icmp .ne 7, 3) := by decide +kernel
theorem dX7_binds_50 : decode cX7_binds 50 = .ok (.iconst 1, 1) := by decide +kernel
theorem dX7_binds_51 : decode cX7_binds 51 = .ok (.goto 4, 3) := by decide +kernel
theorem dX7_binds_54 : decode cX7_binds 54 = .ok (.iconst 0, 1) := by decide +kernel
theorem dX7_binds_55 : decode cX7_binds 55 = .ok (.ireturn, 1) := by decide +kernel
theorem dX7_binds_56 : decode cX7_binds 56 = .ok (.iload_n 0, 1) := by decide +kernel
theorem dX7_binds_57 : decode cX7_binds 57 = .ok (.bipush 60, 2) := by decide +kernel
theorem dX7_binds_59 : decode cX7_binds 59 = .ok (.if_icmp .eq 15, 3) := by decide +kernel
theorem dX7_binds_62 : decode cX7_binds 62 = .ok (.iload_n 0, 1) := by decide +kernel
theorem dX7_binds_63 : decode cX7_binds 63 = .ok (.bipush 61, 2) := by decide +kernel
theorem dX7_binds_65 : decode cX7_binds 65 = .ok (.if_icmp .eq 9, 3) := by decide +kernel
theorem dX7_binds_68 : decode cX7_binds 68 = .ok (.iload_n 0, 1) := by decide +kernel
theorem dX7_binds_69 : decode cX7_binds 69 = .ok (.bipush 62, 2) := by decide +kernel
theorem dX7_binds_71 : decode cX7_binds 71 = .ok (.if_icmp .ne 7, 3) := by decide +kernel
theorem dX7_binds_74 : decode cX7_binds 74 = .ok (.iconst 1, 1) := by decide +kernel
theorem dX7_binds_75 : decode cX7_binds 75 = .ok (.goto 4, 3) := by decide +kernel
theorem dX7_binds_78 : decode cX7_binds 78 = .ok (.iconst 0, 1) := by decide +kernel
theorem dX7_binds_79 : decode cX7_binds 79 = .ok (.ireturn, 1) := by decide +kernel
theorem dX7_binds_80 : decode cX7_binds 80 = .ok (.iload_n 0, 1) := by decide +kernel
theorem dX7_binds_81 : decode cX7_binds 81 = .ok (.bipush 43, 2) := by decide +kernel
theorem dX7_binds_83 : decode cX7_binds 83 = .ok (.if_icmp .eq 9, 3) := by decide +kernel
theorem dX7_binds_86 : decode cX7_binds 86 = .ok (.iload_n 0, 1) := by decide +kernel
theorem dX7_binds_87 : decode cX7_binds 87 = .ok (.bipush 45, 2) := by decide +kernel
theorem dX7_binds_89 : decode cX7_binds 89 = .ok (.if_icmp .ne 7, 3) := by decide +kernel
theorem dX7_binds_92 : decode cX7_binds 92 = .ok (.iconst 1, 1) := by decide +kernel
theorem dX7_binds_93 : decode cX7_binds 93 = .ok (.goto 4, 3) := by decide +kernel
theorem dX7_binds_96 : decode cX7_binds 96 = .ok (.iconst 0, 1) := by decide +kernel
theorem dX7_binds_97 : decode cX7_binds 97 = .ok (.ireturn, 1) := by decide +kernel
theorem dX7_binds_98 : decode cX7_binds 98 = .ok (.iload_n 0, 1) := by decide +kernel
theorem dX7_binds_99 : decode cX7_binds 99 = .ok (.bipush 42, 2) := by decide +kernel
theorem dX7_binds_101 : decode cX7_binds 101 = .ok (.if_icmp .eq 15, 3) := by decide +kernel
theorem dX7_binds_104 : decode cX7_binds 104 = .ok (.iload_n 0, 1) := by decide +kernel
theorem dX7_binds_105 : decode cX7_binds 105 = .ok (.bipush 47, 2) := by decide +kernel
theorem dX7_binds_107 : decode cX7_binds 107 = .ok (.if_icmp .eq 9, 3) := by decide +kernel
theorem dX7_binds_110 : decode cX7_binds 110 = .ok (.iload_n 0, 1) := by decide +kernel
theorem dX7_binds_111 : decode cX7_binds 111 = .ok (.bipush 37, 2) := by decide +kernel
theorem dX7_binds_113 : decode cX7_binds 113 = .ok (.if_icmp .ne 7, 3) := by decide +kernel
theorem dX7_binds_116 : decode cX7_binds 116 = .ok (.iconst 1, 1) := by decide +kernel
theorem dX7_binds_117 : decode cX7_binds 117 = .ok (.goto 4, 3) := by decide +kernel
theorem dX7_binds_120 : decode cX7_binds 120 = .ok (.iconst 0, 1) := by decide +kernel
theorem dX7_binds_121 : decode cX7_binds 121 = .ok (.ireturn, 1) := by decide +kernel
theorem dX7_operandIsRead_0 : decode cX7_operandIsRead 0 = .ok (.aload_n 0, 1) := by decide +kernel
theorem dX7_operandIsRead_1 : decode cX7_operandIsRead 1 = .ok (.invokevirtual 49, 3) := by decide +kernel
theorem dX7_operandIsRead_4 : decode cX7_operandIsRead 4 = .ok (.istore_n 2, 1) := by decide +kernel
theorem dX7_operandIsRead_5 : decode cX7_operandIsRead 5 = .ok (.iload_n 2, 1) := by decide +kernel
theorem dX7_operandIsRead_6 : decode cX7_operandIsRead 6 = .ok (.invokestatic 56, 3) := by decide +kernel
theorem dX7_operandIsRead_9 : decode cX7_operandIsRead 9 = .ok (.ifCond .eq 8, 3) := by decide +kernel
theorem dX7_operandIsRead_12 : decode cX7_operandIsRead 12 = .ok (.aload_n 0, 1) := by decide +kernel
theorem dX7_operandIsRead_13 : decode cX7_operandIsRead 13 = .ok (.invokevirtual 59, 3) := by decide +kernel
theorem dX7_operandIsRead_16 : decode cX7_operandIsRead 16 = .ok (.ireturn, 1) := by decide +kernel
theorem dX7_operandIsRead_17 : decode cX7_operandIsRead 17 = .ok (.iload_n 2, 1) := by decide +kernel
theorem dX7_operandIsRead_18 : decode cX7_operandIsRead 18 = .ok (.invokestatic 62, 3) := by decide +kernel
theorem dX7_operandIsRead_21 : decode cX7_operandIsRead 21 = .ok (.istore_n 3, 1) := by decide +kernel
theorem dX7_operandIsRead_22 : decode cX7_operandIsRead 22 = .ok (.iload_n 3, 1) := by decide +kernel
theorem dX7_operandIsRead_23 : decode cX7_operandIsRead 23 = .ok (.ifCond .lt 25, 3) := by decide +kernel
theorem dX7_operandIsRead_26 : decode cX7_operandIsRead 26 = .ok (.aload_n 0, 1) := by decide +kernel
theorem dX7_operandIsRead_27 : decode cX7_operandIsRead 27 = .ok (.dup, 1) := by decide +kernel
theorem dX7_operandIsRead_28 : decode cX7_operandIsRead 28 = .ok (.getfield 26, 3) := by decide +kernel
theorem dX7_operandIsRead_31 : decode cX7_operandIsRead 31 = .ok (.iconst 1, 1) := by decide +kernel
theorem dX7_operandIsRead_32 : decode cX7_operandIsRead 32 = .ok (.iadd, 1) := by decide +kernel
theorem dX7_operandIsRead_33 : decode cX7_operandIsRead 33 = .ok (.putfield 26, 3) := by decide +kernel
theorem dX7_operandIsRead_36 : decode cX7_operandIsRead 36 = .ok (.aload_n 0, 1) := by decide +kernel
theorem dX7_operandIsRead_37 : decode cX7_operandIsRead 37 = .ok (.getfield 17, 3) := by decide +kernel
theorem dX7_operandIsRead_40 : decode cX7_operandIsRead 40 = .ok (.iconst (-1), 1) := by decide +kernel
theorem dX7_operandIsRead_41 : decode cX7_operandIsRead 41 = .ok (.iload_n 3, 1) := by decide +kernel
theorem dX7_operandIsRead_42 : decode cX7_operandIsRead 42 = .ok (.isub, 1) := by decide +kernel
theorem dX7_operandIsRead_43 : decode cX7_operandIsRead 43 = .ok (.invokevirtual 37, 3) := by decide +kernel
theorem dX7_operandIsRead_46 : decode cX7_operandIsRead 46 = .ok (.iconst 1, 1) := by decide +kernel
theorem dX7_operandIsRead_47 : decode cX7_operandIsRead 47 = .ok (.ireturn, 1) := by decide +kernel
theorem dX7_operandIsRead_48 : decode cX7_operandIsRead 48 = .ok (.iload_n 2, 1) := by decide +kernel
theorem dX7_operandIsRead_49 : decode cX7_operandIsRead 49 = .ok (.bipush 40, 2) := by decide +kernel
theorem dX7_operandIsRead_51 : decode cX7_operandIsRead 51 = .ok (.if_icmp .eq 15, 3) := by decide +kernel
theorem dX7_operandIsRead_54 : decode cX7_operandIsRead 54 = .ok (.iload_n 2, 1) := by decide +kernel
theorem dX7_operandIsRead_55 : decode cX7_operandIsRead 55 = .ok (.bipush 33, 2) := by decide +kernel
theorem dX7_operandIsRead_57 : decode cX7_operandIsRead 57 = .ok (.if_icmp .eq 9, 3) := by decide +kernel
theorem dX7_operandIsRead_60 : decode cX7_operandIsRead 60 = .ok (.iload_n 2, 1) := by decide +kernel
theorem dX7_operandIsRead_61 : decode cX7_operandIsRead 61 = .ok (.bipush 45, 2) := by decide +kernel
theorem dX7_operandIsRead_63 : decode cX7_operandIsRead 63 = .ok (.if_icmp .ne 9, 3) := by decide +kernel
theorem dX7_operandIsRead_66 : decode cX7_operandIsRead 66 = .ok (.iload_n 1, 1) := by decide +kernel
theorem dX7_operandIsRead_67 : decode cX7_operandIsRead 67 = .ok (.bipush 6, 2) := by decide +kernel
theorem dX7_operandIsRead_69 : decode cX7_operandIsRead 69 = .ok (.if_icmp .lt 5, 3) := by decide +kernel
theorem dX7_operandIsRead_72 : decode cX7_operandIsRead 72 = .ok (.iconst 0, 1) := by decide +kernel
theorem dX7_operandIsRead_73 : decode cX7_operandIsRead 73 = .ok (.ireturn, 1) := by decide +kernel
theorem dX7_operandIsRead_74 : decode cX7_operandIsRead 74 = .ok (.aload_n 0, 1) := by decide +kernel
theorem dX7_operandIsRead_75 : decode cX7_operandIsRead 75 = .ok (.dup, 1) := by decide +kernel
theorem dX7_operandIsRead_76 : decode cX7_operandIsRead 76 = .ok (.getfield 26, 3) := by decide +kernel
theorem dX7_operandIsRead_79 : decode cX7_operandIsRead 79 = .ok (.iconst 1, 1) := by decide +kernel
theorem dX7_operandIsRead_80 : decode cX7_operandIsRead 80 = .ok (.iadd, 1) := by decide +kernel
theorem dX7_operandIsRead_81 : decode cX7_operandIsRead 81 = .ok (.putfield 26, 3) := by decide +kernel
theorem dX7_operandIsRead_84 : decode cX7_operandIsRead 84 = .ok (.iload_n 2, 1) := by decide +kernel
theorem dX7_operandIsRead_85 : decode cX7_operandIsRead 85 = .ok (.bipush 40, 2) := by decide +kernel
theorem dX7_operandIsRead_87 : decode cX7_operandIsRead 87 = .ok (.if_icmp .ne 13, 3) := by decide +kernel
theorem dX7_operandIsRead_90 : decode cX7_operandIsRead 90 = .ok (.aload_n 0, 1) := by decide +kernel
theorem dX7_operandIsRead_91 : decode cX7_operandIsRead 91 = .ok (.iload_n 1, 1) := by decide +kernel
theorem dX7_operandIsRead_92 : decode cX7_operandIsRead 92 = .ok (.iconst 1, 1) := by decide +kernel
theorem dX7_operandIsRead_93 : decode cX7_operandIsRead 93 = .ok (.iadd, 1) := by decide +kernel
theorem dX7_operandIsRead_94 : decode cX7_operandIsRead 94 = .ok (.invokevirtual 66, 3) := by decide +kernel
theorem dX7_operandIsRead_97 : decode cX7_operandIsRead 97 = .ok (.goto 11, 3) := by decide +kernel
theorem dX7_operandIsRead_100 : decode cX7_operandIsRead 100 = .ok (.aload_n 0, 1) := by decide +kernel
theorem dX7_operandIsRead_101 : decode cX7_operandIsRead 101 = .ok (.iload_n 2, 1) := by decide +kernel
theorem dX7_operandIsRead_102 : decode cX7_operandIsRead 102 = .ok (.iload_n 1, 1) := by decide +kernel
theorem dX7_operandIsRead_103 : decode cX7_operandIsRead 103 = .ok (.iconst 1, 1) := by decide +kernel
theorem dX7_operandIsRead_104 : decode cX7_operandIsRead 104 = .ok (.iadd, 1) := by decide +kernel
theorem dX7_operandIsRead_105 : decode cX7_operandIsRead 105 = .ok (.invokevirtual 69, 3) := by decide +kernel
theorem dX7_operandIsRead_108 : decode cX7_operandIsRead 108 = .ok (.ireturn, 1) := by decide +kernel
theorem dX7_bracketIsRead_0 : decode cX7_bracketIsRead 0 = .ok (.aload_n 0, 1) := by decide +kernel
theorem dX7_bracketIsRead_1 : decode cX7_bracketIsRead 1 = .ok (.iconst 0, 1) := by decide +kernel
theorem dX7_bracketIsRead_2 : decode cX7_bracketIsRead 2 = .ok (.iload_n 1, 1) := by decide +kernel
theorem dX7_bracketIsRead_3 : decode cX7_bracketIsRead 3 = .ok (.invokevirtual 41, 3) := by decide +kernel
theorem dX7_bracketIsRead_6 : decode cX7_bracketIsRead 6 = .ok (.ifCond .eq 12, 3) := by decide +kernel
theorem dX7_bracketIsRead_9 : decode cX7_bracketIsRead 9 = .ok (.aload_n 0, 1) := by decide +kernel
theorem dX7_bracketIsRead_10 : decode cX7_bracketIsRead 10 = .ok (.bipush 41, 2) := by decide +kernel
theorem dX7_bracketIsRead_12 : decode cX7_bracketIsRead 12 = .ok (.invokevirtual 33, 3) := by decide +kernel
theorem dX7_bracketIsRead_15 : decode cX7_bracketIsRead 15 = .ok (.ifCond .ne 5, 3) := by decide +kernel
theorem dX7_bracketIsRead_18 : decode cX7_bracketIsRead 18 = .ok (.iconst 0, 1) := by decide +kernel
theorem dX7_bracketIsRead_19 : decode cX7_bracketIsRead 19 = .ok (.ireturn, 1) := by decide +kernel
theorem dX7_bracketIsRead_20 : decode cX7_bracketIsRead 20 = .ok (.aload_n 0, 1) := by decide +kernel
theorem dX7_bracketIsRead_21 : decode cX7_bracketIsRead 21 = .ok (.dup, 1) := by decide +kernel
theorem dX7_bracketIsRead_22 : decode cX7_bracketIsRead 22 = .ok (.getfield 26, 3) := by decide +kernel
theorem dX7_bracketIsRead_25 : decode cX7_bracketIsRead 25 = .ok (.iconst 1, 1) := by decide +kernel
theorem dX7_bracketIsRead_26 : decode cX7_bracketIsRead 26 = .ok (.iadd, 1) := by decide +kernel
theorem dX7_bracketIsRead_27 : decode cX7_bracketIsRead 27 = .ok (.putfield 26, 3) := by decide +kernel
theorem dX7_bracketIsRead_30 : decode cX7_bracketIsRead 30 = .ok (.iconst 1, 1) := by decide +kernel
theorem dX7_bracketIsRead_31 : decode cX7_bracketIsRead 31 = .ok (.ireturn, 1) := by decide +kernel
theorem dX7_signedIsRead_0 : decode cX7_signedIsRead 0 = .ok (.aload_n 0, 1) := by decide +kernel
theorem dX7_signedIsRead_1 : decode cX7_signedIsRead 1 = .ok (.iload_n 2, 1) := by decide +kernel
theorem dX7_signedIsRead_2 : decode cX7_signedIsRead 2 = .ok (.invokevirtual 45, 3) := by decide +kernel
theorem dX7_signedIsRead_5 : decode cX7_signedIsRead 5 = .ok (.ifCond .ne 5, 3) := by decide +kernel
theorem dX7_signedIsRead_8 : decode cX7_signedIsRead 8 = .ok (.iconst 0, 1) := by decide +kernel
theorem dX7_signedIsRead_9 : decode cX7_signedIsRead 9 = .ok (.ireturn, 1) := by decide +kernel
theorem dX7_signedIsRead_10 : decode cX7_signedIsRead 10 = .ok (.aload_n 0, 1) := by decide +kernel
theorem dX7_signedIsRead_11 : decode cX7_signedIsRead 11 = .ok (.getfield 17, 3) := by decide +kernel
theorem dX7_signedIsRead_14 : decode cX7_signedIsRead 14 = .ok (.iload_n 1, 1) := by decide +kernel
theorem dX7_signedIsRead_15 : decode cX7_signedIsRead 15 = .ok (.bipush 33, 2) := by decide +kernel
theorem dX7_signedIsRead_17 : decode cX7_signedIsRead 17 = .ok (.if_icmp .ne 9, 3) := by decide +kernel
theorem dX7_signedIsRead_20 : decode cX7_signedIsRead 20 = .ok (.sipush 10033, 3) := by decide +kernel
theorem dX7_signedIsRead_23 : decode cX7_signedIsRead 23 = .ok (.goto 6, 3) := by decide +kernel
theorem dX7_signedIsRead_26 : decode cX7_signedIsRead 26 = .ok (.sipush 10126, 3) := by decide +kernel
theorem dX7_signedIsRead_29 : decode cX7_signedIsRead 29 = .ok (.invokevirtual 37, 3) := by decide +kernel
theorem dX7_signedIsRead_32 : decode cX7_signedIsRead 32 = .ok (.iconst 1, 1) := by decide +kernel
theorem dX7_signedIsRead_33 : decode cX7_signedIsRead 33 = .ok (.ireturn, 1) := by decide +kernel
theorem dX7_isDigit_0 : decode cX7_isDigit 0 = .ok (.iload_n 0, 1) := by decide +kernel
theorem dX7_isDigit_1 : decode cX7_isDigit 1 = .ok (.bipush 48, 2) := by decide +kernel
theorem dX7_isDigit_3 : decode cX7_isDigit 3 = .ok (.if_icmp .lt 13, 3) := by decide +kernel
theorem dX7_isDigit_6 : decode cX7_isDigit 6 = .ok (.iload_n 0, 1) := by decide +kernel
theorem dX7_isDigit_7 : decode cX7_isDigit 7 = .ok (.bipush 57, 2) := by decide +kernel
theorem dX7_isDigit_9 : decode cX7_isDigit 9 = .ok (.if_icmp .gt 7, 3) := by decide +kernel
theorem dX7_isDigit_12 : decode cX7_isDigit 12 = .ok (.iconst 1, 1) := by decide +kernel
theorem dX7_isDigit_13 : decode cX7_isDigit 13 = .ok (.goto 4, 3) := by decide +kernel
theorem dX7_isDigit_16 : decode cX7_isDigit 16 = .ok (.iconst 0, 1) := by decide +kernel
theorem dX7_isDigit_17 : decode cX7_isDigit 17 = .ok (.ireturn, 1) := by decide +kernel
theorem dX7_numberIsRead_0 : decode cX7_numberIsRead 0 = .ok (.iconst 0, 1) := by decide +kernel
theorem dX7_numberIsRead_1 : decode cX7_numberIsRead 1 = .ok (.istore_n 1, 1) := by decide +kernel
theorem dX7_numberIsRead_2 : decode cX7_numberIsRead 2 = .ok (.iconst 0, 1) := by decide +kernel
theorem dX7_numberIsRead_3 : decode cX7_numberIsRead 3 = .ok (.istore_n 2, 1) := by decide +kernel
theorem dX7_numberIsRead_4 : decode cX7_numberIsRead 4 = .ok (.iload_n 2, 1) := by decide +kernel
theorem dX7_numberIsRead_5 : decode cX7_numberIsRead 5 = .ok (.iconst 4, 1) := by decide +kernel
theorem dX7_numberIsRead_6 : decode cX7_numberIsRead 6 = .ok (.if_icmp .ge 42, 3) := by decide +kernel
theorem dX7_numberIsRead_9 : decode cX7_numberIsRead 9 = .ok (.aload_n 0, 1) := by decide +kernel
theorem dX7_numberIsRead_10 : decode cX7_numberIsRead 10 = .ok (.invokevirtual 49, 3) := by decide +kernel
theorem dX7_numberIsRead_13 : decode cX7_numberIsRead 13 = .ok (.invokestatic 56, 3) := by decide +kernel
theorem dX7_numberIsRead_16 : decode cX7_numberIsRead 16 = .ok (.ifCond .eq 32, 3) := by decide +kernel
theorem dX7_numberIsRead_19 : decode cX7_numberIsRead 19 = .ok (.iload_n 1, 1) := by decide +kernel
theorem dX7_numberIsRead_20 : decode cX7_numberIsRead 20 = .ok (.bipush 10, 2) := by decide +kernel
theorem dX7_numberIsRead_22 : decode cX7_numberIsRead 22 = .ok (.imul, 1) := by decide +kernel
theorem dX7_numberIsRead_23 : decode cX7_numberIsRead 23 = .ok (.aload_n 0, 1) := by decide +kernel
theorem dX7_numberIsRead_24 : decode cX7_numberIsRead 24 = .ok (.invokevirtual 49, 3) := by decide +kernel
theorem dX7_numberIsRead_27 : decode cX7_numberIsRead 27 = .ok (.iadd, 1) := by decide +kernel
theorem dX7_numberIsRead_28 : decode cX7_numberIsRead 28 = .ok (.bipush 48, 2) := by decide +kernel
theorem dX7_numberIsRead_30 : decode cX7_numberIsRead 30 = .ok (.isub, 1) := by decide +kernel
theorem dX7_numberIsRead_31 : decode cX7_numberIsRead 31 = .ok (.istore_n 1, 1) := by decide +kernel
theorem dX7_numberIsRead_32 : decode cX7_numberIsRead 32 = .ok (.aload_n 0, 1) := by decide +kernel
theorem dX7_numberIsRead_33 : decode cX7_numberIsRead 33 = .ok (.dup, 1) := by decide +kernel
theorem dX7_numberIsRead_34 : decode cX7_numberIsRead 34 = .ok (.getfield 26, 3) := by decide +kernel
theorem dX7_numberIsRead_37 : decode cX7_numberIsRead 37 = .ok (.iconst 1, 1) := by decide +kernel
theorem dX7_numberIsRead_38 : decode cX7_numberIsRead 38 = .ok (.iadd, 1) := by decide +kernel
theorem dX7_numberIsRead_39 : decode cX7_numberIsRead 39 = .ok (.putfield 26, 3) := by decide +kernel
theorem dX7_numberIsRead_42 : decode cX7_numberIsRead 42 = .ok (.iinc 2 1, 3) := by decide +kernel
theorem dX7_numberIsRead_45 : decode cX7_numberIsRead 45 = .ok (.goto (-41), 3) := by decide +kernel
theorem dX7_numberIsRead_48 : decode cX7_numberIsRead 48 = .ok (.aload_n 0, 1) := by decide +kernel
theorem dX7_numberIsRead_49 : decode cX7_numberIsRead 49 = .ok (.getfield 17, 3) := by decide +kernel
theorem dX7_numberIsRead_52 : decode cX7_numberIsRead 52 = .ok (.iload_n 1, 1) := by decide +kernel
theorem dX7_numberIsRead_53 : decode cX7_numberIsRead 53 = .ok (.invokevirtual 37, 3) := by decide +kernel
theorem dX7_numberIsRead_56 : decode cX7_numberIsRead 56 = .ok (.iconst 1, 1) := by decide +kernel
theorem dX7_numberIsRead_57 : decode cX7_numberIsRead 57 = .ok (.ireturn, 1) := by decide +kernel
theorem dX8_paceToFear_0 : decode cX8_paceToFear 0 = .ok (.aload_n 0, 1) := by decide +kernel
theorem dX8_paceToFear_1 : decode cX8_paceToFear 1 = .ok (.getfield 9, 3) := by decide +kernel
theorem dX8_paceToFear_4 : decode cX8_paceToFear 4 = .ok (.invokevirtual 38, 3) := by decide +kernel
theorem dX8_paceToFear_7 : decode cX8_paceToFear 7 = .ok (.istore_n 1, 1) := by decide +kernel
theorem dX8_paceToFear_8 : decode cX8_paceToFear 8 = .ok (.bipush 10, 2) := by decide +kernel
theorem dX8_paceToFear_10 : decode cX8_paceToFear 10 = .ok (.istore_n 2, 1) := by decide +kernel
theorem dX8_paceToFear_11 : decode cX8_paceToFear 11 = .ok (.bipush 20, 2) := by decide +kernel
theorem dX8_paceToFear_13 : decode cX8_paceToFear 13 = .ok (.istore_n 3, 1) := by decide +kernel
theorem dX8_paceToFear_14 : decode cX8_paceToFear 14 = .ok (.iload_n 3, 1) := by decide +kernel
theorem dX8_paceToFear_15 : decode cX8_paceToFear 15 = .ok (.sipush 1200, 3) := by decide +kernel
theorem dX8_paceToFear_18 : decode cX8_paceToFear 18 = .ok (.if_icmp .gt 32, 3) := by decide +kernel
theorem dX8_paceToFear_21 : decode cX8_paceToFear 21 = .ok (.aload_n 0, 1) := by decide +kernel
theorem dX8_paceToFear_22 : decode cX8_paceToFear 22 = .ok (.getfield 15, 3) := by decide +kernel
theorem dX8_paceToFear_25 : decode cX8_paceToFear 25 = .ok (.iload_n 1, 1) := by decide +kernel
theorem dX8_paceToFear_26 : decode cX8_paceToFear 26 = .ok (.iload_n 3, 1) := by decide +kernel
theorem dX8_paceToFear_27 : decode cX8_paceToFear 27 = .ok (.invokevirtual 44, 3) := by decide +kernel
theorem dX8_paceToFear_30 : decode cX8_paceToFear 30 = .ok (.aload_n 0, 1) := by decide +kernel
theorem dX8_paceToFear_31 : decode cX8_paceToFear 31 = .ok (.getfield 15, 3) := by decide +kernel
theorem dX8_paceToFear_34 : decode cX8_paceToFear 34 = .ok (.iload_n 1, 1) := by decide +kernel
theorem dX8_paceToFear_35 : decode cX8_paceToFear 35 = .ok (.iload_n 2, 1) := by decide +kernel
theorem dX8_paceToFear_36 : decode cX8_paceToFear 36 = .ok (.invokevirtual 44, 3) := by decide +kernel
theorem dX8_paceToFear_39 : decode cX8_paceToFear 39 = .ok (.if_icmp .le 5, 3) := by decide +kernel
theorem dX8_paceToFear_42 : decode cX8_paceToFear 42 = .ok (.iload_n 3, 1) := by decide +kernel
theorem dX8_paceToFear_43 : decode cX8_paceToFear 43 = .ok (.istore_n 2, 1) := by decide +kernel
theorem dX8_paceToFear_44 : decode cX8_paceToFear 44 = .ok (.iinc 3 10, 3) := by decide +kernel
theorem dX8_paceToFear_47 : decode cX8_paceToFear 47 = .ok (.goto (-33), 3) := by decide +kernel
theorem dX8_paceToFear_50 : decode cX8_paceToFear 50 = .ok (.iload_n 2, 1) := by decide +kernel
theorem dX8_paceToFear_51 : decode cX8_paceToFear 51 = .ok (.ireturn, 1) := by decide +kernel
theorem dX8_bestCounter_0 : decode cX8_bestCounter 0 = .ok (.aload_n 0, 1) := by decide +kernel
theorem dX8_bestCounter_1 : decode cX8_bestCounter 1 = .ok (.getfield 26, 3) := by decide +kernel
theorem dX8_bestCounter_4 : decode cX8_bestCounter 4 = .ok (.aload_n 0, 1) := by decide +kernel
theorem dX8_bestCounter_5 : decode cX8_bestCounter 5 = .ok (.getfield 9, 3) := by decide +kernel
theorem dX8_bestCounter_8 : decode cX8_bestCounter 8 = .ok (.invokevirtual 48, 3) := by decide +kernel
theorem dX8_bestCounter_11 : decode cX8_bestCounter 11 = .ok (.aload_n 0, 1) := by decide +kernel
theorem dX8_bestCounter_12 : decode cX8_bestCounter 12 = .ok (.getfield 26, 3) := by decide +kernel
theorem dX8_bestCounter_15 : decode cX8_bestCounter 15 = .ok (.iconst 0, 1) := by decide +kernel
theorem dX8_bestCounter_16 : decode cX8_bestCounter 16 = .ok (.iconst 4, 1) := by decide +kernel
theorem dX8_bestCounter_17 : decode cX8_bestCounter 17 = .ok (.iconst 0, 1) := by decide +kernel
theorem dX8_bestCounter_18 : decode cX8_bestCounter 18 = .ok (.invokevirtual 52, 3) := by decide +kernel
theorem dX8_bestCounter_21 : decode cX8_bestCounter 21 = .ok (.aload_n 0, 1) := by decide +kernel
theorem dX8_bestCounter_22 : decode cX8_bestCounter 22 = .ok (.getfield 26, 3) := by decide +kernel
theorem dX8_bestCounter_25 : decode cX8_bestCounter 25 = .ok (.invokevirtual 56, 3) := by decide +kernel
theorem dX8_bestCounter_28 : decode cX8_bestCounter 28 = .ok (.istore_n 2, 1) := by decide +kernel
theorem dX8_bestCounter_29 : decode cX8_bestCounter 29 = .ok (.aload_n 0, 1) := by decide +kernel
theorem dX8_bestCounter_30 : decode cX8_bestCounter 30 = .ok (.getfield 26, 3) := by decide +kernel
theorem dX8_bestCounter_33 : decode cX8_bestCounter 33 = .ok (.invokevirtual 59, 3) := by decide +kernel
theorem dX8_bestCounter_36 : decode cX8_bestCounter 36 = .ok (.istore_n 3, 1) := by decide +kernel
theorem dX8_bestCounter_37 : decode cX8_bestCounter 37 = .ok (.iload_n 2, 1) := by decide +kernel
theorem dX8_bestCounter_38 : decode cX8_bestCounter 38 = .ok (.iload_n 3, 1) := by decide +kernel
theorem dX8_bestCounter_39 : decode cX8_bestCounter 39 = .ok (.invokestatic 62, 3) := by decide +kernel
theorem dX8_bestCounter_42 : decode cX8_bestCounter 42 = .ok (.istore 4, 2) := by decide +kernel
theorem dX8_bestCounter_44 : decode cX8_bestCounter 44 = .ok (.iconst 0, 1) := by decide +kernel
theorem dX8_bestCounter_45 : decode cX8_bestCounter 45 = .ok (.istore 5, 2) := by decide +kernel
theorem dX8_bestCounter_47 : decode cX8_bestCounter 47 = .ok (.iconst 1, 1) := by decide +kernel
theorem dX8_bestCounter_48 : decode cX8_bestCounter 48 = .ok (.istore 6, 2) := by decide +kernel
theorem dX8_bestCounter_50 : decode cX8_bestCounter 50 = .ok (.iload 6, 2) := by decide +kernel
theorem dX8_bestCounter_52 : decode cX8_bestCounter 52 = .ok (.bipush 99, 2) := by decide +kernel
theorem dX8_bestCounter_54 : decode cX8_bestCounter 54 = .ok (.if_icmp .gt 77, 3) := by decide +kernel
theorem dX8_bestCounter_57 : decode cX8_bestCounter 57 = .ok (.iconst 0, 1) := by decide +kernel
theorem dX8_bestCounter_58 : decode cX8_bestCounter 58 = .ok (.istore 7, 2) := by decide +kernel
theorem dX8_bestCounter_60 : decode cX8_bestCounter 60 = .ok (.iload 7, 2) := by decide +kernel
theorem dX8_bestCounter_62 : decode cX8_bestCounter 62 = .ok (.bipush 12, 2) := by decide +kernel
theorem dX8_bestCounter_64 : decode cX8_bestCounter 64 = .ok (.if_icmp .ge 61, 3) := by decide +kernel
theorem dX8_bestCounter_67 : decode cX8_bestCounter 67 = .ok (.iload_n 2, 1) := by decide +kernel
theorem dX8_bestCounter_68 : decode cX8_bestCounter 68 = .ok (.iload 6, 2) := by decide +kernel
theorem dX8_bestCounter_70 : decode cX8_bestCounter 70 = .ok (.iload 7, 2) := by decide +kernel
theorem dX8_bestCounter_72 : decode cX8_bestCounter 72 = .ok (.invokestatic 65, 3) := by decide +kernel
theorem dX8_bestCounter_75 : decode cX8_bestCounter 75 = .ok (.imul, 1) := by decide +kernel
theorem dX8_bestCounter_76 : decode cX8_bestCounter 76 = .ok (.bipush 10, 2) := by decide +kernel
theorem dX8_bestCounter_78 : decode cX8_bestCounter 78 = .ok (.idiv, 1) := by decide +kernel
theorem dX8_bestCounter_79 : decode cX8_bestCounter 79 = .ok (.iadd, 1) := by decide +kernel
theorem dX8_bestCounter_80 : decode cX8_bestCounter 80 = .ok (.iload_n 3, 1) := by decide +kernel
theorem dX8_bestCounter_81 : decode cX8_bestCounter 81 = .ok (.iload 6, 2) := by decide +kernel
theorem dX8_bestCounter_83 : decode cX8_bestCounter 83 = .ok (.iload 7, 2) := by decide +kernel
theorem dX8_bestCounter_85 : decode cX8_bestCounter 85 = .ok (.invokestatic 69, 3) := by decide +kernel
theorem dX8_bestCounter_88 : decode cX8_bestCounter 88 = .ok (.imul, 1) := by decide +kernel
theorem dX8_bestCounter_89 : decode cX8_bestCounter 89 = .ok (.bipush 10, 2) := by decide +kernel
theorem dX8_bestCounter_91 : decode cX8_bestCounter 91 = .ok (.idiv, 1) := by decide +kernel
theorem dX8_bestCounter_92 : decode cX8_bestCounter 92 = .ok (.iadd, 1) := by decide +kernel
theorem dX8_bestCounter_93 : decode cX8_bestCounter 93 = .ok (.invokestatic 62, 3) := by decide +kernel
theorem dX8_bestCounter_96 : decode cX8_bestCounter 96 = .ok (.istore 8, 2) := by decide +kernel
theorem dX8_bestCounter_98 : decode cX8_bestCounter 98 = .ok (.iload 8, 2) := by decide +kernel
theorem dX8_bestCounter_100 : decode cX8_bestCounter 100 = .ok (.iload 4, 2) := by decide +kernel
theorem dX8_bestCounter_102 : decode cX8_bestCounter 102 = .ok (.if_icmp .ge 17, 3) := by decide +kernel
theorem dX8_bestCounter_105 : decode cX8_bestCounter 105 = .ok (.iload 8, 2) := by decide +kernel
theorem dX8_bestCounter_107 : decode cX8_bestCounter 107 = .ok (.istore 4, 2) := by decide +kernel
theorem dX8_bestCounter_109 : decode cX8_bestCounter 109 = .ok (.bipush 100, 2) := by decide +kernel
theorem dX8_bestCounter_111 : decode cX8_bestCounter 111 = .ok (.iload 6, 2) := by decide +kernel
theorem dX8_bestCounter_113 : decode cX8_bestCounter 113 = .ok (.imul, 1) := by decide +kernel
theorem dX8_bestCounter_114 : decode cX8_bestCounter 114 = .ok (.iload 7, 2) := by decide +kernel
theorem dX8_bestCounter_116 : decode cX8_bestCounter 116 = .ok (.iadd, 1) := by decide +kernel
theorem dX8_bestCounter_117 : decode cX8_bestCounter 117 = .ok (.istore 5, 2) := by decide +kernel
theorem dX8_bestCounter_119 : decode cX8_bestCounter 119 = .ok (.iinc 7 1, 3) := by decide +kernel
theorem dX8_bestCounter_122 : decode cX8_bestCounter 122 = .ok (.goto (-62), 3) := by decide +kernel
theorem dX8_bestCounter_125 : decode cX8_bestCounter 125 = .ok (.iinc 6 1, 3) := by decide +kernel
theorem dX8_bestCounter_128 : decode cX8_bestCounter 128 = .ok (.goto (-78), 3) := by decide +kernel
theorem dX8_bestCounter_131 : decode cX8_bestCounter 131 = .ok (.iload_n 1, 1) := by decide +kernel
theorem dX8_bestCounter_132 : decode cX8_bestCounter 132 = .ok (.ifCond .ne 8, 3) := by decide +kernel
theorem dX8_bestCounter_135 : decode cX8_bestCounter 135 = .ok (.iload 5, 2) := by decide +kernel
theorem dX8_bestCounter_137 : decode cX8_bestCounter 137 = .ok (.goto 5, 3) := by decide +kernel
theorem dX8_bestCounter_140 : decode cX8_bestCounter 140 = .ok (.iload 4, 2) := by decide +kernel
theorem dX8_bestCounter_142 : decode cX8_bestCounter 142 = .ok (.ireturn, 1) := by decide +kernel
theorem dX8_spreadBest_0 : decode cX8_spreadBest 0 = .ok (.aload_n 0, 1) := by decide +kernel
theorem dX8_spreadBest_1 : decode cX8_spreadBest 1 = .ok (.getfield 26, 3) := by decide +kernel
theorem dX8_spreadBest_4 : decode cX8_spreadBest 4 = .ok (.aload_n 0, 1) := by decide +kernel
theorem dX8_spreadBest_5 : decode cX8_spreadBest 5 = .ok (.getfield 9, 3) := by decide +kernel
theorem dX8_spreadBest_8 : decode cX8_spreadBest 8 = .ok (.invokevirtual 48, 3) := by decide +kernel
theorem dX8_spreadBest_11 : decode cX8_spreadBest 11 = .ok (.iload_n 2, 1) := by decide +kernel
theorem dX8_spreadBest_12 : decode cX8_spreadBest 12 = .ok (.istore 4, 2) := by decide +kernel
theorem dX8_spreadBest_14 : decode cX8_spreadBest 14 = .ok (.iconst 0, 1) := by decide +kernel
theorem dX8_spreadBest_15 : decode cX8_spreadBest 15 = .ok (.istore 5, 2) := by decide +kernel
theorem dX8_spreadBest_17 : decode cX8_spreadBest 17 = .ok (.iconst 0, 1) := by decide +kernel
theorem dX8_spreadBest_18 : decode cX8_spreadBest 18 = .ok (.istore 6, 2) := by decide +kernel
theorem dX8_spreadBest_20 : decode cX8_spreadBest 20 = .ok (.iconst 0, 1) := by decide +kernel
theorem dX8_spreadBest_21 : decode cX8_spreadBest 21 = .ok (.istore 7, 2) := by decide +kernel
theorem dX8_spreadBest_23 : decode cX8_spreadBest 23 = .ok (.iconst 0, 1) := by decide +kernel
theorem dX8_spreadBest_24 : decode cX8_spreadBest 24 = .ok (.istore 8, 2) := by decide +kernel
theorem dX8_spreadBest_26 : decode cX8_spreadBest 26 = .ok (.iload 8, 2) := by decide +kernel
theorem dX8_spreadBest_28 : decode cX8_spreadBest 28 = .ok (.iload_n 1, 1) := by decide +kernel
theorem dX8_spreadBest_29 : decode cX8_spreadBest 29 = .ok (.if_icmp .ge 56, 3) := by decide +kernel
theorem dX8_spreadBest_32 : decode cX8_spreadBest 32 = .ok (.aload_n 0, 1) := by decide +kernel
theorem dX8_spreadBest_33 : decode cX8_spreadBest 33 = .ok (.getfield 26, 3) := by decide +kernel
theorem dX8_spreadBest_36 : decode cX8_spreadBest 36 = .ok (.iload 4, 2) := by decide +kernel
theorem dX8_spreadBest_38 : decode cX8_spreadBest 38 = .ok (.invokevirtual 72, 3) := by decide +kernel
theorem dX8_spreadBest_41 : decode cX8_spreadBest 41 = .ok (.istore 4, 2) := by decide +kernel
theorem dX8_spreadBest_43 : decode cX8_spreadBest 43 = .ok (.aload_n 0, 1) := by decide +kernel
theorem dX8_spreadBest_44 : decode cX8_spreadBest 44 = .ok (.getfield 26, 3) := by decide +kernel
theorem dX8_spreadBest_47 : decode cX8_spreadBest 47 = .ok (.invokevirtual 38, 3) := by decide +kernel
theorem dX8_spreadBest_50 : decode cX8_spreadBest 50 = .ok (.istore 9, 2) := by decide +kernel
theorem dX8_spreadBest_52 : decode cX8_spreadBest 52 = .ok (.iload 7, 2) := by decide +kernel
theorem dX8_spreadBest_54 : decode cX8_spreadBest 54 = .ok (.iload 9, 2) := by decide +kernel
theorem dX8_spreadBest_56 : decode cX8_spreadBest 56 = .ok (.iadd, 1) := by decide +kernel
theorem dX8_spreadBest_57 : decode cX8_spreadBest 57 = .ok (.istore 7, 2) := by decide +kernel
theorem dX8_spreadBest_59 : decode cX8_spreadBest 59 = .ok (.iload 8, 2) := by decide +kernel
theorem dX8_spreadBest_61 : decode cX8_spreadBest 61 = .ok (.ifCond .eq 10, 3) := by decide +kernel
theorem dX8_spreadBest_64 : decode cX8_spreadBest 64 = .ok (.iload 9, 2) := by decide +kernel
theorem dX8_spreadBest_66 : decode cX8_spreadBest 66 = .ok (.iload 6, 2) := by decide +kernel
theorem dX8_spreadBest_68 : decode cX8_spreadBest 68 = .ok (.if_icmp .ge 11, 3) := by decide +kernel
theorem dX8_spreadBest_71 : decode cX8_spreadBest 71 = .ok (.iload 8, 2) := by decide +kernel
theorem dX8_spreadBest_73 : decode cX8_spreadBest 73 = .ok (.istore 5, 2) := by decide +kernel
theorem dX8_spreadBest_75 : decode cX8_spreadBest 75 = .ok (.iload 9, 2) := by decide +kernel
theorem dX8_spreadBest_77 : decode cX8_spreadBest 77 = .ok (.istore 6, 2) := by decide +kernel
theorem dX8_spreadBest_79 : decode cX8_spreadBest 79 = .ok (.iinc 8 1, 3) := by decide +kernel
theorem dX8_spreadBest_82 : decode cX8_spreadBest 82 = .ok (.goto (-56), 3) := by decide +kernel
theorem dX8_spreadBest_85 : decode cX8_spreadBest 85 = .ok (.iload_n 3, 1) := by decide +kernel
theorem dX8_spreadBest_86 : decode cX8_spreadBest 86 = .ok (.ifCond .ne 6, 3) := by decide +kernel
theorem dX8_spreadBest_89 : decode cX8_spreadBest 89 = .ok (.iload 5, 2) := by decide +kernel
theorem dX8_spreadBest_91 : decode cX8_spreadBest 91 = .ok (.ireturn, 1) := by decide +kernel
theorem dX8_spreadBest_92 : decode cX8_spreadBest 92 = .ok (.iload_n 3, 1) := by decide +kernel
theorem dX8_spreadBest_93 : decode cX8_spreadBest 93 = .ok (.iconst 1, 1) := by decide +kernel
theorem dX8_spreadBest_94 : decode cX8_spreadBest 94 = .ok (.if_icmp .ne 8, 3) := by decide +kernel
theorem dX8_spreadBest_97 : decode cX8_spreadBest 97 = .ok (.iload 6, 2) := by decide +kernel
theorem dX8_spreadBest_99 : decode cX8_spreadBest 99 = .ok (.goto 9, 3) := by decide +kernel
theorem dX8_spreadBest_102 : decode cX8_spreadBest 102 = .ok (.iload 7, 2) := by decide +kernel
theorem dX8_spreadBest_104 : decode cX8_spreadBest 104 = .ok (.iload_n 1, 1) := by decide +kernel
theorem dX8_spreadBest_105 : decode cX8_spreadBest 105 = .ok (.invokestatic 75, 3) := by decide +kernel
theorem dX8_spreadBest_108 : decode cX8_spreadBest 108 = .ok (.ireturn, 1) := by decide +kernel
theorem dX8_meanOf_0 : decode cX8_meanOf 0 = .ok (.iload_n 1, 1) := by decide +kernel
theorem dX8_meanOf_1 : decode cX8_meanOf 1 = .ok (.iconst 1, 1) := by decide +kernel
theorem dX8_meanOf_2 : decode cX8_meanOf 2 = .ok (.if_icmp .ge 7, 3) := by decide +kernel
theorem dX8_meanOf_5 : decode cX8_meanOf 5 = .ok (.iconst 0, 1) := by decide +kernel
theorem dX8_meanOf_6 : decode cX8_meanOf 6 = .ok (.goto 6, 3) := by decide +kernel
theorem dX8_meanOf_9 : decode cX8_meanOf 9 = .ok (.iload_n 0, 1) := by decide +kernel
theorem dX8_meanOf_10 : decode cX8_meanOf 10 = .ok (.iload_n 1, 1) := by decide +kernel
theorem dX8_meanOf_11 : decode cX8_meanOf 11 = .ok (.idiv, 1) := by decide +kernel
theorem dX8_meanOf_12 : decode cX8_meanOf 12 = .ok (.ireturn, 1) := by decide +kernel
theorem dX8_walkOften_0 : decode cX8_walkOften 0 = .ok (.aload_n 0, 1) := by decide +kernel
theorem dX8_walkOften_1 : decode cX8_walkOften 1 = .ok (.iload 4, 2) := by decide +kernel
theorem dX8_walkOften_3 : decode cX8_walkOften 3 = .ok (.putfield 78, 3) := by decide +kernel
theorem dX8_walkOften_6 : decode cX8_walkOften 6 = .ok (.aload_n 0, 1) := by decide +kernel
theorem dX8_walkOften_7 : decode cX8_walkOften 7 = .ok (.iconst 0, 1) := by decide +kernel
theorem dX8_walkOften_8 : decode cX8_walkOften 8 = .ok (.putfield 82, 3) := by decide +kernel
theorem dX8_walkOften_11 : decode cX8_walkOften 11 = .ok (.aload_n 0, 1) := by decide +kernel
theorem dX8_walkOften_12 : decode cX8_walkOften 12 = .ok (.iconst 0, 1) := by decide +kernel
theorem dX8_walkOften_13 : decode cX8_walkOften 13 = .ok (.putfield 85, 3) := by decide +kernel
theorem dX8_walkOften_16 : decode cX8_walkOften 16 = .ok (.aload_n 0, 1) := by decide +kernel
theorem dX8_walkOften_17 : decode cX8_walkOften 17 = .ok (.iconst 0, 1) := by decide +kernel
theorem dX8_walkOften_18 : decode cX8_walkOften 18 = .ok (.putfield 88, 3) := by decide +kernel
theorem dX8_walkOften_21 : decode cX8_walkOften 21 = .ok (.aload_n 0, 1) := by decide +kernel
theorem dX8_walkOften_22 : decode cX8_walkOften 22 = .ok (.iconst 0, 1) := by decide +kernel
theorem dX8_walkOften_23 : decode cX8_walkOften 23 = .ok (.putfield 91, 3) := by decide +kernel
theorem dX8_walkOften_26 : decode cX8_walkOften 26 = .ok (.iconst 0, 1) := by decide +kernel
theorem dX8_walkOften_27 : decode cX8_walkOften 27 = .ok (.istore 6, 2) := by decide +kernel
theorem dX8_walkOften_29 : decode cX8_walkOften 29 = .ok (.iload 6, 2) := by decide +kernel
theorem dX8_walkOften_31 : decode cX8_walkOften 31 = .ok (.iload 4, 2) := by decide +kernel
theorem dX8_walkOften_33 : decode cX8_walkOften 33 = .ok (.if_icmp .ge 104, 3) := by decide +kernel
theorem dX8_walkOften_36 : decode cX8_walkOften 36 = .ok (.aload_n 0, 1) := by decide +kernel
theorem dX8_walkOften_37 : decode cX8_walkOften 37 = .ok (.getfield 34, 3) := by decide +kernel
theorem dX8_walkOften_40 : decode cX8_walkOften 40 = .ok (.aload_n 0, 1) := by decide +kernel
theorem dX8_walkOften_41 : decode cX8_walkOften 41 = .ok (.getfield 9, 3) := by decide +kernel
theorem dX8_walkOften_44 : decode cX8_walkOften 44 = .ok (.iload_n 1, 1) := by decide +kernel
theorem dX8_walkOften_45 : decode cX8_walkOften 45 = .ok (.iload_n 2, 1) := by decide +kernel
theorem dX8_walkOften_46 : decode cX8_walkOften 46 = .ok (.iload_n 3, 1) := by decide +kernel
theorem dX8_walkOften_47 : decode cX8_walkOften 47 = .ok (.bipush 60, 2) := by decide +kernel
theorem dX8_walkOften_49 : decode cX8_walkOften 49 = .ok (.iload 5, 2) := by decide +kernel
theorem dX8_walkOften_51 : decode cX8_walkOften 51 = .ok (.iload 6, 2) := by decide +kernel
theorem dX8_walkOften_53 : decode cX8_walkOften 53 = .ok (.iadd, 1) := by decide +kernel
theorem dX8_walkOften_54 : decode cX8_walkOften 54 = .ok (.invokevirtual 94, 3) := by decide +kernel
theorem dX8_walkOften_57 : decode cX8_walkOften 57 = .ok (.aload_n 0, 1) := by decide +kernel
theorem dX8_walkOften_58 : decode cX8_walkOften 58 = .ok (.getfield 34, 3) := by decide +kernel
theorem dX8_walkOften_61 : decode cX8_walkOften 61 = .ok (.getfield 98, 3) := by decide +kernel
theorem dX8_walkOften_64 : decode cX8_walkOften 64 = .ok (.bipush (-2), 2) := by decide +kernel
theorem dX8_walkOften_66 : decode cX8_walkOften 66 = .ok (.if_icmp .eq 13, 3) := by decide +kernel
theorem dX8_walkOften_69 : decode cX8_walkOften 69 = .ok (.aload_n 0, 1) := by decide +kernel
theorem dX8_walkOften_70 : decode cX8_walkOften 70 = .ok (.dup, 1) := by decide +kernel
theorem dX8_walkOften_71 : decode cX8_walkOften 71 = .ok (.getfield 82, 3) := by decide +kernel
theorem dX8_walkOften_74 : decode cX8_walkOften 74 = .ok (.iconst 1, 1) := by decide +kernel
theorem dX8_walkOften_75 : decode cX8_walkOften 75 = .ok (.iadd, 1) := by decide +kernel
theorem dX8_walkOften_76 : decode cX8_walkOften 76 = .ok (.putfield 82, 3) := by decide +kernel
theorem dX8_walkOften_79 : decode cX8_walkOften 79 = .ok (.aload_n 0, 1) := by decide +kernel
theorem dX8_walkOften_80 : decode cX8_walkOften 80 = .ok (.getfield 34, 3) := by decide +kernel
theorem dX8_walkOften_83 : decode cX8_walkOften 83 = .ok (.getfield 99, 3) := by decide +kernel
theorem dX8_walkOften_86 : decode cX8_walkOften 86 = .ok (.ifCond .eq 13, 3) := by decide +kernel
theorem dX8_walkOften_89 : decode cX8_walkOften 89 = .ok (.aload_n 0, 1) := by decide +kernel
theorem dX8_walkOften_90 : decode cX8_walkOften 90 = .ok (.dup, 1) := by decide +kernel
theorem dX8_walkOften_91 : decode cX8_walkOften 91 = .ok (.getfield 91, 3) := by decide +kernel
theorem dX8_walkOften_94 : decode cX8_walkOften 94 = .ok (.iconst 1, 1) := by decide +kernel
theorem dX8_walkOften_95 : decode cX8_walkOften 95 = .ok (.iadd, 1) := by decide +kernel
theorem dX8_walkOften_96 : decode cX8_walkOften 96 = .ok (.putfield 91, 3) := by decide +kernel
theorem dX8_walkOften_99 : decode cX8_walkOften 99 = .ok (.aload_n 0, 1) := by decide +kernel
theorem dX8_walkOften_100 : decode cX8_walkOften 100 = .ok (.dup, 1) := by decide +kernel
theorem dX8_walkOften_101 : decode cX8_walkOften 101 = .ok (.getfield 85, 3) := by decide +kernel
theorem dX8_walkOften_104 : decode cX8_walkOften 104 = .ok (.aload_n 0, 1) := by decide +kernel
theorem dX8_walkOften_105 : decode cX8_walkOften 105 = .ok (.getfield 34, 3) := by decide +kernel
theorem dX8_walkOften_108 : decode cX8_walkOften 108 = .ok (.invokevirtual 102, 3) := by decide +kernel
theorem dX8_walkOften_111 : decode cX8_walkOften 111 = .ok (.iadd, 1) := by decide +kernel
theorem dX8_walkOften_112 : decode cX8_walkOften 112 = .ok (.putfield 85, 3) := by decide +kernel
theorem dX8_walkOften_115 : decode cX8_walkOften 115 = .ok (.aload_n 0, 1) := by decide +kernel
theorem dX8_walkOften_116 : decode cX8_walkOften 116 = .ok (.dup, 1) := by decide +kernel
theorem dX8_walkOften_117 : decode cX8_walkOften 117 = .ok (.getfield 88, 3) := by decide +kernel
theorem dX8_walkOften_120 : decode cX8_walkOften 120 = .ok (.aload_n 0, 1) := by decide +kernel
theorem dX8_walkOften_121 : decode cX8_walkOften 121 = .ok (.getfield 34, 3) := by decide +kernel
theorem dX8_walkOften_124 : decode cX8_walkOften 124 = .ok (.invokevirtual 104, 3) := by decide +kernel
theorem dX8_walkOften_127 : decode cX8_walkOften 127 = .ok (.iadd, 1) := by decide +kernel
theorem dX8_walkOften_128 : decode cX8_walkOften 128 = .ok (.putfield 88, 3) := by decide +kernel
theorem dX8_walkOften_131 : decode cX8_walkOften 131 = .ok (.iinc 6 1, 3) := by decide +kernel
theorem dX8_walkOften_134 : decode cX8_walkOften 134 = .ok (.goto (-105), 3) := by decide +kernel
theorem dX8_walkOften_137 : decode cX8_walkOften 137 = .ok (.return_, 1) := by decide +kernel
theorem dX8_tallied_0 : decode cX8_tallied 0 = .ok (.iload_n 1, 1) := by decide +kernel
theorem dX8_tallied_1 : decode cX8_tallied 1 = .ok (.tableswitch 56 0 2 #[27, 32, 44], 27) := by decide +kernel
theorem dX8_tallied_28 : decode cX8_tallied 28 = .ok (.aload_n 0, 1) := by decide +kernel
theorem dX8_tallied_29 : decode cX8_tallied 29 = .ok (.getfield 82, 3) := by decide +kernel
theorem dX8_tallied_32 : decode cX8_tallied 32 = .ok (.ireturn, 1) := by decide +kernel
theorem dX8_tallied_33 : decode cX8_tallied 33 = .ok (.aload_n 0, 1) := by decide +kernel
theorem dX8_tallied_34 : decode cX8_tallied 34 = .ok (.getfield 85, 3) := by decide +kernel
theorem dX8_tallied_37 : decode cX8_tallied 37 = .ok (.aload_n 0, 1) := by decide +kernel
theorem dX8_tallied_38 : decode cX8_tallied 38 = .ok (.getfield 78, 3) := by decide +kernel
theorem dX8_tallied_41 : decode cX8_tallied 41 = .ok (.invokestatic 75, 3) := by decide +kernel
theorem dX8_tallied_44 : decode cX8_tallied 44 = .ok (.ireturn, 1) := by decide +kernel
theorem dX8_tallied_45 : decode cX8_tallied 45 = .ok (.aload_n 0, 1) := by decide +kernel
theorem dX8_tallied_46 : decode cX8_tallied 46 = .ok (.getfield 88, 3) := by decide +kernel
theorem dX8_tallied_49 : decode cX8_tallied 49 = .ok (.aload_n 0, 1) := by decide +kernel
theorem dX8_tallied_50 : decode cX8_tallied 50 = .ok (.getfield 78, 3) := by decide +kernel
theorem dX8_tallied_53 : decode cX8_tallied 53 = .ok (.invokestatic 75, 3) := by decide +kernel
theorem dX8_tallied_56 : decode cX8_tallied 56 = .ok (.ireturn, 1) := by decide +kernel
theorem dX8_tallied_57 : decode cX8_tallied 57 = .ok (.aload_n 0, 1) := by decide +kernel
theorem dX8_tallied_58 : decode cX8_tallied 58 = .ok (.getfield 91, 3) := by decide +kernel
theorem dX8_tallied_61 : decode cX8_tallied 61 = .ok (.ireturn, 1) := by decide +kernel
theorem dX8_bestRule_0 : decode cX8_bestRule 0 = .ok (.iconst 0, 1) := by decide +kernel
theorem dX8_bestRule_1 : decode cX8_bestRule 1 = .ok (.istore 4, 2) := by decide +kernel
theorem dX8_bestRule_3 : decode cX8_bestRule 3 = .ok (.iconst 0, 1) := by decide +kernel
theorem dX8_bestRule_4 : decode cX8_bestRule 4 = .ok (.istore 5, 2) := by decide +kernel
theorem dX8_bestRule_6 : decode cX8_bestRule 6 = .ok (.iconst 0, 1) := by decide +kernel
theorem dX8_bestRule_7 : decode cX8_bestRule 7 = .ok (.istore 6, 2) := by decide +kernel
theorem dX8_bestRule_9 : decode cX8_bestRule 9 = .ok (.iconst 0, 1) := by decide +kernel
theorem dX8_bestRule_10 : decode cX8_bestRule 10 = .ok (.istore 7, 2) := by decide +kernel
theorem dX8_bestRule_12 : decode cX8_bestRule 12 = .ok (.iconst 0, 1) := by decide +kernel
theorem dX8_bestRule_13 : decode cX8_bestRule 13 = .ok (.istore 8, 2) := by decide +kernel
theorem dX8_bestRule_15 : decode cX8_bestRule 15 = .ok (.iload 8, 2) := by decide +kernel
theorem dX8_bestRule_17 : decode cX8_bestRule 17 = .ok (.aload_n 0, 1) := by decide +kernel
theorem dX8_bestRule_18 : decode cX8_bestRule 18 = .ok (.getfield 19, 3) := by decide +kernel
theorem dX8_bestRule_21 : decode cX8_bestRule 21 = .ok (.getfield 106, 3) := by decide +kernel
theorem dX8_bestRule_24 : decode cX8_bestRule 24 = .ok (.if_icmp .ge 62, 3) := by decide +kernel
theorem dX8_bestRule_27 : decode cX8_bestRule 27 = .ok (.aload_n 0, 1) := by decide +kernel
theorem dX8_bestRule_28 : decode cX8_bestRule 28 = .ok (.iload 8, 2) := by decide +kernel
theorem dX8_bestRule_30 : decode cX8_bestRule 30 = .ok (.iload_n 1, 1) := by decide +kernel
theorem dX8_bestRule_31 : decode cX8_bestRule 31 = .ok (.iload_n 2, 1) := by decide +kernel
theorem dX8_bestRule_32 : decode cX8_bestRule 32 = .ok (.bipush 9, 2) := by decide +kernel
theorem dX8_bestRule_34 : decode cX8_bestRule 34 = .ok (.iload_n 3, 1) := by decide +kernel
theorem dX8_bestRule_35 : decode cX8_bestRule 35 = .ok (.invokevirtual 111, 3) := by decide +kernel
theorem dX8_bestRule_38 : decode cX8_bestRule 38 = .ok (.iload 8, 2) := by decide +kernel
theorem dX8_bestRule_40 : decode cX8_bestRule 40 = .ok (.ifCond .eq 16, 3) := by decide +kernel
theorem dX8_bestRule_43 : decode cX8_bestRule 43 = .ok (.aload_n 0, 1) := by decide +kernel
theorem dX8_bestRule_44 : decode cX8_bestRule 44 = .ok (.iload 5, 2) := by decide +kernel
theorem dX8_bestRule_46 : decode cX8_bestRule 46 = .ok (.iload 6, 2) := by decide +kernel
theorem dX8_bestRule_48 : decode cX8_bestRule 48 = .ok (.iload 7, 2) := by decide +kernel
theorem dX8_bestRule_50 : decode cX8_bestRule 50 = .ok (.invokevirtual 115, 3) := by decide +kernel
theorem dX8_bestRule_53 : decode cX8_bestRule 53 = .ok (.ifCond .eq 27, 3) := by decide +kernel
theorem dX8_bestRule_56 : decode cX8_bestRule 56 = .ok (.iload 8, 2) := by decide +kernel
theorem dX8_bestRule_58 : decode cX8_bestRule 58 = .ok (.istore 4, 2) := by decide +kernel
theorem dX8_bestRule_60 : decode cX8_bestRule 60 = .ok (.aload_n 0, 1) := by decide +kernel
theorem dX8_bestRule_61 : decode cX8_bestRule 61 = .ok (.getfield 82, 3) := by decide +kernel
theorem dX8_bestRule_64 : decode cX8_bestRule 64 = .ok (.istore 5, 2) := by decide +kernel
theorem dX8_bestRule_66 : decode cX8_bestRule 66 = .ok (.aload_n 0, 1) := by decide +kernel
theorem dX8_bestRule_67 : decode cX8_bestRule 67 = .ok (.iconst 2, 1) := by decide +kernel
theorem dX8_bestRule_68 : decode cX8_bestRule 68 = .ok (.invokevirtual 119, 3) := by decide +kernel
theorem dX8_bestRule_71 : decode cX8_bestRule 71 = .ok (.istore 6, 2) := by decide +kernel
theorem dX8_bestRule_73 : decode cX8_bestRule 73 = .ok (.aload_n 0, 1) := by decide +kernel
theorem dX8_bestRule_74 : decode cX8_bestRule 74 = .ok (.iconst 1, 1) := by decide +kernel
theorem dX8_bestRule_75 : decode cX8_bestRule 75 = .ok (.invokevirtual 119, 3) := by decide +kernel
theorem dX8_bestRule_78 : decode cX8_bestRule 78 = .ok (.istore 7, 2) := by decide +kernel
theorem dX8_bestRule_80 : decode cX8_bestRule 80 = .ok (.iinc 8 1, 3) := by decide +kernel
theorem dX8_bestRule_83 : decode cX8_bestRule 83 = .ok (.goto (-68), 3) := by decide +kernel
theorem dX8_bestRule_86 : decode cX8_bestRule 86 = .ok (.iload 4, 2) := by decide +kernel
theorem dX8_bestRule_88 : decode cX8_bestRule 88 = .ok (.ireturn, 1) := by decide +kernel
theorem dX8_isBetter_0 : decode cX8_isBetter 0 = .ok (.aload_n 0, 1) := by decide +kernel
theorem dX8_isBetter_1 : decode cX8_isBetter 1 = .ok (.getfield 82, 3) := by decide +kernel
theorem dX8_isBetter_4 : decode cX8_isBetter 4 = .ok (.iload_n 1, 1) := by decide +kernel
theorem dX8_isBetter_5 : decode cX8_isBetter 5 = .ok (.if_icmp .eq 17, 3) := by decide +kernel
theorem dX8_isBetter_8 : decode cX8_isBetter 8 = .ok (.aload_n 0, 1) := by decide +kernel
theorem dX8_isBetter_9 : decode cX8_isBetter 9 = .ok (.getfield 82, 3) := by decide +kernel
theorem dX8_isBetter_12 : decode cX8_isBetter 12 = .ok (.iload_n 1, 1) := by decide +kernel
theorem dX8_isBetter_13 : decode cX8_isBetter 13 = .ok (.if_icmp .le 7, 3) := by decide +kernel
theorem dX8_isBetter_16 : decode cX8_isBetter 16 = .ok (.iconst 1, 1) := by decide +kernel
theorem dX8_isBetter_17 : decode cX8_isBetter 17 = .ok (.goto 4, 3) := by decide +kernel
theorem dX8_isBetter_20 : decode cX8_isBetter 20 = .ok (.iconst 0, 1) := by decide +kernel
theorem dX8_isBetter_21 : decode cX8_isBetter 21 = .ok (.ireturn, 1) := by decide +kernel
theorem dX8_isBetter_22 : decode cX8_isBetter 22 = .ok (.aload_n 0, 1) := by decide +kernel
theorem dX8_isBetter_23 : decode cX8_isBetter 23 = .ok (.iconst 2, 1) := by decide +kernel
theorem dX8_isBetter_24 : decode cX8_isBetter 24 = .ok (.invokevirtual 119, 3) := by decide +kernel
theorem dX8_isBetter_27 : decode cX8_isBetter 27 = .ok (.iload_n 2, 1) := by decide +kernel
theorem dX8_isBetter_28 : decode cX8_isBetter 28 = .ok (.if_icmp .eq 18, 3) := by decide +kernel
theorem dX8_isBetter_31 : decode cX8_isBetter 31 = .ok (.aload_n 0, 1) := by decide +kernel
theorem dX8_isBetter_32 : decode cX8_isBetter 32 = .ok (.iconst 2, 1) := by decide +kernel
theorem dX8_isBetter_33 : decode cX8_isBetter 33 = .ok (.invokevirtual 119, 3) := by decide +kernel
theorem dX8_isBetter_36 : decode cX8_isBetter 36 = .ok (.iload_n 2, 1) := by decide +kernel
theorem dX8_isBetter_37 : decode cX8_isBetter 37 = .ok (.if_icmp .ge 7, 3) := by decide +kernel
theorem dX8_isBetter_40 : decode cX8_isBetter 40 = .ok (.iconst 1, 1) := by decide +kernel
theorem dX8_isBetter_41 : decode cX8_isBetter 41 = .ok (.goto 4, 3) := by decide +kernel
theorem dX8_isBetter_44 : decode cX8_isBetter 44 = .ok (.iconst 0, 1) := by decide +kernel
theorem dX8_isBetter_45 : decode cX8_isBetter 45 = .ok (.ireturn, 1) := by decide +kernel
theorem dX8_isBetter_46 : decode cX8_isBetter 46 = .ok (.aload_n 0, 1) := by decide +kernel
theorem dX8_isBetter_47 : decode cX8_isBetter 47 = .ok (.iconst 1, 1) := by decide +kernel
theorem dX8_isBetter_48 : decode cX8_isBetter 48 = .ok (.invokevirtual 119, 3) := by decide +kernel
theorem dX8_isBetter_51 : decode cX8_isBetter 51 = .ok (.iload_n 3, 1) := by decide +kernel
theorem dX8_isBetter_52 : decode cX8_isBetter 52 = .ok (.if_icmp .ge 7, 3) := by decide +kernel
theorem dX8_isBetter_55 : decode cX8_isBetter 55 = .ok (.iconst 1, 1) := by decide +kernel
theorem dX8_isBetter_56 : decode cX8_isBetter 56 = .ok (.goto 4, 3) := by decide +kernel
theorem dX8_isBetter_59 : decode cX8_isBetter 59 = .ok (.iconst 0, 1) := by decide +kernel
theorem dX8_isBetter_60 : decode cX8_isBetter 60 = .ok (.ireturn, 1) := by decide +kernel
theorem dX8_isCalm_0 : decode cX8_isCalm 0 = .ok (.iconst 0, 1) := by decide +kernel
theorem dX8_isCalm_1 : decode cX8_isCalm 1 = .ok (.istore 4, 2) := by decide +kernel
theorem dX8_isCalm_3 : decode cX8_isCalm 3 = .ok (.iload 4, 2) := by decide +kernel
theorem dX8_isCalm_5 : decode cX8_isCalm 5 = .ok (.sipush 1100, 3) := by decide +kernel
theorem dX8_isCalm_8 : decode cX8_isCalm 8 = .ok (.if_icmp .gt 56, 3) := by decide +kernel
theorem dX8_isCalm_11 : decode cX8_isCalm 11 = .ok (.iconst 0, 1) := by decide +kernel
theorem dX8_isCalm_12 : decode cX8_isCalm 12 = .ok (.istore 5, 2) := by decide +kernel
theorem dX8_isCalm_14 : decode cX8_isCalm 14 = .ok (.iload 5, 2) := by decide +kernel
theorem dX8_isCalm_16 : decode cX8_isCalm 16 = .ok (.sipush 950, 3) := by decide +kernel
theorem dX8_isCalm_19 : decode cX8_isCalm 19 = .ok (.if_icmp .gt 39, 3) := by decide +kernel
theorem dX8_isCalm_22 : decode cX8_isCalm 22 = .ok (.iload 5, 2) := by decide +kernel
theorem dX8_isCalm_24 : decode cX8_isCalm 24 = .ok (.iload_n 3, 1) := by decide +kernel
theorem dX8_isCalm_25 : decode cX8_isCalm 25 = .ok (.if_icmp .lt 27, 3) := by decide +kernel
theorem dX8_isCalm_28 : decode cX8_isCalm 28 = .ok (.aload_n 0, 1) := by decide +kernel
theorem dX8_isCalm_29 : decode cX8_isCalm 29 = .ok (.getfield 19, 3) := by decide +kernel
theorem dX8_isCalm_32 : decode cX8_isCalm 32 = .ok (.iload_n 1, 1) := by decide +kernel
theorem dX8_isCalm_33 : decode cX8_isCalm 33 = .ok (.iload 4, 2) := by decide +kernel
theorem dX8_isCalm_35 : decode cX8_isCalm 35 = .ok (.iconst 0, 1) := by decide +kernel
theorem dX8_isCalm_36 : decode cX8_isCalm 36 = .ok (.iload 5, 2) := by decide +kernel
theorem dX8_isCalm_38 : decode cX8_isCalm 38 = .ok (.iload_n 2, 1) := by decide +kernel
theorem dX8_isCalm_39 : decode cX8_isCalm 39 = .ok (.iconst 0, 1) := by decide +kernel
theorem dX8_isCalm_40 : decode cX8_isCalm 40 = .ok (.iconst 0, 1) := by decide +kernel
theorem dX8_isCalm_41 : decode cX8_isCalm 41 = .ok (.invokevirtual 122, 3) := by decide +kernel
theorem dX8_isCalm_44 : decode cX8_isCalm 44 = .ok (.sipush 300, 3) := by decide +kernel
theorem dX8_isCalm_47 : decode cX8_isCalm 47 = .ok (.if_icmp .le 5, 3) := by decide +kernel
theorem dX8_isCalm_50 : decode cX8_isCalm 50 = .ok (.iconst 0, 1) := by decide +kernel
theorem dX8_isCalm_51 : decode cX8_isCalm 51 = .ok (.ireturn, 1) := by decide +kernel
theorem dX8_isCalm_52 : decode cX8_isCalm 52 = .ok (.iinc 5 50, 3) := by decide +kernel
theorem dX8_isCalm_55 : decode cX8_isCalm 55 = .ok (.goto (-41), 3) := by decide +kernel
theorem dX8_isCalm_58 : decode cX8_isCalm 58 = .ok (.iinc 4 100, 3) := by decide +kernel
theorem dX8_isCalm_61 : decode cX8_isCalm 61 = .ok (.goto (-58), 3) := by decide +kernel
theorem dX8_isCalm_64 : decode cX8_isCalm 64 = .ok (.iconst 1, 1) := by decide +kernel
theorem dX8_isCalm_65 : decode cX8_isCalm 65 = .ok (.ireturn, 1) := by decide +kernel
theorem dX8_ticksTillDry_0 : decode cX8_ticksTillDry 0 = .ok (.aload_n 0, 1) := by decide +kernel
theorem dX8_ticksTillDry_1 : decode cX8_ticksTillDry 1 = .ok (.getfield 26, 3) := by decide +kernel
theorem dX8_ticksTillDry_4 : decode cX8_ticksTillDry 4 = .ok (.aload_n 0, 1) := by decide +kernel
theorem dX8_ticksTillDry_5 : decode cX8_ticksTillDry 5 = .ok (.getfield 9, 3) := by decide +kernel
theorem dX8_ticksTillDry_8 : decode cX8_ticksTillDry 8 = .ok (.invokevirtual 48, 3) := by decide +kernel
theorem dX8_ticksTillDry_11 : decode cX8_ticksTillDry 11 = .ok (.iconst 0, 1) := by decide +kernel
theorem dX8_ticksTillDry_12 : decode cX8_ticksTillDry 12 = .ok (.istore_n 3, 1) := by decide +kernel
theorem dX8_ticksTillDry_13 : decode cX8_ticksTillDry 13 = .ok (.iload_n 3, 1) := by decide +kernel
theorem dX8_ticksTillDry_14 : decode cX8_ticksTillDry 14 = .ok (.sipush 200, 3) := by decide +kernel
theorem dX8_ticksTillDry_17 : decode cX8_ticksTillDry 17 = .ok (.if_icmp .gt 44, 3) := by decide +kernel
theorem dX8_ticksTillDry_20 : decode cX8_ticksTillDry 20 = .ok (.aload_n 0, 1) := by decide +kernel
theorem dX8_ticksTillDry_21 : decode cX8_ticksTillDry 21 = .ok (.getfield 26, 3) := by decide +kernel
theorem dX8_ticksTillDry_24 : decode cX8_ticksTillDry 24 = .ok (.invokevirtual 126, 3) := by decide +kernel
theorem dX8_ticksTillDry_27 : decode cX8_ticksTillDry 27 = .ok (.iload_n 2, 1) := by decide +kernel
theorem dX8_ticksTillDry_28 : decode cX8_ticksTillDry 28 = .ok (.if_icmp .gt 5, 3) := by decide +kernel
theorem dX8_ticksTillDry_31 : decode cX8_ticksTillDry 31 = .ok (.iload_n 3, 1) := by decide +kernel
theorem dX8_ticksTillDry_32 : decode cX8_ticksTillDry 32 = .ok (.ireturn, 1) := by decide +kernel
theorem dX8_ticksTillDry_33 : decode cX8_ticksTillDry 33 = .ok (.aload_n 0, 1) := by decide +kernel
theorem dX8_ticksTillDry_34 : decode cX8_ticksTillDry 34 = .ok (.getfield 19, 3) := by decide +kernel
theorem dX8_ticksTillDry_37 : decode cX8_ticksTillDry 37 = .ok (.aload_n 0, 1) := by decide +kernel
theorem dX8_ticksTillDry_38 : decode cX8_ticksTillDry 38 = .ok (.getfield 26, 3) := by decide +kernel
theorem dX8_ticksTillDry_41 : decode cX8_ticksTillDry 41 = .ok (.aload_n 0, 1) := by decide +kernel
theorem dX8_ticksTillDry_42 : decode cX8_ticksTillDry 42 = .ok (.getfield 26, 3) := by decide +kernel
theorem dX8_ticksTillDry_45 : decode cX8_ticksTillDry 45 = .ok (.invokevirtual 38, 3) := by decide +kernel
theorem dX8_ticksTillDry_48 : decode cX8_ticksTillDry 48 = .ok (.iload_n 1, 1) := by decide +kernel
theorem dX8_ticksTillDry_49 : decode cX8_ticksTillDry 49 = .ok (.iload_n 3, 1) := by decide +kernel
theorem dX8_ticksTillDry_50 : decode cX8_ticksTillDry 50 = .ok (.iload_n 3, 1) := by decide +kernel
theorem dX8_ticksTillDry_51 : decode cX8_ticksTillDry 51 = .ok (.iconst 0, 1) := by decide +kernel
theorem dX8_ticksTillDry_52 : decode cX8_ticksTillDry 52 = .ok (.invokevirtual 129, 3) := by decide +kernel
theorem dX8_ticksTillDry_55 : decode cX8_ticksTillDry 55 = .ok (.iinc 3 1, 3) := by decide +kernel
theorem dX8_ticksTillDry_58 : decode cX8_ticksTillDry 58 = .ok (.goto (-45), 3) := by decide +kernel
theorem dX8_ticksTillDry_61 : decode cX8_ticksTillDry 61 = .ok (.bipush (-2), 2) := by decide +kernel
theorem dX8_ticksTillDry_63 : decode cX8_ticksTillDry 63 = .ok (.ireturn, 1) := by decide +kernel
theorem dX9_through_0 : decode cX9_through 0 = .ok (.aload_n 0, 1) := by decide +kernel
theorem dX9_through_1 : decode cX9_through 1 = .ok (.aload_n 1, 1) := by decide +kernel
theorem dX9_through_2 : decode cX9_through 2 = .ok (.iload 6, 2) := by decide +kernel
theorem dX9_through_4 : decode cX9_through 4 = .ok (.invokevirtual 31, 3) := by decide +kernel
theorem dX9_through_7 : decode cX9_through 7 = .ok (.aload_n 0, 1) := by decide +kernel
theorem dX9_through_8 : decode cX9_through 8 = .ok (.getfield 35, 3) := by decide +kernel
theorem dX9_through_11 : decode cX9_through 11 = .ok (.istore 7, 2) := by decide +kernel
theorem dX9_through_13 : decode cX9_through 13 = .ok (.iconst 0, 1) := by decide +kernel
theorem dX9_through_14 : decode cX9_through 14 = .ok (.istore 8, 2) := by decide +kernel
theorem dX9_through_16 : decode cX9_through 16 = .ok (.iconst 0, 1) := by decide +kernel
theorem dX9_through_17 : decode cX9_through 17 = .ok (.istore 9, 2) := by decide +kernel
theorem dX9_through_19 : decode cX9_through 19 = .ok (.iload 9, 2) := by decide +kernel
theorem dX9_through_21 : decode cX9_through 21 = .ok (.iload 5, 2) := by decide +kernel
theorem dX9_through_23 : decode cX9_through 23 = .ok (.if_icmp .ge 208, 3) := by decide +kernel
theorem dX9_through_26 : decode cX9_through 26 = .ok (.iload 9, 2) := by decide +kernel
theorem dX9_through_28 : decode cX9_through 28 = .ok (.sipush 200, 3) := by decide +kernel
theorem dX9_through_31 : decode cX9_through 31 = .ok (.if_icmp .ge 200, 3) := by decide +kernel
theorem dX9_through_34 : decode cX9_through 34 = .ok (.aload_n 0, 1) := by decide +kernel
theorem dX9_through_35 : decode cX9_through 35 = .ok (.aload_n 0, 1) := by decide +kernel
theorem dX9_through_36 : decode cX9_through 36 = .ok (.getfield 39, 3) := by decide +kernel
theorem dX9_through_39 : decode cX9_through 39 = .ok (.invokestatic 42, 3) := by decide +kernel
theorem dX9_through_42 : decode cX9_through 42 = .ok (.putfield 39, 3) := by decide +kernel
theorem dX9_through_45 : decode cX9_through 45 = .ok (.aload_n 0, 1) := by decide +kernel
theorem dX9_through_46 : decode cX9_through 46 = .ok (.aload_n 0, 1) := by decide +kernel
theorem dX9_through_47 : decode cX9_through 47 = .ok (.getfield 15, 3) := by decide +kernel
theorem dX9_through_50 : decode cX9_through 50 = .ok (.iload_n 2, 1) := by decide +kernel
theorem dX9_through_51 : decode cX9_through 51 = .ok (.aload_n 0, 1) := by decide +kernel
theorem dX9_through_52 : decode cX9_through 52 = .ok (.getfield 46, 3) := by decide +kernel
theorem dX9_through_55 : decode cX9_through 55 = .ok (.iload 9, 2) := by decide +kernel
theorem dX9_through_57 : decode cX9_through 57 = .ok (.aload_n 0, 1) := by decide +kernel
theorem dX9_through_58 : decode cX9_through 58 = .ok (.iload 9, 2) := by decide +kernel
theorem dX9_through_60 : decode cX9_through 60 = .ok (.invokevirtual 49, 3) := by decide +kernel
theorem dX9_through_63 : decode cX9_through 63 = .ok (.iload 4, 2) := by decide +kernel
theorem dX9_through_65 : decode cX9_through 65 = .ok (.aload_n 0, 1) := by decide +kernel
theorem dX9_through_66 : decode cX9_through 66 = .ok (.getfield 52, 3) := by decide +kernel
theorem dX9_through_69 : decode cX9_through 69 = .ok (.aload_n 0, 1) := by decide +kernel
theorem dX9_through_70 : decode cX9_through 70 = .ok (.getfield 55, 3) := by decide +kernel
theorem dX9_through_73 : decode cX9_through 73 = .ok (.invokevirtual 58, 3) := by decide +kernel
theorem dX9_through_76 : decode cX9_through 76 = .ok (.putfield 46, 3) := by decide +kernel
theorem dX9_through_79 : decode cX9_through 79 = .ok (.aload_n 0, 1) := by decide +kernel
theorem dX9_through_80 : decode cX9_through 80 = .ok (.getfield 46, 3) := by decide +kernel
theorem dX9_through_83 : decode cX9_through 83 = .ok (.bipush 60, 2) := by decide +kernel
theorem dX9_through_85 : decode cX9_through 85 = .ok (.if_icmp .ge 7, 3) := by decide +kernel
theorem dX9_through_88 : decode cX9_through 88 = .ok (.iconst 1, 1) := by decide +kernel
theorem dX9_through_89 : decode cX9_through 89 = .ok (.goto 4, 3) := by decide +kernel
theorem dX9_through_92 : decode cX9_through 92 = .ok (.iconst 0, 1) := by decide +kernel
theorem dX9_through_93 : decode cX9_through 93 = .ok (.istore 10, 2) := by decide +kernel
theorem dX9_through_95 : decode cX9_through 95 = .ok (.iload 10, 2) := by decide +kernel
theorem dX9_through_97 : decode cX9_through 97 = .ok (.ifCond .eq 36, 3) := by decide +kernel
theorem dX9_through_100 : decode cX9_through 100 = .ok (.aload_n 0, 1) := by decide +kernel
theorem dX9_through_101 : decode cX9_through 101 = .ok (.aload_n 0, 1) := by decide +kernel
theorem dX9_through_102 : decode cX9_through 102 = .ok (.getfield 22, 3) := by decide +kernel
theorem dX9_through_105 : decode cX9_through 105 = .ok (.aload_n 0, 1) := by decide +kernel
theorem dX9_through_106 : decode cX9_through 106 = .ok (.getfield 39, 3) := by decide +kernel
theorem dX9_through_109 : decode cX9_through 109 = .ok (.invokevirtual 66, 3) := by decide +kernel
theorem dX9_through_112 : decode cX9_through 112 = .ok (.putfield 39, 3) := by decide +kernel
theorem dX9_through_115 : decode cX9_through 115 = .ok (.iload 8, 2) := by decide +kernel
theorem dX9_through_117 : decode cX9_through 117 = .ok (.ifCond .ne 43, 3) := by decide +kernel
theorem dX9_through_120 : decode cX9_through 120 = .ok (.aload_n 0, 1) := by decide +kernel
theorem dX9_through_121 : decode cX9_through 121 = .ok (.dup, 1) := by decide +kernel
theorem dX9_through_122 : decode cX9_through 122 = .ok (.getfield 55, 3) := by decide +kernel
theorem dX9_through_125 : decode cX9_through 125 = .ok (.iconst 1, 1) := by decide +kernel
theorem dX9_through_126 : decode cX9_through 126 = .ok (.iadd, 1) := by decide +kernel
theorem dX9_through_127 : decode cX9_through 127 = .ok (.putfield 55, 3) := by decide +kernel
theorem dX9_through_130 : decode cX9_through 130 = .ok (.goto 30, 3) := by decide +kernel
theorem dX9_through_133 : decode cX9_through 133 = .ok (.aload_n 0, 1) := by decide +kernel
theorem dX9_through_134 : decode cX9_through 134 = .ok (.getfield 15, 3) := by decide +kernel
theorem dX9_through_137 : decode cX9_through 137 = .ok (.aload_n 0, 1) := by decide +kernel
theorem dX9_through_138 : decode cX9_through 138 = .ok (.getfield 22, 3) := by decide +kernel
theorem dX9_through_141 : decode cX9_through 141 = .ok (.iload 7, 2) := by decide +kernel
theorem dX9_through_143 : decode cX9_through 143 = .ok (.aload_n 0, 1) := by decide +kernel
theorem dX9_through_144 : decode cX9_through 144 = .ok (.getfield 46, 3) := by decide +kernel
theorem dX9_through_147 : decode cX9_through 147 = .ok (.iload 9, 2) := by decide +kernel
theorem dX9_through_149 : decode cX9_through 149 = .ok (.aload_n 0, 1) := by decide +kernel
theorem dX9_through_150 : decode cX9_through 150 = .ok (.getfield 52, 3) := by decide +kernel
theorem dX9_through_153 : decode cX9_through 153 = .ok (.aload_n 0, 1) := by decide +kernel
theorem dX9_through_154 : decode cX9_through 154 = .ok (.getfield 55, 3) := by decide +kernel
theorem dX9_through_157 : decode cX9_through 157 = .ok (.invokevirtual 69, 3) := by decide +kernel
theorem dX9_through_160 : decode cX9_through 160 = .ok (.aload_n 0, 1) := by decide +kernel
theorem dX9_through_161 : decode cX9_through 161 = .ok (.iload 10, 2) := by decide +kernel
theorem dX9_through_163 : decode cX9_through 163 = .ok (.ifCond .eq 7, 3) := by decide +kernel
theorem dX9_through_166 : decode cX9_through 166 = .ok (.iconst 0, 1) := by decide +kernel
theorem dX9_through_167 : decode cX9_through 167 = .ok (.goto 9, 3) := by decide +kernel
theorem dX9_through_170 : decode cX9_through 170 = .ok (.aload_n 0, 1) := by decide +kernel
theorem dX9_through_171 : decode cX9_through 171 = .ok (.getfield 52, 3) := by decide +kernel
theorem dX9_through_174 : decode cX9_through 174 = .ok (.iconst 1, 1) := by decide +kernel
theorem dX9_through_175 : decode cX9_through 175 = .ok (.iadd, 1) := by decide +kernel
theorem dX9_through_176 : decode cX9_through 176 = .ok (.putfield 52, 3) := by decide +kernel
theorem dX9_through_179 : decode cX9_through 179 = .ok (.iload 10, 2) := by decide +kernel
theorem dX9_through_181 : decode cX9_through 181 = .ok (.istore 8, 2) := by decide +kernel
theorem dX9_through_183 : decode cX9_through 183 = .ok (.aload_n 0, 1) := by decide +kernel
theorem dX9_through_184 : decode cX9_through 184 = .ok (.getfield 22, 3) := by decide +kernel
theorem dX9_through_187 : decode cX9_through 187 = .ok (.invokevirtual 73, 3) := by decide +kernel
theorem dX9_through_190 : decode cX9_through 190 = .ok (.istore 7, 2) := by decide +kernel
theorem dX9_through_192 : decode cX9_through 192 = .ok (.aload_n 0, 1) := by decide +kernel
theorem dX9_through_193 : decode cX9_through 193 = .ok (.iload 9, 2) := by decide +kernel
theorem dX9_through_195 : decode cX9_through 195 = .ok (.iload_n 3, 1) := by decide +kernel
theorem dX9_through_196 : decode cX9_through 196 = .ok (.iload 7, 2) := by decide +kernel
theorem dX9_through_198 : decode cX9_through 198 = .ok (.invokevirtual 77, 3) := by decide +kernel
theorem dX9_through_201 : decode cX9_through 201 = .ok (.aload_n 0, 1) := by decide +kernel
theorem dX9_through_202 : decode cX9_through 202 = .ok (.getfield 81, 3) := by decide +kernel
theorem dX9_through_205 : decode cX9_through 205 = .ok (.bipush (-2), 2) := by decide +kernel
theorem dX9_through_207 : decode cX9_through 207 = .ok (.if_icmp .ne 18, 3) := by decide +kernel
theorem dX9_through_210 : decode cX9_through 210 = .ok (.aload_n 0, 1) := by decide +kernel
theorem dX9_through_211 : decode cX9_through 211 = .ok (.getfield 46, 3) := by decide +kernel
theorem dX9_through_214 : decode cX9_through 214 = .ok (.iload 4, 2) := by decide +kernel
theorem dX9_through_216 : decode cX9_through 216 = .ok (.if_icmp .lt 9, 3) := by decide +kernel
theorem dX9_through_219 : decode cX9_through 219 = .ok (.aload_n 0, 1) := by decide +kernel
theorem dX9_through_220 : decode cX9_through 220 = .ok (.iload 9, 2) := by decide +kernel
theorem dX9_through_222 : decode cX9_through 222 = .ok (.putfield 81, 3) := by decide +kernel
theorem dX9_through_225 : decode cX9_through 225 = .ok (.iinc 9 1, 3) := by decide +kernel
theorem dX9_through_228 : decode cX9_through 228 = .ok (.goto (-209), 3) := by decide +kernel
theorem dX9_through_231 : decode cX9_through 231 = .ok (.aload_n 0, 1) := by decide +kernel
theorem dX9_through_232 : decode cX9_through 232 = .ok (.aload_n 0, 1) := by decide +kernel
theorem dX9_through_233 : decode cX9_through 233 = .ok (.getfield 84, 3) := by decide +kernel
theorem dX9_through_236 : decode cX9_through 236 = .ok (.aload_n 0, 1) := by decide +kernel
theorem dX9_through_237 : decode cX9_through 237 = .ok (.getfield 9, 3) := by decide +kernel
theorem dX9_through_240 : decode cX9_through 240 = .ok (.getfield 87, 3) := by decide +kernel
theorem dX9_through_243 : decode cX9_through 243 = .ok (.if_icmp .le 7, 3) := by decide +kernel
theorem dX9_through_246 : decode cX9_through 246 = .ok (.iconst 1, 1) := by decide +kernel
theorem dX9_through_247 : decode cX9_through 247 = .ok (.goto 4, 3) := by decide +kernel
theorem dX9_through_250 : decode cX9_through 250 = .ok (.iconst 0, 1) := by decide +kernel
theorem dX9_through_251 : decode cX9_through 251 = .ok (.putfield 90, 3) := by decide +kernel
theorem dX9_through_254 : decode cX9_through 254 = .ok (.return_, 1) := by decide +kernel
theorem dX9_begin_0 : decode cX9_begin 0 = .ok (.aload_n 0, 1) := by decide +kernel
theorem dX9_begin_1 : decode cX9_begin 1 = .ok (.getfield 22, 3) := by decide +kernel
theorem dX9_begin_4 : decode cX9_begin 4 = .ok (.aload_n 1, 1) := by decide +kernel
theorem dX9_begin_5 : decode cX9_begin 5 = .ok (.invokevirtual 94, 3) := by decide +kernel
theorem dX9_begin_8 : decode cX9_begin 8 = .ok (.aload_n 0, 1) := by decide +kernel
theorem dX9_begin_9 : decode cX9_begin 9 = .ok (.aload_n 0, 1) := by decide +kernel
theorem dX9_begin_10 : decode cX9_begin 10 = .ok (.getfield 22, 3) := by decide +kernel
