theorem dX0_init_0 : decode cX0_init 0 = .ok (.aload_n 0, 1) := by decide +kernel
theorem dX0_init_1 : decode cX0_init 1 = .ok (.invokespecial 3, 3) := by decide +kernel
theorem dX0_init_4 : decode cX0_init 4 = .ok (.aload_n 0, 1) := by decide +kernel
theorem dX0_init_5 : decode cX0_init 5 = .ok (.aload_n 1, 1) := by decide +kernel
theorem dX0_init_6 : decode cX0_init 6 = .ok (.putfield 9, 3) := by decide +kernel
theorem dX0_init_9 : decode cX0_init 9 = .ok (.aload_n 0, 1) := by decide +kernel
theorem dX0_init_10 : decode cX0_init 10 = .ok (.aload_n 2, 1) := by decide +kernel
theorem dX0_init_11 : decode cX0_init 11 = .ok (.putfield 15, 3) := by decide +kernel
theorem dX0_init_14 : decode cX0_init 14 = .ok (.aload_n 0, 1) := by decide +kernel
theorem dX0_init_15 : decode cX0_init 15 = .ok (.aload_n 3, 1) := by decide +kernel
theorem dX0_init_16 : decode cX0_init 16 = .ok (.putfield 19, 3) := by decide +kernel
theorem dX0_init_19 : decode cX0_init 19 = .ok (.aload_n 0, 1) := by decide +kernel
theorem dX0_init_20 : decode cX0_init 20 = .ok (.bipush 20, 2) := by decide +kernel
theorem dX0_init_22 : decode cX0_init 22 = .ok (.anewarray 23, 3) := by decide +kernel
theorem dX0_init_25 : decode cX0_init 25 = .ok (.putfield 25, 3) := by decide +kernel
theorem dX0_init_28 : decode cX0_init 28 = .ok (.iconst 0, 1) := by decide +kernel
theorem dX0_init_29 : decode cX0_init 29 = .ok (.istore 4, 2) := by decide +kernel
theorem dX0_init_31 : decode cX0_init 31 = .ok (.iload 4, 2) := by decide +kernel
theorem dX0_init_33 : decode cX0_init 33 = .ok (.bipush 20, 2) := by decide +kernel
theorem dX0_init_35 : decode cX0_init 35 = .ok (.if_icmp .ge 23, 3) := by decide +kernel
theorem dX0_init_38 : decode cX0_init 38 = .ok (.aload_n 0, 1) := by decide +kernel
theorem dX0_init_39 : decode cX0_init 39 = .ok (.getfield 25, 3) := by decide +kernel
theorem dX0_init_42 : decode cX0_init 42 = .ok (.iload 4, 2) := by decide +kernel
theorem dX0_init_44 : decode cX0_init 44 = .ok (.new 23, 3) := by decide +kernel
theorem dX0_init_47 : decode cX0_init 47 = .ok (.dup, 1) := by decide +kernel
theorem dX0_init_48 : decode cX0_init 48 = .ok (.invokespecial 29, 3) := by decide +kernel
theorem dX0_init_51 : decode cX0_init 51 = .ok (.aastore, 1) := by decide +kernel
theorem dX0_init_52 : decode cX0_init 52 = .ok (.iinc 4 1, 3) := by decide +kernel
theorem dX0_init_55 : decode cX0_init 55 = .ok (.goto (-24), 3) := by decide +kernel
theorem dX0_init_58 : decode cX0_init 58 = .ok (.aload_n 0, 1) := by decide +kernel
theorem dX0_init_59 : decode cX0_init 59 = .ok (.bipush 20, 2) := by decide +kernel
theorem dX0_init_61 : decode cX0_init 61 = .ok (.newarray .int, 2) := by decide +kernel
theorem dX0_init_63 : decode cX0_init 63 = .ok (.putfield 30, 3) := by decide +kernel
theorem dX0_init_66 : decode cX0_init 66 = .ok (.aload_n 0, 1) := by decide +kernel
theorem dX0_init_67 : decode cX0_init 67 = .ok (.bipush 20, 2) := by decide +kernel
theorem dX0_init_69 : decode cX0_init 69 = .ok (.newarray .int, 2) := by decide +kernel
theorem dX0_init_71 : decode cX0_init 71 = .ok (.putfield 34, 3) := by decide +kernel
theorem dX0_init_74 : decode cX0_init 74 = .ok (.return_, 1) := by decide +kernel
theorem dX0_has_0 : decode cX0_has 0 = .ok (.iload_n 1, 1) := by decide +kernel
theorem dX0_has_1 : decode cX0_has 1 = .ok (.ifCond .lt 15, 3) := by decide +kernel
theorem dX0_has_4 : decode cX0_has 4 = .ok (.iload_n 1, 1) := by decide +kernel
theorem dX0_has_5 : decode cX0_has 5 = .ok (.aload_n 0, 1) := by decide +kernel
theorem dX0_has_6 : decode cX0_has 6 = .ok (.getfield 37, 3) := by decide +kernel
theorem dX0_has_9 : decode cX0_has 9 = .ok (.if_icmp .ge 7, 3) := by decide +kernel
theorem dX0_has_12 : decode cX0_has 12 = .ok (.iconst 1, 1) := by decide +kernel
theorem dX0_has_13 : decode cX0_has 13 = .ok (.goto 4, 3) := by decide +kernel
theorem dX0_has_16 : decode cX0_has 16 = .ok (.iconst 0, 1) := by decide +kernel
theorem dX0_has_17 : decode cX0_has 17 = .ok (.ireturn, 1) := by decide +kernel
theorem dX0_totalOn_0 : decode cX0_totalOn 0 = .ok (.iconst 0, 1) := by decide +kernel
theorem dX0_totalOn_1 : decode cX0_totalOn 1 = .ok (.istore_n 1, 1) := by decide +kernel
theorem dX0_totalOn_2 : decode cX0_totalOn 2 = .ok (.iconst 0, 1) := by decide +kernel
theorem dX0_totalOn_3 : decode cX0_totalOn 3 = .ok (.istore_n 2, 1) := by decide +kernel
theorem dX0_totalOn_4 : decode cX0_totalOn 4 = .ok (.iload_n 2, 1) := by decide +kernel
theorem dX0_totalOn_5 : decode cX0_totalOn 5 = .ok (.aload_n 0, 1) := by decide +kernel
theorem dX0_totalOn_6 : decode cX0_totalOn 6 = .ok (.getfield 37, 3) := by decide +kernel
theorem dX0_totalOn_9 : decode cX0_totalOn 9 = .ok (.if_icmp .ge 24, 3) := by decide +kernel
theorem dX0_totalOn_12 : decode cX0_totalOn 12 = .ok (.aload_n 0, 1) := by decide +kernel
theorem dX0_totalOn_13 : decode cX0_totalOn 13 = .ok (.getfield 25, 3) := by decide +kernel
theorem dX0_totalOn_16 : decode cX0_totalOn 16 = .ok (.iload_n 2, 1) := by decide +kernel
theorem dX0_totalOn_17 : decode cX0_totalOn 17 = .ok (.aaload, 1) := by decide +kernel
theorem dX0_totalOn_18 : decode cX0_totalOn 18 = .ok (.getfield 41, 3) := by decide +kernel
theorem dX0_totalOn_21 : decode cX0_totalOn 21 = .ok (.ifCond .eq 6, 3) := by decide +kernel
theorem dX0_totalOn_24 : decode cX0_totalOn 24 = .ok (.iinc 1 1, 3) := by decide +kernel
theorem dX0_totalOn_27 : decode cX0_totalOn 27 = .ok (.iinc 2 1, 3) := by decide +kernel
theorem dX0_totalOn_30 : decode cX0_totalOn 30 = .ok (.goto (-26), 3) := by decide +kernel
theorem dX0_totalOn_33 : decode cX0_totalOn 33 = .ok (.iload_n 1, 1) := by decide +kernel
theorem dX0_totalOn_34 : decode cX0_totalOn 34 = .ok (.ireturn, 1) := by decide +kernel
theorem dX0_cellOf_0 : decode cX0_cellOf 0 = .ok (.aload_n 0, 1) := by decide +kernel
theorem dX0_cellOf_1 : decode cX0_cellOf 1 = .ok (.getfield 25, 3) := by decide +kernel
theorem dX0_cellOf_4 : decode cX0_cellOf 4 = .ok (.iload_n 1, 1) := by decide +kernel
theorem dX0_cellOf_5 : decode cX0_cellOf 5 = .ok (.aaload, 1) := by decide +kernel
theorem dX0_cellOf_6 : decode cX0_cellOf 6 = .ok (.astore_n 2, 1) := by decide +kernel
theorem dX0_cellOf_7 : decode cX0_cellOf 7 = .ok (.aload_n 2, 1) := by decide +kernel
theorem dX0_cellOf_8 : decode cX0_cellOf 8 = .ok (.getfield 45, 3) := by decide +kernel
theorem dX0_cellOf_11 : decode cX0_cellOf 11 = .ok (.iconst 1, 1) := by decide +kernel
theorem dX0_cellOf_12 : decode cX0_cellOf 12 = .ok (.if_icmp .ne 31, 3) := by decide +kernel
theorem dX0_cellOf_15 : decode cX0_cellOf 15 = .ok (.aload_n 2, 1) := by decide +kernel
theorem dX0_cellOf_16 : decode cX0_cellOf 16 = .ok (.getfield 48, 3) := by decide +kernel
theorem dX0_cellOf_19 : decode cX0_cellOf 19 = .ok (.iconst (-1), 1) := by decide +kernel
theorem dX0_cellOf_20 : decode cX0_cellOf 20 = .ok (.if_icmp .eq 23, 3) := by decide +kernel
theorem dX0_cellOf_23 : decode cX0_cellOf 23 = .ok (.aload_n 0, 1) := by decide +kernel
theorem dX0_cellOf_24 : decode cX0_cellOf 24 = .ok (.getfield 19, 3) := by decide +kernel
theorem dX0_cellOf_27 : decode cX0_cellOf 27 = .ok (.aload_n 2, 1) := by decide +kernel
theorem dX0_cellOf_28 : decode cX0_cellOf 28 = .ok (.getfield 48, 3) := by decide +kernel
theorem dX0_cellOf_31 : decode cX0_cellOf 31 = .ok (.aaload, 1) := by decide +kernel
theorem dX0_cellOf_32 : decode cX0_cellOf 32 = .ok (.aload_n 0, 1) := by decide +kernel
theorem dX0_cellOf_33 : decode cX0_cellOf 33 = .ok (.getfield 51, 3) := by decide +kernel
theorem dX0_cellOf_36 : decode cX0_cellOf 36 = .ok (.iconst 1, 1) := by decide +kernel
theorem dX0_cellOf_37 : decode cX0_cellOf 37 = .ok (.invokevirtual 54, 3) := by decide +kernel
theorem dX0_cellOf_40 : decode cX0_cellOf 40 = .ok (.ifCond .ne 8, 3) := by decide +kernel
theorem dX0_cellOf_43 : decode cX0_cellOf 43 = .ok (.aload_n 2, 1) := by decide +kernel
theorem dX0_cellOf_44 : decode cX0_cellOf 44 = .ok (.getfield 60, 3) := by decide +kernel
theorem dX0_cellOf_47 : decode cX0_cellOf 47 = .ok (.ireturn, 1) := by decide +kernel
theorem dX0_cellOf_48 : decode cX0_cellOf 48 = .ok (.aload_n 0, 1) := by decide +kernel
theorem dX0_cellOf_49 : decode cX0_cellOf 49 = .ok (.getfield 19, 3) := by decide +kernel
theorem dX0_cellOf_52 : decode cX0_cellOf 52 = .ok (.aload_n 2, 1) := by decide +kernel
theorem dX0_cellOf_53 : decode cX0_cellOf 53 = .ok (.getfield 48, 3) := by decide +kernel
theorem dX0_cellOf_56 : decode cX0_cellOf 56 = .ok (.aaload, 1) := by decide +kernel
theorem dX0_cellOf_57 : decode cX0_cellOf 57 = .ok (.getfield 63, 3) := by decide +kernel
theorem dX0_cellOf_60 : decode cX0_cellOf 60 = .ok (.aload_n 0, 1) := by decide +kernel
theorem dX0_cellOf_61 : decode cX0_cellOf 61 = .ok (.getfield 51, 3) := by decide +kernel
theorem dX0_cellOf_64 : decode cX0_cellOf 64 = .ok (.laload, 1) := by decide +kernel
theorem dX0_cellOf_65 : decode cX0_cellOf 65 = .ok (.lstore_n 3, 1) := by decide +kernel
theorem dX0_cellOf_66 : decode cX0_cellOf 66 = .ok (.aload_n 0, 1) := by decide +kernel
theorem dX0_cellOf_67 : decode cX0_cellOf 67 = .ok (.getfield 15, 3) := by decide +kernel
theorem dX0_cellOf_70 : decode cX0_cellOf 70 = .ok (.lload_n 3, 1) := by decide +kernel
theorem dX0_cellOf_71 : decode cX0_cellOf 71 = .ok (.invokevirtual 67, 3) := by decide +kernel
theorem dX0_cellOf_74 : decode cX0_cellOf 74 = .ok (.ifCond .eq 8, 3) := by decide +kernel
theorem dX0_cellOf_77 : decode cX0_cellOf 77 = .ok (.lload_n 3, 1) := by decide +kernel
theorem dX0_cellOf_78 : decode cX0_cellOf 78 = .ok (.l2i, 1) := by decide +kernel
theorem dX0_cellOf_79 : decode cX0_cellOf 79 = .ok (.goto 7, 3) := by decide +kernel
theorem dX0_cellOf_82 : decode cX0_cellOf 82 = .ok (.aload_n 2, 1) := by decide +kernel
theorem dX0_cellOf_83 : decode cX0_cellOf 83 = .ok (.getfield 60, 3) := by decide +kernel
theorem dX0_cellOf_86 : decode cX0_cellOf 86 = .ok (.ireturn, 1) := by decide +kernel
theorem dX0_slotAt_0 : decode cX0_slotAt 0 = .ok (.aload_n 0, 1) := by decide +kernel
theorem dX0_slotAt_1 : decode cX0_slotAt 1 = .ok (.getfield 25, 3) := by decide +kernel
theorem dX0_slotAt_4 : decode cX0_slotAt 4 = .ok (.iload_n 1, 1) := by decide +kernel
theorem dX0_slotAt_5 : decode cX0_slotAt 5 = .ok (.aaload, 1) := by decide +kernel
theorem dX0_slotAt_6 : decode cX0_slotAt 6 = .ok (.astore_n 2, 1) := by decide +kernel
theorem dX0_slotAt_7 : decode cX0_slotAt 7 = .ok (.aload_n 2, 1) := by decide +kernel
theorem dX0_slotAt_8 : decode cX0_slotAt 8 = .ok (.invokevirtual 73, 3) := by decide +kernel
theorem dX0_slotAt_11 : decode cX0_slotAt 11 = .ok (.ifCond .eq 25, 3) := by decide +kernel
theorem dX0_slotAt_14 : decode cX0_slotAt 14 = .ok (.aload_n 2, 1) := by decide +kernel
theorem dX0_slotAt_15 : decode cX0_slotAt 15 = .ok (.getfield 77, 3) := by decide +kernel
theorem dX0_slotAt_18 : decode cX0_slotAt 18 = .ok (.aload_n 2, 1) := by decide +kernel
theorem dX0_slotAt_19 : decode cX0_slotAt 19 = .ok (.getfield 80, 3) := by decide +kernel
theorem dX0_slotAt_22 : decode cX0_slotAt 22 = .ok (.aload_n 0, 1) := by decide +kernel
theorem dX0_slotAt_23 : decode cX0_slotAt 23 = .ok (.getfield 51, 3) := by decide +kernel
theorem dX0_slotAt_26 : decode cX0_slotAt 26 = .ok (.imul, 1) := by decide +kernel
theorem dX0_slotAt_27 : decode cX0_slotAt 27 = .ok (.iadd, 1) := by decide +kernel
theorem dX0_slotAt_28 : decode cX0_slotAt 28 = .ok (.bipush 12, 2) := by decide +kernel
theorem dX0_slotAt_30 : decode cX0_slotAt 30 = .ok (.invokestatic 83, 3) := by decide +kernel
theorem dX0_slotAt_33 : decode cX0_slotAt 33 = .ok (.goto 7, 3) := by decide +kernel
theorem dX0_slotAt_36 : decode cX0_slotAt 36 = .ok (.aload_n 2, 1) := by decide +kernel
theorem dX0_slotAt_37 : decode cX0_slotAt 37 = .ok (.getfield 77, 3) := by decide +kernel
theorem dX0_slotAt_40 : decode cX0_slotAt 40 = .ok (.ireturn, 1) := by decide +kernel
theorem dX0_tell_0 : decode cX0_tell 0 = .ok (.aload_n 0, 1) := by decide +kernel
theorem dX0_tell_1 : decode cX0_tell 1 = .ok (.getfield 25, 3) := by decide +kernel
theorem dX0_tell_4 : decode cX0_tell 4 = .ok (.iload_n 1, 1) := by decide +kernel
theorem dX0_tell_5 : decode cX0_tell 5 = .ok (.aaload, 1) := by decide +kernel
theorem dX0_tell_6 : decode cX0_tell 6 = .ok (.astore_n 3, 1) := by decide +kernel
theorem dX0_tell_7 : decode cX0_tell 7 = .ok (.iload_n 2, 1) := by decide +kernel
theorem dX0_tell_8 : decode cX0_tell 8 = .ok (.tableswitch 125 0 10 #[60, 65, 71, 76, 81, 86, 91, 96, 102, 115, 120], 60) := by decide +kernel
theorem dX0_tell_68 : decode cX0_tell 68 = .ok (.aload_n 3, 1) := by decide +kernel
theorem dX0_tell_69 : decode cX0_tell 69 = .ok (.getfield 45, 3) := by decide +kernel
theorem dX0_tell_72 : decode cX0_tell 72 = .ok (.ireturn, 1) := by decide +kernel
theorem dX0_tell_73 : decode cX0_tell 73 = .ok (.aload_n 0, 1) := by decide +kernel
theorem dX0_tell_74 : decode cX0_tell 74 = .ok (.iload_n 1, 1) := by decide +kernel
theorem dX0_tell_75 : decode cX0_tell 75 = .ok (.invokevirtual 89, 3) := by decide +kernel
theorem dX0_tell_78 : decode cX0_tell 78 = .ok (.ireturn, 1) := by decide +kernel
theorem dX0_tell_79 : decode cX0_tell 79 = .ok (.aload_n 3, 1) := by decide +kernel
theorem dX0_tell_80 : decode cX0_tell 80 = .ok (.getfield 93, 3) := by decide +kernel
theorem dX0_tell_83 : decode cX0_tell 83 = .ok (.ireturn, 1) := by decide +kernel
theorem dX0_tell_84 : decode cX0_tell 84 = .ok (.aload_n 3, 1) := by decide +kernel
theorem dX0_tell_85 : decode cX0_tell 85 = .ok (.getfield 96, 3) := by decide +kernel
theorem dX0_tell_88 : decode cX0_tell 88 = .ok (.ireturn, 1) := by decide +kernel
theorem dX0_tell_89 : decode cX0_tell 89 = .ok (.aload_n 3, 1) := by decide +kernel
theorem dX0_tell_90 : decode cX0_tell 90 = .ok (.getfield 99, 3) := by decide +kernel
theorem dX0_tell_93 : decode cX0_tell 93 = .ok (.ireturn, 1) := by decide +kernel
theorem dX0_tell_94 : decode cX0_tell 94 = .ok (.aload_n 3, 1) := by decide +kernel
theorem dX0_tell_95 : decode cX0_tell 95 = .ok (.getfield 102, 3) := by decide +kernel
theorem dX0_tell_98 : decode cX0_tell 98 = .ok (.ireturn, 1) := by decide +kernel
theorem dX0_tell_99 : decode cX0_tell 99 = .ok (.aload_n 3, 1) := by decide +kernel
theorem dX0_tell_100 : decode cX0_tell 100 = .ok (.getfield 105, 3) := by decide +kernel
theorem dX0_tell_103 : decode cX0_tell 103 = .ok (.ireturn, 1) := by decide +kernel
theorem dX0_tell_104 : decode cX0_tell 104 = .ok (.aload_n 0, 1) := by decide +kernel
theorem dX0_tell_105 : decode cX0_tell 105 = .ok (.iload_n 1, 1) := by decide +kernel
theorem dX0_tell_106 : decode cX0_tell 106 = .ok (.invokevirtual 108, 3) := by decide +kernel
theorem dX0_tell_109 : decode cX0_tell 109 = .ok (.ireturn, 1) := by decide +kernel
theorem dX0_tell_110 : decode cX0_tell 110 = .ok (.aload_n 3, 1) := by decide +kernel
theorem dX0_tell_111 : decode cX0_tell 111 = .ok (.getfield 41, 3) := by decide +kernel
theorem dX0_tell_114 : decode cX0_tell 114 = .ok (.ifCond .eq 7, 3) := by decide +kernel
theorem dX0_tell_117 : decode cX0_tell 117 = .ok (.iconst 1, 1) := by decide +kernel
theorem dX0_tell_118 : decode cX0_tell 118 = .ok (.goto 4, 3) := by decide +kernel
theorem dX0_tell_121 : decode cX0_tell 121 = .ok (.iconst 0, 1) := by decide +kernel
theorem dX0_tell_122 : decode cX0_tell 122 = .ok (.ireturn, 1) := by decide +kernel
theorem dX0_tell_123 : decode cX0_tell 123 = .ok (.aload_n 3, 1) := by decide +kernel
theorem dX0_tell_124 : decode cX0_tell 124 = .ok (.getfield 60, 3) := by decide +kernel
theorem dX0_tell_127 : decode cX0_tell 127 = .ok (.ireturn, 1) := by decide +kernel
theorem dX0_tell_128 : decode cX0_tell 128 = .ok (.aload_n 3, 1) := by decide +kernel
theorem dX0_tell_129 : decode cX0_tell 129 = .ok (.getfield 77, 3) := by decide +kernel
theorem dX0_tell_132 : decode cX0_tell 132 = .ok (.ireturn, 1) := by decide +kernel
theorem dX0_tell_133 : decode cX0_tell 133 = .ok (.ldc 111, 2) := by decide +kernel
theorem dX0_tell_135 : decode cX0_tell 135 = .ok (.ireturn, 1) := by decide +kernel
theorem dX0_gotAt_0 : decode cX0_gotAt 0 = .ok (.aload_n 0, 1) := by decide +kernel
theorem dX0_gotAt_1 : decode cX0_gotAt 1 = .ok (.getfield 15, 3) := by decide +kernel
theorem dX0_gotAt_4 : decode cX0_gotAt 4 = .ok (.aload_n 0, 1) := by decide +kernel
theorem dX0_gotAt_5 : decode cX0_gotAt 5 = .ok (.getfield 25, 3) := by decide +kernel
theorem dX0_gotAt_8 : decode cX0_gotAt 8 = .ok (.iload_n 1, 1) := by decide +kernel
theorem dX0_gotAt_9 : decode cX0_gotAt 9 = .ok (.aaload, 1) := by decide +kernel
theorem dX0_gotAt_10 : decode cX0_gotAt 10 = .ok (.getfield 93, 3) := by decide +kernel
theorem dX0_gotAt_13 : decode cX0_gotAt 13 = .ok (.aload_n 0, 1) := by decide +kernel
theorem dX0_gotAt_14 : decode cX0_gotAt 14 = .ok (.iload_n 1, 1) := by decide +kernel
theorem dX0_gotAt_15 : decode cX0_gotAt 15 = .ok (.invokevirtual 89, 3) := by decide +kernel
theorem dX0_gotAt_18 : decode cX0_gotAt 18 = .ok (.aload_n 0, 1) := by decide +kernel
theorem dX0_gotAt_19 : decode cX0_gotAt 19 = .ok (.getfield 25, 3) := by decide +kernel
theorem dX0_gotAt_22 : decode cX0_gotAt 22 = .ok (.iload_n 1, 1) := by decide +kernel
theorem dX0_gotAt_23 : decode cX0_gotAt 23 = .ok (.aaload, 1) := by decide +kernel
theorem dX0_gotAt_24 : decode cX0_gotAt 24 = .ok (.getfield 96, 3) := by decide +kernel
theorem dX0_gotAt_27 : decode cX0_gotAt 27 = .ok (.iload_n 2, 1) := by decide +kernel
theorem dX0_gotAt_28 : decode cX0_gotAt 28 = .ok (.iload_n 3, 1) := by decide +kernel
theorem dX0_gotAt_29 : decode cX0_gotAt 29 = .ok (.invokevirtual 112, 3) := by decide +kernel
theorem dX0_gotAt_32 : decode cX0_gotAt 32 = .ok (.ireturn, 1) := by decide +kernel
theorem dX0_gotAtGoal_0 : decode cX0_gotAtGoal 0 = .ok (.aload_n 0, 1) := by decide +kernel
theorem dX0_gotAtGoal_1 : decode cX0_gotAtGoal 1 = .ok (.iload_n 1, 1) := by decide +kernel
theorem dX0_gotAtGoal_2 : decode cX0_gotAtGoal 2 = .ok (.aload_n 0, 1) := by decide +kernel
theorem dX0_gotAtGoal_3 : decode cX0_gotAtGoal 3 = .ok (.getfield 25, 3) := by decide +kernel
theorem dX0_gotAtGoal_6 : decode cX0_gotAtGoal 6 = .ok (.iload_n 1, 1) := by decide +kernel
theorem dX0_gotAtGoal_7 : decode cX0_gotAtGoal 7 = .ok (.aaload, 1) := by decide +kernel
theorem dX0_gotAtGoal_8 : decode cX0_gotAtGoal 8 = .ok (.getfield 102, 3) := by decide +kernel
theorem dX0_gotAtGoal_11 : decode cX0_gotAtGoal 11 = .ok (.aload_n 0, 1) := by decide +kernel
theorem dX0_gotAtGoal_12 : decode cX0_gotAtGoal 12 = .ok (.getfield 25, 3) := by decide +kernel
theorem dX0_gotAtGoal_15 : decode cX0_gotAtGoal 15 = .ok (.iload_n 1, 1) := by decide +kernel
theorem dX0_gotAtGoal_16 : decode cX0_gotAtGoal 16 = .ok (.aaload, 1) := by decide +kernel
theorem dX0_gotAtGoal_17 : decode cX0_gotAtGoal 17 = .ok (.invokevirtual 116, 3) := by decide +kernel
theorem dX0_gotAtGoal_20 : decode cX0_gotAtGoal 20 = .ok (.invokevirtual 120, 3) := by decide +kernel
theorem dX0_gotAtGoal_23 : decode cX0_gotAtGoal 23 = .ok (.ireturn, 1) := by decide +kernel
theorem dX0_gatherRivals_0 : decode cX0_gatherRivals 0 = .ok (.aload_n 0, 1) := by decide +kernel
theorem dX0_gatherRivals_1 : decode cX0_gatherRivals 1 = .ok (.iconst 0, 1) := by decide +kernel
theorem dX0_gatherRivals_2 : decode cX0_gatherRivals 2 = .ok (.putfield 124, 3) := by decide +kernel
theorem dX0_gatherRivals_5 : decode cX0_gatherRivals 5 = .ok (.iconst 0, 1) := by decide +kernel
theorem dX0_gatherRivals_6 : decode cX0_gatherRivals 6 = .ok (.istore_n 2, 1) := by decide +kernel
theorem dX0_gatherRivals_7 : decode cX0_gatherRivals 7 = .ok (.iload_n 2, 1) := by decide +kernel
theorem dX0_gatherRivals_8 : decode cX0_gatherRivals 8 = .ok (.aload_n 0, 1) := by decide +kernel
theorem dX0_gatherRivals_9 : decode cX0_gatherRivals 9 = .ok (.getfield 37, 3) := by decide +kernel
theorem dX0_gatherRivals_12 : decode cX0_gatherRivals 12 = .ok (.if_icmp .ge 83, 3) := by decide +kernel
theorem dX0_gatherRivals_15 : decode cX0_gatherRivals 15 = .ok (.iload_n 2, 1) := by decide +kernel
theorem dX0_gatherRivals_16 : decode cX0_gatherRivals 16 = .ok (.iload_n 1, 1) := by decide +kernel
theorem dX0_gatherRivals_17 : decode cX0_gatherRivals 17 = .ok (.if_icmp .eq 72, 3) := by decide +kernel
theorem dX0_gatherRivals_20 : decode cX0_gatherRivals 20 = .ok (.aload_n 0, 1) := by decide +kernel
theorem dX0_gatherRivals_21 : decode cX0_gatherRivals 21 = .ok (.getfield 25, 3) := by decide +kernel
theorem dX0_gatherRivals_24 : decode cX0_gatherRivals 24 = .ok (.iload_n 2, 1) := by decide +kernel
theorem dX0_gatherRivals_25 : decode cX0_gatherRivals 25 = .ok (.aaload, 1) := by decide +kernel
theorem dX0_gatherRivals_26 : decode cX0_gatherRivals 26 = .ok (.getfield 41, 3) := by decide +kernel
theorem dX0_gatherRivals_29 : decode cX0_gatherRivals 29 = .ok (.ifCond .eq 60, 3) := by decide +kernel
theorem dX0_gatherRivals_32 : decode cX0_gatherRivals 32 = .ok (.aload_n 0, 1) := by decide +kernel
theorem dX0_gatherRivals_33 : decode cX0_gatherRivals 33 = .ok (.iload_n 2, 1) := by decide +kernel
theorem dX0_gatherRivals_34 : decode cX0_gatherRivals 34 = .ok (.invokevirtual 108, 3) := by decide +kernel
theorem dX0_gatherRivals_37 : decode cX0_gatherRivals 37 = .ok (.aload_n 0, 1) := by decide +kernel
theorem dX0_gatherRivals_38 : decode cX0_gatherRivals 38 = .ok (.iload_n 1, 1) := by decide +kernel
theorem dX0_gatherRivals_39 : decode cX0_gatherRivals 39 = .ok (.invokevirtual 108, 3) := by decide +kernel
theorem dX0_gatherRivals_42 : decode cX0_gatherRivals 42 = .ok (.if_icmp .ne 47, 3) := by decide +kernel
theorem dX0_gatherRivals_45 : decode cX0_gatherRivals 45 = .ok (.aload_n 0, 1) := by decide +kernel
theorem dX0_gatherRivals_46 : decode cX0_gatherRivals 46 = .ok (.getfield 30, 3) := by decide +kernel
theorem dX0_gatherRivals_49 : decode cX0_gatherRivals 49 = .ok (.aload_n 0, 1) := by decide +kernel
theorem dX0_gatherRivals_50 : decode cX0_gatherRivals 50 = .ok (.getfield 124, 3) := by decide +kernel
theorem dX0_gatherRivals_53 : decode cX0_gatherRivals 53 = .ok (.iload_n 2, 1) := by decide +kernel
theorem dX0_gatherRivals_54 : decode cX0_gatherRivals 54 = .ok (.iastore, 1) := by decide +kernel
theorem dX0_gatherRivals_55 : decode cX0_gatherRivals 55 = .ok (.aload_n 0, 1) := by decide +kernel
theorem dX0_gatherRivals_56 : decode cX0_gatherRivals 56 = .ok (.getfield 34, 3) := by decide +kernel
theorem dX0_gatherRivals_59 : decode cX0_gatherRivals 59 = .ok (.aload_n 0, 1) := by decide +kernel
theorem dX0_gatherRivals_60 : decode cX0_gatherRivals 60 = .ok (.getfield 124, 3) := by decide +kernel
theorem dX0_gatherRivals_63 : decode cX0_gatherRivals 63 = .ok (.aload_n 0, 1) := by decide +kernel
theorem dX0_gatherRivals_64 : decode cX0_gatherRivals 64 = .ok (.iload_n 2, 1) := by decide +kernel
theorem dX0_gatherRivals_65 : decode cX0_gatherRivals 65 = .ok (.aload_n 0, 1) := by decide +kernel
theorem dX0_gatherRivals_66 : decode cX0_gatherRivals 66 = .ok (.getfield 25, 3) := by decide +kernel
theorem dX0_gatherRivals_69 : decode cX0_gatherRivals 69 = .ok (.iload_n 1, 1) := by decide +kernel
theorem dX0_gatherRivals_70 : decode cX0_gatherRivals 70 = .ok (.aaload, 1) := by decide +kernel
theorem dX0_gatherRivals_71 : decode cX0_gatherRivals 71 = .ok (.getfield 102, 3) := by decide +kernel
theorem dX0_gatherRivals_74 : decode cX0_gatherRivals 74 = .ok (.iconst 0, 1) := by decide +kernel
theorem dX0_gatherRivals_75 : decode cX0_gatherRivals 75 = .ok (.invokevirtual 120, 3) := by decide +kernel
theorem dX0_gatherRivals_78 : decode cX0_gatherRivals 78 = .ok (.iastore, 1) := by decide +kernel
theorem dX0_gatherRivals_79 : decode cX0_gatherRivals 79 = .ok (.aload_n 0, 1) := by decide +kernel
theorem dX0_gatherRivals_80 : decode cX0_gatherRivals 80 = .ok (.dup, 1) := by decide +kernel
theorem dX0_gatherRivals_81 : decode cX0_gatherRivals 81 = .ok (.getfield 124, 3) := by decide +kernel
theorem dX0_gatherRivals_84 : decode cX0_gatherRivals 84 = .ok (.iconst 1, 1) := by decide +kernel
theorem dX0_gatherRivals_85 : decode cX0_gatherRivals 85 = .ok (.iadd, 1) := by decide +kernel
theorem dX0_gatherRivals_86 : decode cX0_gatherRivals 86 = .ok (.putfield 124, 3) := by decide +kernel
theorem dX0_gatherRivals_89 : decode cX0_gatherRivals 89 = .ok (.iinc 2 1, 3) := by decide +kernel
theorem dX0_gatherRivals_92 : decode cX0_gatherRivals 92 = .ok (.goto (-85), 3) := by decide +kernel
theorem dX0_gatherRivals_95 : decode cX0_gatherRivals 95 = .ok (.aload_n 0, 1) := by decide +kernel
theorem dX0_gatherRivals_96 : decode cX0_gatherRivals 96 = .ok (.getfield 124, 3) := by decide +kernel
theorem dX0_gatherRivals_99 : decode cX0_gatherRivals 99 = .ok (.ireturn, 1) := by decide +kernel
theorem dX0_againstWithout_0 : decode cX0_againstWithout 0 = .ok (.aload_n 0, 1) := by decide +kernel
theorem dX0_againstWithout_1 : decode cX0_againstWithout 1 = .ok (.getfield 9, 3) := by decide +kernel
theorem dX0_againstWithout_4 : decode cX0_againstWithout 4 = .ok (.getfield 127, 3) := by decide +kernel
theorem dX0_againstWithout_7 : decode cX0_againstWithout 7 = .ok (.iconst 2, 1) := by decide +kernel
theorem dX0_againstWithout_8 : decode cX0_againstWithout 8 = .ok (.iaload, 1) := by decide +kernel
theorem dX0_againstWithout_9 : decode cX0_againstWithout 9 = .ok (.i2l, 1) := by decide +kernel
theorem dX0_againstWithout_10 : decode cX0_againstWithout 10 = .ok (.lstore_n 2, 1) := by decide +kernel
theorem dX0_againstWithout_11 : decode cX0_againstWithout 11 = .ok (.iconst 0, 1) := by decide +kernel
theorem dX0_againstWithout_12 : decode cX0_againstWithout 12 = .ok (.istore 4, 2) := by decide +kernel
theorem dX0_againstWithout_14 : decode cX0_againstWithout 14 = .ok (.iload 4, 2) := by decide +kernel
theorem dX0_againstWithout_16 : decode cX0_againstWithout 16 = .ok (.aload_n 0, 1) := by decide +kernel
theorem dX0_againstWithout_17 : decode cX0_againstWithout 17 = .ok (.getfield 124, 3) := by decide +kernel
theorem dX0_againstWithout_20 : decode cX0_againstWithout 20 = .ok (.if_icmp .ge 29, 3) := by decide +kernel
theorem dX0_againstWithout_23 : decode cX0_againstWithout 23 = .ok (.iload_n 1, 1) := by decide +kernel
theorem dX0_againstWithout_24 : decode cX0_againstWithout 24 = .ok (.iload 4, 2) := by decide +kernel
theorem dX0_againstWithout_26 : decode cX0_againstWithout 26 = .ok (.ishr, 1) := by decide +kernel
theorem dX0_againstWithout_27 : decode cX0_againstWithout 27 = .ok (.iconst 1, 1) := by decide +kernel
theorem dX0_againstWithout_28 : decode cX0_againstWithout 28 = .ok (.iand, 1) := by decide +kernel
theorem dX0_againstWithout_29 : decode cX0_againstWithout 29 = .ok (.ifCond .ne 14, 3) := by decide +kernel
theorem dX0_againstWithout_32 : decode cX0_againstWithout 32 = .ok (.lload_n 2, 1) := by decide +kernel
theorem dX0_againstWithout_33 : decode cX0_againstWithout 33 = .ok (.aload_n 0, 1) := by decide +kernel
theorem dX0_againstWithout_34 : decode cX0_againstWithout 34 = .ok (.getfield 34, 3) := by decide +kernel
theorem dX0_againstWithout_37 : decode cX0_againstWithout 37 = .ok (.iload 4, 2) := by decide +kernel
theorem dX0_againstWithout_39 : decode cX0_againstWithout 39 = .ok (.iaload, 1) := by decide +kernel
theorem dX0_againstWithout_40 : decode cX0_againstWithout 40 = .ok (.i2l, 1) := by decide +kernel
theorem dX0_againstWithout_41 : decode cX0_againstWithout 41 = .ok (.ladd, 1) := by decide +kernel
theorem dX0_againstWithout_42 : decode cX0_againstWithout 42 = .ok (.lstore_n 2, 1) := by decide +kernel
theorem dX0_againstWithout_43 : decode cX0_againstWithout 43 = .ok (.iinc 4 1, 3) := by decide +kernel
theorem dX0_againstWithout_46 : decode cX0_againstWithout 46 = .ok (.goto (-32), 3) := by decide +kernel
theorem dX0_againstWithout_49 : decode cX0_againstWithout 49 = .ok (.lload_n 2, 1) := by decide +kernel
theorem dX0_againstWithout_50 : decode cX0_againstWithout 50 = .ok (.lreturn, 1) := by decide +kernel
theorem dX0_isHeard_0 : decode cX0_isHeard 0 = .ok (.aload_n 0, 1) := by decide +kernel
theorem dX0_isHeard_1 : decode cX0_isHeard 1 = .ok (.iload_n 1, 1) := by decide +kernel
theorem dX0_isHeard_2 : decode cX0_isHeard 2 = .ok (.invokevirtual 132, 3) := by decide +kernel
theorem dX0_isHeard_5 : decode cX0_isHeard 5 = .ok (.pop, 1) := by decide +kernel
theorem dX0_isHeard_6 : decode cX0_isHeard 6 = .ok (.aload_n 0, 1) := by decide +kernel
theorem dX0_isHeard_7 : decode cX0_isHeard 7 = .ok (.getfield 25, 3) := by decide +kernel
theorem dX0_isHeard_10 : decode cX0_isHeard 10 = .ok (.iload_n 1, 1) := by decide +kernel
theorem dX0_isHeard_11 : decode cX0_isHeard 11 = .ok (.aaload, 1) := by decide +kernel
theorem dX0_isHeard_12 : decode cX0_isHeard 12 = .ok (.aload_n 0, 1) := by decide +kernel
theorem dX0_isHeard_13 : decode cX0_isHeard 13 = .ok (.iload_n 1, 1) := by decide +kernel
theorem dX0_isHeard_14 : decode cX0_isHeard 14 = .ok (.invokevirtual 135, 3) := by decide +kernel
theorem dX0_isHeard_17 : decode cX0_isHeard 17 = .ok (.aload_n 0, 1) := by decide +kernel
theorem dX0_isHeard_18 : decode cX0_isHeard 18 = .ok (.iconst 0, 1) := by decide +kernel
theorem dX0_isHeard_19 : decode cX0_isHeard 19 = .ok (.invokevirtual 138, 3) := by decide +kernel
theorem dX0_isHeard_22 : decode cX0_isHeard 22 = .ok (.invokevirtual 142, 3) := by decide +kernel
theorem dX0_isHeard_25 : decode cX0_isHeard 25 = .ok (.ireturn, 1) := by decide +kernel
theorem dX0_causeOf_0 : decode cX0_causeOf 0 = .ok (.aload_n 0, 1) := by decide +kernel
theorem dX0_causeOf_1 : decode cX0_causeOf 1 = .ok (.iload_n 1, 1) := by decide +kernel
theorem dX0_causeOf_2 : decode cX0_causeOf 2 = .ok (.invokevirtual 135, 3) := by decide +kernel
theorem dX0_causeOf_5 : decode cX0_causeOf 5 = .ok (.istore_n 2, 1) := by decide +kernel
theorem dX0_causeOf_6 : decode cX0_causeOf 6 = .ok (.iconst (-1), 1) := by decide +kernel
theorem dX0_causeOf_7 : decode cX0_causeOf 7 = .ok (.istore_n 3, 1) := by decide +kernel
theorem dX0_causeOf_8 : decode cX0_causeOf 8 = .ok (.iconst 0, 1) := by decide +kernel
theorem dX0_causeOf_9 : decode cX0_causeOf 9 = .ok (.istore 4, 2) := by decide +kernel
theorem dX0_causeOf_11 : decode cX0_causeOf 11 = .ok (.iload 4, 2) := by decide +kernel
theorem dX0_causeOf_13 : decode cX0_causeOf 13 = .ok (.iconst 1, 1) := by decide +kernel
theorem dX0_causeOf_14 : decode cX0_causeOf 14 = .ok (.aload_n 0, 1) := by decide +kernel
theorem dX0_causeOf_15 : decode cX0_causeOf 15 = .ok (.getfield 124, 3) := by decide +kernel
theorem dX0_causeOf_18 : decode cX0_causeOf 18 = .ok (.ishl, 1) := by decide +kernel
theorem dX0_causeOf_19 : decode cX0_causeOf 19 = .ok (.if_icmp .ge 60, 3) := by decide +kernel
theorem dX0_causeOf_22 : decode cX0_causeOf 22 = .ok (.iload_n 3, 1) := by decide +kernel
theorem dX0_causeOf_23 : decode cX0_causeOf 23 = .ok (.iconst (-1), 1) := by decide +kernel
theorem dX0_causeOf_24 : decode cX0_causeOf 24 = .ok (.if_icmp .eq 15, 3) := by decide +kernel
theorem dX0_causeOf_27 : decode cX0_causeOf 27 = .ok (.iload 4, 2) := by decide +kernel
theorem dX0_causeOf_29 : decode cX0_causeOf 29 = .ok (.invokestatic 146, 3) := by decide +kernel
theorem dX0_causeOf_32 : decode cX0_causeOf 32 = .ok (.iload_n 3, 1) := by decide +kernel
theorem dX0_causeOf_33 : decode cX0_causeOf 33 = .ok (.invokestatic 146, 3) := by decide +kernel
theorem dX0_causeOf_36 : decode cX0_causeOf 36 = .ok (.if_icmp .ge 7, 3) := by decide +kernel
theorem dX0_causeOf_39 : decode cX0_causeOf 39 = .ok (.iconst 1, 1) := by decide +kernel
theorem dX0_causeOf_40 : decode cX0_causeOf 40 = .ok (.goto 4, 3) := by decide +kernel
theorem dX0_causeOf_43 : decode cX0_causeOf 43 = .ok (.iconst 0, 1) := by decide +kernel
theorem dX0_causeOf_44 : decode cX0_causeOf 44 = .ok (.istore 5, 2) := by decide +kernel
theorem dX0_causeOf_46 : decode cX0_causeOf 46 = .ok (.iload 5, 2) := by decide +kernel
theorem dX0_causeOf_48 : decode cX0_causeOf 48 = .ok (.ifCond .eq 25, 3) := by decide +kernel
theorem dX0_causeOf_51 : decode cX0_causeOf 51 = .ok (.aload_n 0, 1) := by decide +kernel
theorem dX0_causeOf_52 : decode cX0_causeOf 52 = .ok (.getfield 25, 3) := by decide +kernel
theorem dX0_causeOf_55 : decode cX0_causeOf 55 = .ok (.iload_n 1, 1) := by decide +kernel
theorem dX0_causeOf_56 : decode cX0_causeOf 56 = .ok (.aaload, 1) := by decide +kernel
theorem dX0_causeOf_57 : decode cX0_causeOf 57 = .ok (.iload_n 2, 1) := by decide +kernel
theorem dX0_causeOf_58 : decode cX0_causeOf 58 = .ok (.aload_n 0, 1) := by decide +kernel
theorem dX0_causeOf_59 : decode cX0_causeOf 59 = .ok (.iload 4, 2) := by decide +kernel
theorem dX0_causeOf_61 : decode cX0_causeOf 61 = .ok (.invokevirtual 138, 3) := by decide +kernel
theorem dX0_causeOf_64 : decode cX0_causeOf 64 = .ok (.invokevirtual 142, 3) := by decide +kernel
theorem dX0_causeOf_67 : decode cX0_causeOf 67 = .ok (.ifCond .eq 6, 3) := by decide +kernel
theorem dX0_causeOf_70 : decode cX0_causeOf 70 = .ok (.iload 4, 2) := by decide +kernel
theorem dX0_causeOf_72 : decode cX0_causeOf 72 = .ok (.istore_n 3, 1) := by decide +kernel
theorem dX0_causeOf_73 : decode cX0_causeOf 73 = .ok (.iinc 4 1, 3) := by decide +kernel
theorem dX0_causeOf_76 : decode cX0_causeOf 76 = .ok (.goto (-65), 3) := by decide +kernel
theorem dX0_causeOf_79 : decode cX0_causeOf 79 = .ok (.iload_n 3, 1) := by decide +kernel
theorem dX0_causeOf_80 : decode cX0_causeOf 80 = .ok (.iconst (-1), 1) := by decide +kernel
theorem dX0_causeOf_81 : decode cX0_causeOf 81 = .ok (.if_icmp .ne 7, 3) := by decide +kernel
theorem dX0_causeOf_84 : decode cX0_causeOf 84 = .ok (.iconst (-1), 1) := by decide +kernel
theorem dX0_causeOf_85 : decode cX0_causeOf 85 = .ok (.goto 8, 3) := by decide +kernel
theorem dX0_causeOf_88 : decode cX0_causeOf 88 = .ok (.aload_n 0, 1) := by decide +kernel
theorem dX0_causeOf_89 : decode cX0_causeOf 89 = .ok (.iload_n 3, 1) := by decide +kernel
theorem dX0_causeOf_90 : decode cX0_causeOf 90 = .ok (.invokevirtual 151, 3) := by decide +kernel
theorem dX0_causeOf_93 : decode cX0_causeOf 93 = .ok (.ireturn, 1) := by decide +kernel
theorem dX0_asSenders_0 : decode cX0_asSenders 0 = .ok (.iconst 0, 1) := by decide +kernel
theorem dX0_asSenders_1 : decode cX0_asSenders 1 = .ok (.istore_n 2, 1) := by decide +kernel
theorem dX0_asSenders_2 : decode cX0_asSenders 2 = .ok (.iconst 0, 1) := by decide +kernel
theorem dX0_asSenders_3 : decode cX0_asSenders 3 = .ok (.istore_n 3, 1) := by decide +kernel
theorem dX0_asSenders_4 : decode cX0_asSenders 4 = .ok (.iload_n 3, 1) := by decide +kernel
theorem dX0_asSenders_5 : decode cX0_asSenders 5 = .ok (.aload_n 0, 1) := by decide +kernel
theorem dX0_asSenders_6 : decode cX0_asSenders 6 = .ok (.getfield 124, 3) := by decide +kernel
theorem dX0_asSenders_9 : decode cX0_asSenders 9 = .ok (.if_icmp .ge 28, 3) := by decide +kernel
theorem dX0_asSenders_12 : decode cX0_asSenders 12 = .ok (.iload_n 1, 1) := by decide +kernel
theorem dX0_asSenders_13 : decode cX0_asSenders 13 = .ok (.iload_n 3, 1) := by decide +kernel
theorem dX0_asSenders_14 : decode cX0_asSenders 14 = .ok (.ishr, 1) := by decide +kernel
theorem dX0_asSenders_15 : decode cX0_asSenders 15 = .ok (.iconst 1, 1) := by decide +kernel
theorem dX0_asSenders_16 : decode cX0_asSenders 16 = .ok (.iand, 1) := by decide +kernel
theorem dX0_asSenders_17 : decode cX0_asSenders 17 = .ok (.ifCond .eq 14, 3) := by decide +kernel
theorem dX0_asSenders_20 : decode cX0_asSenders 20 = .ok (.iload_n 2, 1) := by decide +kernel
theorem dX0_asSenders_21 : decode cX0_asSenders 21 = .ok (.iconst 1, 1) := by decide +kernel
theorem dX0_asSenders_22 : decode cX0_asSenders 22 = .ok (.aload_n 0, 1) := by decide +kernel
theorem dX0_asSenders_23 : decode cX0_asSenders 23 = .ok (.getfield 30, 3) := by decide +kernel
theorem dX0_asSenders_26 : decode cX0_asSenders 26 = .ok (.iload_n 3, 1) := by decide +kernel
theorem dX0_asSenders_27 : decode cX0_asSenders 27 = .ok (.iaload, 1) := by decide +kernel
theorem dX0_asSenders_28 : decode cX0_asSenders 28 = .ok (.ishl, 1) := by decide +kernel
theorem dX0_asSenders_29 : decode cX0_asSenders 29 = .ok (.ior, 1) := by decide +kernel
theorem dX0_asSenders_30 : decode cX0_asSenders 30 = .ok (.istore_n 2, 1) := by decide +kernel
theorem dX0_asSenders_31 : decode cX0_asSenders 31 = .ok (.iinc 3 1, 3) := by decide +kernel
theorem dX0_asSenders_34 : decode cX0_asSenders 34 = .ok (.goto (-30), 3) := by decide +kernel
theorem dX0_asSenders_37 : decode cX0_asSenders 37 = .ok (.iload_n 2, 1) := by decide +kernel
theorem dX0_asSenders_38 : decode cX0_asSenders 38 = .ok (.ireturn, 1) := by decide +kernel
theorem dX1_init_0 : decode cX1_init 0 = .ok (.aload_n 0, 1) := by decide +kernel
theorem dX1_init_1 : decode cX1_init 1 = .ok (.invokespecial 1, 3) := by decide +kernel
theorem dX1_init_4 : decode cX1_init 4 = .ok (.aload_n 0, 1) := by decide +kernel
theorem dX1_init_5 : decode cX1_init 5 = .ok (.bipush 8, 2) := by decide +kernel
theorem dX1_init_7 : decode cX1_init 7 = .ok (.newarray .int, 2) := by decide +kernel
theorem dX1_init_9 : decode cX1_init 9 = .ok (.putfield 9, 3) := by decide +kernel
theorem dX1_init_12 : decode cX1_init 12 = .ok (.aload_n 0, 1) := by decide +kernel
theorem dX1_init_13 : decode cX1_init 13 = .ok (.bipush 8, 2) := by decide +kernel
theorem dX1_init_15 : decode cX1_init 15 = .ok (.newarray .int, 2) := by decide +kernel
theorem dX1_init_17 : decode cX1_init 17 = .ok (.putfield 13, 3) := by decide +kernel
theorem dX1_init_20 : decode cX1_init 20 = .ok (.return_, 1) := by decide +kernel
theorem dX1_add_0 : decode cX1_add 0 = .ok (.aload_n 0, 1) := by decide +kernel
theorem dX1_add_1 : decode cX1_add 1 = .ok (.getfield 9, 3) := by decide +kernel
theorem dX1_add_4 : decode cX1_add 4 = .ok (.aload_n 0, 1) := by decide +kernel
theorem dX1_add_5 : decode cX1_add 5 = .ok (.getfield 16, 3) := by decide +kernel
theorem dX1_add_8 : decode cX1_add 8 = .ok (.iload_n 1, 1) := by decide +kernel
theorem dX1_add_9 : decode cX1_add 9 = .ok (.iastore, 1) := by decide +kernel
theorem dX1_add_10 : decode cX1_add 10 = .ok (.aload_n 0, 1) := by decide +kernel
theorem dX1_add_11 : decode cX1_add 11 = .ok (.getfield 13, 3) := by decide +kernel
theorem dX1_add_14 : decode cX1_add 14 = .ok (.aload_n 0, 1) := by decide +kernel
theorem dX1_add_15 : decode cX1_add 15 = .ok (.getfield 16, 3) := by decide +kernel
theorem dX1_add_18 : decode cX1_add 18 = .ok (.iload_n 2, 1) := by decide +kernel
theorem dX1_add_19 : decode cX1_add 19 = .ok (.iastore, 1) := by decide +kernel
theorem dX1_add_20 : decode cX1_add 20 = .ok (.aload_n 0, 1) := by decide +kernel
theorem dX1_add_21 : decode cX1_add 21 = .ok (.dup, 1) := by decide +kernel
theorem dX1_add_22 : decode cX1_add 22 = .ok (.getfield 16, 3) := by decide +kernel
theorem dX1_add_25 : decode cX1_add 25 = .ok (.iconst 1, 1) := by decide +kernel
theorem dX1_add_26 : decode cX1_add 26 = .ok (.iadd, 1) := by decide +kernel
theorem dX1_add_27 : decode cX1_add 27 = .ok (.putfield 16, 3) := by decide +kernel
theorem dX1_add_30 : decode cX1_add 30 = .ok (.aload_n 0, 1) := by decide +kernel
theorem dX1_add_31 : decode cX1_add 31 = .ok (.getfield 16, 3) := by decide +kernel
theorem dX1_add_34 : decode cX1_add 34 = .ok (.iconst 1, 1) := by decide +kernel
theorem dX1_add_35 : decode cX1_add 35 = .ok (.isub, 1) := by decide +kernel
theorem dX1_add_36 : decode cX1_add 36 = .ok (.ireturn, 1) := by decide +kernel
theorem dX1_winners_0 : decode cX1_winners 0 = .ok (.iconst 0, 1) := by decide +kernel
theorem dX1_winners_1 : decode cX1_winners 1 = .ok (.istore_n 2, 1) := by decide +kernel
theorem dX1_winners_2 : decode cX1_winners 2 = .ok (.iconst 1, 1) := by decide +kernel
theorem dX1_winners_3 : decode cX1_winners 3 = .ok (.istore_n 3, 1) := by decide +kernel
theorem dX1_winners_4 : decode cX1_winners 4 = .ok (.iload_n 3, 1) := by decide +kernel
theorem dX1_winners_5 : decode cX1_winners 5 = .ok (.iconst 1, 1) := by decide +kernel
theorem dX1_winners_6 : decode cX1_winners 6 = .ok (.aload_n 0, 1) := by decide +kernel
theorem dX1_winners_7 : decode cX1_winners 7 = .ok (.getfield 16, 3) := by decide +kernel
theorem dX1_winners_10 : decode cX1_winners 10 = .ok (.ishl, 1) := by decide +kernel
theorem dX1_winners_11 : decode cX1_winners 11 = .ok (.if_icmp .ge 59, 3) := by decide +kernel
theorem dX1_winners_14 : decode cX1_winners 14 = .ok (.iload_n 3, 1) := by decide +kernel
theorem dX1_winners_15 : decode cX1_winners 15 = .ok (.iload_n 1, 1) := by decide +kernel
theorem dX1_winners_16 : decode cX1_winners 16 = .ok (.iand, 1) := by decide +kernel
theorem dX1_winners_17 : decode cX1_winners 17 = .ok (.ifCond .ne 47, 3) := by decide +kernel
theorem dX1_winners_20 : decode cX1_winners 20 = .ok (.aload_n 0, 1) := by decide +kernel
theorem dX1_winners_21 : decode cX1_winners 21 = .ok (.iload_n 3, 1) := by decide +kernel
theorem dX1_winners_22 : decode cX1_winners 22 = .ok (.invokevirtual 20, 3) := by decide +kernel
theorem dX1_winners_25 : decode cX1_winners 25 = .ok (.ifCond .eq 39, 3) := by decide +kernel
theorem dX1_winners_28 : decode cX1_winners 28 = .ok (.aload_n 0, 1) := by decide +kernel
theorem dX1_winners_29 : decode cX1_winners 29 = .ok (.iload_n 3, 1) := by decide +kernel
theorem dX1_winners_30 : decode cX1_winners 30 = .ok (.invokevirtual 24, 3) := by decide +kernel
theorem dX1_winners_33 : decode cX1_winners 33 = .ok (.aload_n 0, 1) := by decide +kernel
theorem dX1_winners_34 : decode cX1_winners 34 = .ok (.iload_n 2, 1) := by decide +kernel
theorem dX1_winners_35 : decode cX1_winners 35 = .ok (.invokevirtual 24, 3) := by decide +kernel
theorem dX1_winners_38 : decode cX1_winners 38 = .ok (.isub, 1) := by decide +kernel
theorem dX1_winners_39 : decode cX1_winners 39 = .ok (.istore 4, 2) := by decide +kernel
theorem dX1_winners_41 : decode cX1_winners 41 = .ok (.iload 4, 2) := by decide +kernel
theorem dX1_winners_43 : decode cX1_winners 43 = .ok (.ifCond .gt 19, 3) := by decide +kernel
theorem dX1_winners_46 : decode cX1_winners 46 = .ok (.iload 4, 2) := by decide +kernel
theorem dX1_winners_48 : decode cX1_winners 48 = .ok (.ifCond .ne 16, 3) := by decide +kernel
theorem dX1_winners_51 : decode cX1_winners 51 = .ok (.iload_n 3, 1) := by decide +kernel
theorem dX1_winners_52 : decode cX1_winners 52 = .ok (.invokestatic 28, 3) := by decide +kernel
theorem dX1_winners_55 : decode cX1_winners 55 = .ok (.iload_n 2, 1) := by decide +kernel
theorem dX1_winners_56 : decode cX1_winners 56 = .ok (.invokestatic 28, 3) := by decide +kernel
theorem dX1_winners_59 : decode cX1_winners 59 = .ok (.if_icmp .ge 5, 3) := by decide +kernel
theorem dX1_winners_62 : decode cX1_winners 62 = .ok (.iload_n 3, 1) := by decide +kernel
theorem dX1_winners_63 : decode cX1_winners 63 = .ok (.istore_n 2, 1) := by decide +kernel
theorem dX1_winners_64 : decode cX1_winners 64 = .ok (.iinc 3 1, 3) := by decide +kernel
theorem dX1_winners_67 : decode cX1_winners 67 = .ok (.goto (-63), 3) := by decide +kernel
theorem dX1_winners_70 : decode cX1_winners 70 = .ok (.iload_n 2, 1) := by decide +kernel
theorem dX1_winners_71 : decode cX1_winners 71 = .ok (.ireturn, 1) := by decide +kernel
theorem dX1_sharesNoHour_0 : decode cX1_sharesNoHour 0 = .ok (.iconst 0, 1) := by decide +kernel
theorem dX1_sharesNoHour_1 : decode cX1_sharesNoHour 1 = .ok (.istore_n 2, 1) := by decide +kernel
theorem dX1_sharesNoHour_2 : decode cX1_sharesNoHour 2 = .ok (.iconst 0, 1) := by decide +kernel
theorem dX1_sharesNoHour_3 : decode cX1_sharesNoHour 3 = .ok (.istore_n 3, 1) := by decide +kernel
theorem dX1_sharesNoHour_4 : decode cX1_sharesNoHour 4 = .ok (.iload_n 3, 1) := by decide +kernel
theorem dX1_sharesNoHour_5 : decode cX1_sharesNoHour 5 = .ok (.aload_n 0, 1) := by decide +kernel
theorem dX1_sharesNoHour_6 : decode cX1_sharesNoHour 6 = .ok (.getfield 16, 3) := by decide +kernel
theorem dX1_sharesNoHour_9 : decode cX1_sharesNoHour 9 = .ok (.if_icmp .ge 39, 3) := by decide +kernel
theorem dX1_sharesNoHour_12 : decode cX1_sharesNoHour 12 = .ok (.iload_n 1, 1) := by decide +kernel
theorem dX1_sharesNoHour_13 : decode cX1_sharesNoHour 13 = .ok (.iload_n 3, 1) := by decide +kernel
theorem dX1_sharesNoHour_14 : decode cX1_sharesNoHour 14 = .ok (.ishr, 1) := by decide +kernel
theorem dX1_sharesNoHour_15 : decode cX1_sharesNoHour 15 = .ok (.iconst 1, 1) := by decide +kernel
theorem dX1_sharesNoHour_16 : decode cX1_sharesNoHour 16 = .ok (.iand, 1) := by decide +kernel
theorem dX1_sharesNoHour_17 : decode cX1_sharesNoHour 17 = .ok (.ifCond .eq 25, 3) := by decide +kernel
theorem dX1_sharesNoHour_20 : decode cX1_sharesNoHour 20 = .ok (.iload_n 2, 1) := by decide +kernel
theorem dX1_sharesNoHour_21 : decode cX1_sharesNoHour 21 = .ok (.aload_n 0, 1) := by decide +kernel
theorem dX1_sharesNoHour_22 : decode cX1_sharesNoHour 22 = .ok (.getfield 9, 3) := by decide +kernel
theorem dX1_sharesNoHour_25 : decode cX1_sharesNoHour 25 = .ok (.iload_n 3, 1) := by decide +kernel
theorem dX1_sharesNoHour_26 : decode cX1_sharesNoHour 26 = .ok (.iaload, 1) := by decide +kernel
theorem dX1_sharesNoHour_27 : decode cX1_sharesNoHour 27 = .ok (.iand, 1) := by decide +kernel
theorem dX1_sharesNoHour_28 : decode cX1_sharesNoHour 28 = .ok (.ifCond .eq 5, 3) := by decide +kernel
theorem dX1_sharesNoHour_31 : decode cX1_sharesNoHour 31 = .ok (.iconst 0, 1) := by decide +kernel
theorem dX1_sharesNoHour_32 : decode cX1_sharesNoHour 32 = .ok (.ireturn, 1) := by decide +kernel
theorem dX1_sharesNoHour_33 : decode cX1_sharesNoHour 33 = .ok (.iload_n 2, 1) := by decide +kernel
theorem dX1_sharesNoHour_34 : decode cX1_sharesNoHour 34 = .ok (.aload_n 0, 1) := by decide +kernel
theorem dX1_sharesNoHour_35 : decode cX1_sharesNoHour 35 = .ok (.getfield 9, 3) := by decide +kernel
theorem dX1_sharesNoHour_38 : decode cX1_sharesNoHour 38 = .ok (.iload_n 3, 1) := by decide +kernel
theorem dX1_sharesNoHour_39 : decode cX1_sharesNoHour 39 = .ok (.iaload, 1) := by decide +kernel
theorem dX1_sharesNoHour_40 : decode cX1_sharesNoHour 40 = .ok (.ior, 1) := by decide +kernel
theorem dX1_sharesNoHour_41 : decode cX1_sharesNoHour 41 = .ok (.istore_n 2, 1) := by decide +kernel
theorem dX1_sharesNoHour_42 : decode cX1_sharesNoHour 42 = .ok (.iinc 3 1, 3) := by decide +kernel
theorem dX1_sharesNoHour_45 : decode cX1_sharesNoHour 45 = .ok (.goto (-41), 3) := by decide +kernel
theorem dX1_sharesNoHour_48 : decode cX1_sharesNoHour 48 = .ok (.iconst 1, 1) := by decide +kernel
theorem dX1_sharesNoHour_49 : decode cX1_sharesNoHour 49 = .ok (.ireturn, 1) := by decide +kernel
theorem dX1_priceOf_0 : decode cX1_priceOf 0 = .ok (.iconst 0, 1) := by decide +kernel
theorem dX1_priceOf_1 : decode cX1_priceOf 1 = .ok (.istore_n 2, 1) := by decide +kernel
theorem dX1_priceOf_2 : decode cX1_priceOf 2 = .ok (.iconst 0, 1) := by decide +kernel
theorem dX1_priceOf_3 : decode cX1_priceOf 3 = .ok (.istore_n 3, 1) := by decide +kernel
theorem dX1_priceOf_4 : decode cX1_priceOf 4 = .ok (.iload_n 3, 1) := by decide +kernel
theorem dX1_priceOf_5 : decode cX1_priceOf 5 = .ok (.aload_n 0, 1) := by decide +kernel
theorem dX1_priceOf_6 : decode cX1_priceOf 6 = .ok (.getfield 16, 3) := by decide +kernel
theorem dX1_priceOf_9 : decode cX1_priceOf 9 = .ok (.if_icmp .ge 26, 3) := by decide +kernel
theorem dX1_priceOf_12 : decode cX1_priceOf 12 = .ok (.iload_n 1, 1) := by decide +kernel
theorem dX1_priceOf_13 : decode cX1_priceOf 13 = .ok (.iload_n 3, 1) := by decide +kernel
theorem dX1_priceOf_14 : decode cX1_priceOf 14 = .ok (.ishr, 1) := by decide +kernel
theorem dX1_priceOf_15 : decode cX1_priceOf 15 = .ok (.iconst 1, 1) := by decide +kernel
theorem dX1_priceOf_16 : decode cX1_priceOf 16 = .ok (.iand, 1) := by decide +kernel
theorem dX1_priceOf_17 : decode cX1_priceOf 17 = .ok (.ifCond .eq 12, 3) := by decide +kernel
theorem dX1_priceOf_20 : decode cX1_priceOf 20 = .ok (.iload_n 2, 1) := by decide +kernel
theorem dX1_priceOf_21 : decode cX1_priceOf 21 = .ok (.aload_n 0, 1) := by decide +kernel
theorem dX1_priceOf_22 : decode cX1_priceOf 22 = .ok (.getfield 13, 3) := by decide +kernel
theorem dX1_priceOf_25 : decode cX1_priceOf 25 = .ok (.iload_n 3, 1) := by decide +kernel
theorem dX1_priceOf_26 : decode cX1_priceOf 26 = .ok (.iaload, 1) := by decide +kernel
theorem dX1_priceOf_27 : decode cX1_priceOf 27 = .ok (.iadd, 1) := by decide +kernel
theorem dX1_priceOf_28 : decode cX1_priceOf 28 = .ok (.istore_n 2, 1) := by decide +kernel
theorem dX1_priceOf_29 : decode cX1_priceOf 29 = .ok (.iinc 3 1, 3) := by decide +kernel
theorem dX1_priceOf_32 : decode cX1_priceOf 32 = .ok (.goto (-28), 3) := by decide +kernel
theorem dX1_priceOf_35 : decode cX1_priceOf 35 = .ok (.iload_n 2, 1) := by decide +kernel
theorem dX1_priceOf_36 : decode cX1_priceOf 36 = .ok (.ireturn, 1) := by decide +kernel
theorem dX1_dueOf_0 : decode cX1_dueOf 0 = .ok (.aload_n 0, 1) := by decide +kernel
theorem dX1_dueOf_1 : decode cX1_dueOf 1 = .ok (.iconst 0, 1) := by decide +kernel
theorem dX1_dueOf_2 : decode cX1_dueOf 2 = .ok (.invokevirtual 33, 3) := by decide +kernel
theorem dX1_dueOf_5 : decode cX1_dueOf 5 = .ok (.istore_n 2, 1) := by decide +kernel
theorem dX1_dueOf_6 : decode cX1_dueOf 6 = .ok (.iload_n 2, 1) := by decide +kernel
theorem dX1_dueOf_7 : decode cX1_dueOf 7 = .ok (.iload_n 1, 1) := by decide +kernel
theorem dX1_dueOf_8 : decode cX1_dueOf 8 = .ok (.ishr, 1) := by decide +kernel
theorem dX1_dueOf_9 : decode cX1_dueOf 9 = .ok (.iconst 1, 1) := by decide +kernel
theorem dX1_dueOf_10 : decode cX1_dueOf 10 = .ok (.iand, 1) := by decide +kernel
theorem dX1_dueOf_11 : decode cX1_dueOf 11 = .ok (.ifCond .ne 5, 3) := by decide +kernel
theorem dX1_dueOf_14 : decode cX1_dueOf 14 = .ok (.iconst 0, 1) := by decide +kernel
theorem dX1_dueOf_15 : decode cX1_dueOf 15 = .ok (.ireturn, 1) := by decide +kernel
theorem dX1_dueOf_16 : decode cX1_dueOf 16 = .ok (.aload_n 0, 1) := by decide +kernel
theorem dX1_dueOf_17 : decode cX1_dueOf 17 = .ok (.aload_n 0, 1) := by decide +kernel
theorem dX1_dueOf_18 : decode cX1_dueOf 18 = .ok (.iconst 1, 1) := by decide +kernel
theorem dX1_dueOf_19 : decode cX1_dueOf 19 = .ok (.iload_n 1, 1) := by decide +kernel
theorem dX1_dueOf_20 : decode cX1_dueOf 20 = .ok (.ishl, 1) := by decide +kernel
theorem dX1_dueOf_21 : decode cX1_dueOf 21 = .ok (.invokevirtual 33, 3) := by decide +kernel
theorem dX1_dueOf_24 : decode cX1_dueOf 24 = .ok (.invokevirtual 24, 3) := by decide +kernel
theorem dX1_dueOf_27 : decode cX1_dueOf 27 = .ok (.aload_n 0, 1) := by decide +kernel
theorem dX1_dueOf_28 : decode cX1_dueOf 28 = .ok (.iload_n 2, 1) := by decide +kernel
theorem dX1_dueOf_29 : decode cX1_dueOf 29 = .ok (.iconst 1, 1) := by decide +kernel
theorem dX1_dueOf_30 : decode cX1_dueOf 30 = .ok (.iload_n 1, 1) := by decide +kernel
theorem dX1_dueOf_31 : decode cX1_dueOf 31 = .ok (.ishl, 1) := by decide +kernel
theorem dX1_dueOf_32 : decode cX1_dueOf 32 = .ok (.iconst (-1), 1) := by decide +kernel
theorem dX1_dueOf_33 : decode cX1_dueOf 33 = .ok (.ixor, 1) := by decide +kernel
theorem dX1_dueOf_34 : decode cX1_dueOf 34 = .ok (.iand, 1) := by decide +kernel
theorem dX1_dueOf_35 : decode cX1_dueOf 35 = .ok (.invokevirtual 24, 3) := by decide +kernel
theorem dX1_dueOf_38 : decode cX1_dueOf 38 = .ok (.isub, 1) := by decide +kernel
theorem dX1_dueOf_39 : decode cX1_dueOf 39 = .ok (.ireturn, 1) := by decide +kernel
theorem dX2_init_0 : decode cX2_init 0 = .ok (.aload_n 0, 1) := by decide +kernel
theorem dX2_init_1 : decode cX2_init 1 = .ok (.invokespecial 3, 3) := by decide +kernel
theorem dX2_init_4 : decode cX2_init 4 = .ok (.aload_n 0, 1) := by decide +kernel
theorem dX2_init_5 : decode cX2_init 5 = .ok (.aload_n 1, 1) := by decide +kernel
theorem dX2_init_6 : decode cX2_init 6 = .ok (.putfield 9, 3) := by decide +kernel
theorem dX2_init_9 : decode cX2_init 9 = .ok (.aload_n 0, 1) := by decide +kernel
theorem dX2_init_10 : decode cX2_init 10 = .ok (.aload_n 2, 1) := by decide +kernel
theorem dX2_init_11 : decode cX2_init 11 = .ok (.putfield 15, 3) := by decide +kernel
theorem dX2_init_14 : decode cX2_init 14 = .ok (.aload_n 0, 1) := by decide +kernel
theorem dX2_init_15 : decode cX2_init 15 = .ok (.aload_n 3, 1) := by decide +kernel
theorem dX2_init_16 : decode cX2_init 16 = .ok (.putfield 19, 3) := by decide +kernel
theorem dX2_init_19 : decode cX2_init 19 = .ok (.aload_n 0, 1) := by decide +kernel
theorem dX2_init_20 : decode cX2_init 20 = .ok (.bipush 10, 2) := by decide +kernel
theorem dX2_init_22 : decode cX2_init 22 = .ok (.putfield 22, 3) := by decide +kernel
theorem dX2_init_25 : decode cX2_init 25 = .ok (.aload_n 0, 1) := by decide +kernel
theorem dX2_init_26 : decode cX2_init 26 = .ok (.bipush 10, 2) := by decide +kernel
theorem dX2_init_28 : decode cX2_init 28 = .ok (.putfield 26, 3) := by decide +kernel
theorem dX2_init_31 : decode cX2_init 31 = .ok (.return_, 1) := by decide +kernel
theorem dX2_size_0 : decode cX2_size 0 = .ok (.aload_n 0, 1) := by decide +kernel
theorem dX2_size_1 : decode cX2_size 1 = .ok (.getfield 22, 3) := by decide +kernel
theorem dX2_size_4 : decode cX2_size 4 = .ok (.aload_n 0, 1) := by decide +kernel
theorem dX2_size_5 : decode cX2_size 5 = .ok (.getfield 26, 3) := by decide +kernel
theorem dX2_size_8 : decode cX2_size 8 = .ok (.imul, 1) := by decide +kernel
theorem dX2_size_9 : decode cX2_size 9 = .ok (.ireturn, 1) := by decide +kernel
theorem dX2_isCell_0 : decode cX2_isCell 0 = .ok (.lload_n 1, 1) := by decide +kernel
theorem dX2_isCell_1 : decode cX2_isCell 1 = .ok (.lconst 0, 1) := by decide +kernel
theorem dX2_isCell_2 : decode cX2_isCell 2 = .ok (.lcmp, 1) := by decide +kernel
theorem dX2_isCell_3 : decode cX2_isCell 3 = .ok (.ifCond .lt 17, 3) := by decide +kernel
theorem dX2_isCell_6 : decode cX2_isCell 6 = .ok (.lload_n 1, 1) := by decide +kernel
theorem dX2_isCell_7 : decode cX2_isCell 7 = .ok (.aload_n 0, 1) := by decide +kernel
theorem dX2_isCell_8 : decode cX2_isCell 8 = .ok (.invokevirtual 29, 3) := by decide +kernel
theorem dX2_isCell_11 : decode cX2_isCell 11 = .ok (.i2l, 1) := by decide +kernel
theorem dX2_isCell_12 : decode cX2_isCell 12 = .ok (.lcmp, 1) := by decide +kernel
theorem dX2_isCell_13 : decode cX2_isCell 13 = .ok (.ifCond .ge 7, 3) := by decide +kernel
theorem dX2_isCell_16 : decode cX2_isCell 16 = .ok (.iconst 1, 1) := by decide +kernel
theorem dX2_isCell_17 : decode cX2_isCell 17 = .ok (.goto 4, 3) := by decide +kernel
theorem dX2_isCell_20 : decode cX2_isCell 20 = .ok (.iconst 0, 1) := by decide +kernel
theorem dX2_isCell_21 : decode cX2_isCell 21 = .ok (.ireturn, 1) := by decide +kernel
theorem dX2_hillOf_0 : decode cX2_hillOf 0 = .ok (.aload_n 0, 1) := by decide +kernel
theorem dX2_hillOf_1 : decode cX2_hillOf 1 = .ok (.getfield 15, 3) := by decide +kernel
theorem dX2_hillOf_4 : decode cX2_hillOf 4 = .ok (.iload_n 1, 1) := by decide +kernel
theorem dX2_hillOf_5 : decode cX2_hillOf 5 = .ok (.bipush 99, 2) := by decide +kernel
theorem dX2_hillOf_7 : decode cX2_hillOf 7 = .ok (.invokestatic 33, 3) := by decide +kernel
theorem dX2_hillOf_10 : decode cX2_hillOf 10 = .ok (.ireturn, 1) := by decide +kernel
theorem dX2_woodOf_0 : decode cX2_woodOf 0 = .ok (.aload_n 0, 1) := by decide +kernel
theorem dX2_woodOf_1 : decode cX2_woodOf 1 = .ok (.getfield 19, 3) := by decide +kernel
theorem dX2_woodOf_4 : decode cX2_woodOf 4 = .ok (.iload_n 1, 1) := by decide +kernel
theorem dX2_woodOf_5 : decode cX2_woodOf 5 = .ok (.bipush 9, 2) := by decide +kernel
theorem dX2_woodOf_7 : decode cX2_woodOf 7 = .ok (.invokestatic 33, 3) := by decide +kernel
theorem dX2_woodOf_10 : decode cX2_woodOf 10 = .ok (.ireturn, 1) := by decide +kernel
theorem dX2_known_0 : decode cX2_known 0 = .ok (.aload_n 0, 1) := by decide +kernel
theorem dX2_known_1 : decode cX2_known 1 = .ok (.getfield 37, 3) := by decide +kernel
theorem dX2_known_4 : decode cX2_known 4 = .ok (.ifCond .ne 15, 3) := by decide +kernel
theorem dX2_known_7 : decode cX2_known 7 = .ok (.iload_n 1, 1) := by decide +kernel
theorem dX2_known_8 : decode cX2_known 8 = .ok (.ifCond .lt 11, 3) := by decide +kernel
theorem dX2_known_11 : decode cX2_known 11 = .ok (.iload_n 1, 1) := by decide +kernel
theorem dX2_known_12 : decode cX2_known 12 = .ok (.aload_n 0, 1) := by decide +kernel
theorem dX2_known_13 : decode cX2_known 13 = .ok (.getfield 43, 3) := by decide +kernel
theorem dX2_known_16 : decode cX2_known 16 = .ok (.if_icmp .lt 5, 3) := by decide +kernel
theorem dX2_known_19 : decode cX2_known 19 = .ok (.iconst (-1), 1) := by decide +kernel
theorem dX2_known_20 : decode cX2_known 20 = .ok (.ireturn, 1) := by decide +kernel
theorem dX2_known_21 : decode cX2_known 21 = .ok (.aload_n 0, 1) := by decide +kernel
theorem dX2_known_22 : decode cX2_known 22 = .ok (.getfield 45, 3) := by decide +kernel
theorem dX2_known_25 : decode cX2_known 25 = .ok (.iload_n 1, 1) := by decide +kernel
theorem dX2_known_26 : decode cX2_known 26 = .ok (.laload, 1) := by decide +kernel
theorem dX2_known_27 : decode cX2_known 27 = .ok (.lstore_n 3, 1) := by decide +kernel
theorem dX2_known_28 : decode cX2_known 28 = .ok (.lload_n 3, 1) := by decide +kernel
theorem dX2_known_29 : decode cX2_known 29 = .ok (.lconst 0, 1) := by decide +kernel
theorem dX2_known_30 : decode cX2_known 30 = .ok (.lcmp, 1) := by decide +kernel
theorem dX2_known_31 : decode cX2_known 31 = .ok (.ifCond .lt 15, 3) := by decide +kernel
theorem dX2_known_34 : decode cX2_known 34 = .ok (.lload_n 3, 1) := by decide +kernel
theorem dX2_known_35 : decode cX2_known 35 = .ok (.iload_n 2, 1) := by decide +kernel
theorem dX2_known_36 : decode cX2_known 36 = .ok (.i2l, 1) := by decide +kernel
theorem dX2_known_37 : decode cX2_known 37 = .ok (.lcmp, 1) := by decide +kernel
theorem dX2_known_38 : decode cX2_known 38 = .ok (.ifCond .gt 8, 3) := by decide +kernel
theorem dX2_known_41 : decode cX2_known 41 = .ok (.lload_n 3, 1) := by decide +kernel
theorem dX2_known_42 : decode cX2_known 42 = .ok (.l2i, 1) := by decide +kernel
theorem dX2_known_43 : decode cX2_known 43 = .ok (.goto 4, 3) := by decide +kernel
theorem dX2_known_46 : decode cX2_known 46 = .ok (.iconst (-1), 1) := by decide +kernel
theorem dX2_known_47 : decode cX2_known 47 = .ok (.ireturn, 1) := by decide +kernel
theorem dX2_squaredWay_0 : decode cX2_squaredWay 0 = .ok (.iload_n 2, 1) := by decide +kernel
theorem dX2_squaredWay_1 : decode cX2_squaredWay 1 = .ok (.aload_n 0, 1) := by decide +kernel
theorem dX2_squaredWay_2 : decode cX2_squaredWay 2 = .ok (.getfield 22, 3) := by decide +kernel
theorem dX2_squaredWay_5 : decode cX2_squaredWay 5 = .ok (.irem, 1) := by decide +kernel
theorem dX2_squaredWay_6 : decode cX2_squaredWay 6 = .ok (.iload_n 1, 1) := by decide +kernel
theorem dX2_squaredWay_7 : decode cX2_squaredWay 7 = .ok (.aload_n 0, 1) := by decide +kernel
theorem dX2_squaredWay_8 : decode cX2_squaredWay 8 = .ok (.getfield 22, 3) := by decide +kernel
theorem dX2_squaredWay_11 : decode cX2_squaredWay 11 = .ok (.irem, 1) := by decide +kernel
theorem dX2_squaredWay_12 : decode cX2_squaredWay 12 = .ok (.isub, 1) := by decide +kernel
theorem dX2_squaredWay_13 : decode cX2_squaredWay 13 = .ok (.istore_n 3, 1) := by decide +kernel
theorem dX2_squaredWay_14 : decode cX2_squaredWay 14 = .ok (.iload_n 2, 1) := by decide +kernel
theorem dX2_squaredWay_15 : decode cX2_squaredWay 15 = .ok (.aload_n 0, 1) := by decide +kernel
theorem dX2_squaredWay_16 : decode cX2_squaredWay 16 = .ok (.getfield 22, 3) := by decide +kernel
theorem dX2_squaredWay_19 : decode cX2_squaredWay 19 = .ok (.idiv, 1) := by decide +kernel
theorem dX2_squaredWay_20 : decode cX2_squaredWay 20 = .ok (.iload_n 1, 1) := by decide +kernel
theorem dX2_squaredWay_21 : decode cX2_squaredWay 21 = .ok (.aload_n 0, 1) := by decide +kernel
theorem dX2_squaredWay_22 : decode cX2_squaredWay 22 = .ok (.getfield 22, 3) := by decide +kernel
theorem dX2_squaredWay_25 : decode cX2_squaredWay 25 = .ok (.idiv, 1) := by decide +kernel
theorem dX2_squaredWay_26 : decode cX2_squaredWay 26 = .ok (.isub, 1) := by decide +kernel
theorem dX2_squaredWay_27 : decode cX2_squaredWay 27 = .ok (.istore 4, 2) := by decide +kernel
theorem dX2_squaredWay_29 : decode cX2_squaredWay 29 = .ok (.iload_n 3, 1) := by decide +kernel
theorem dX2_squaredWay_30 : decode cX2_squaredWay 30 = .ok (.iload_n 3, 1) := by decide +kernel
theorem dX2_squaredWay_31 : decode cX2_squaredWay 31 = .ok (.imul, 1) := by decide +kernel
theorem dX2_squaredWay_32 : decode cX2_squaredWay 32 = .ok (.iload 4, 2) := by decide +kernel
theorem dX2_squaredWay_34 : decode cX2_squaredWay 34 = .ok (.iload 4, 2) := by decide +kernel
theorem dX2_squaredWay_36 : decode cX2_squaredWay 36 = .ok (.imul, 1) := by decide +kernel
theorem dX2_squaredWay_37 : decode cX2_squaredWay 37 = .ok (.iadd, 1) := by decide +kernel
theorem dX2_squaredWay_38 : decode cX2_squaredWay 38 = .ok (.ireturn, 1) := by decide +kernel
theorem dX2_lossBetween_0 : decode cX2_lossBetween 0 = .ok (.iload_n 1, 1) := by decide +kernel
theorem dX2_lossBetween_1 : decode cX2_lossBetween 1 = .ok (.aload_n 0, 1) := by decide +kernel
theorem dX2_lossBetween_2 : decode cX2_lossBetween 2 = .ok (.getfield 22, 3) := by decide +kernel
theorem dX2_lossBetween_5 : decode cX2_lossBetween 5 = .ok (.irem, 1) := by decide +kernel
theorem dX2_lossBetween_6 : decode cX2_lossBetween 6 = .ok (.istore 6, 2) := by decide +kernel
theorem dX2_lossBetween_8 : decode cX2_lossBetween 8 = .ok (.iload_n 1, 1) := by decide +kernel
theorem dX2_lossBetween_9 : decode cX2_lossBetween 9 = .ok (.aload_n 0, 1) := by decide +kernel
theorem dX2_lossBetween_10 : decode cX2_lossBetween 10 = .ok (.getfield 22, 3) := by decide +kernel
theorem dX2_lossBetween_13 : decode cX2_lossBetween 13 = .ok (.idiv, 1) := by decide +kernel
theorem dX2_lossBetween_14 : decode cX2_lossBetween 14 = .ok (.istore 7, 2) := by decide +kernel
theorem dX2_lossBetween_16 : decode cX2_lossBetween 16 = .ok (.iload_n 3, 1) := by decide +kernel
theorem dX2_lossBetween_17 : decode cX2_lossBetween 17 = .ok (.aload_n 0, 1) := by decide +kernel
theorem dX2_lossBetween_18 : decode cX2_lossBetween 18 = .ok (.getfield 22, 3) := by decide +kernel
theorem dX2_lossBetween_21 : decode cX2_lossBetween 21 = .ok (.irem, 1) := by decide +kernel
theorem dX2_lossBetween_22 : decode cX2_lossBetween 22 = .ok (.iload 6, 2) := by decide +kernel
theorem dX2_lossBetween_24 : decode cX2_lossBetween 24 = .ok (.isub, 1) := by decide +kernel
theorem dX2_lossBetween_25 : decode cX2_lossBetween 25 = .ok (.istore 8, 2) := by decide +kernel
theorem dX2_lossBetween_27 : decode cX2_lossBetween 27 = .ok (.iload_n 3, 1) := by decide +kernel
theorem dX2_lossBetween_28 : decode cX2_lossBetween 28 = .ok (.aload_n 0, 1) := by decide +kernel
theorem dX2_lossBetween_29 : decode cX2_lossBetween 29 = .ok (.getfield 22, 3) := by decide +kernel
theorem dX2_lossBetween_32 : decode cX2_lossBetween 32 = .ok (.idiv, 1) := by decide +kernel
theorem dX2_lossBetween_33 : decode cX2_lossBetween 33 = .ok (.iload 7, 2) := by decide +kernel
theorem dX2_lossBetween_35 : decode cX2_lossBetween 35 = .ok (.isub, 1) := by decide +kernel
theorem dX2_lossBetween_36 : decode cX2_lossBetween 36 = .ok (.istore 9, 2) := by decide +kernel
theorem dX2_lossBetween_38 : decode cX2_lossBetween 38 = .ok (.iload 8, 2) := by decide +kernel
theorem dX2_lossBetween_40 : decode cX2_lossBetween 40 = .ok (.invokestatic 49, 3) := by decide +kernel
theorem dX2_lossBetween_43 : decode cX2_lossBetween 43 = .ok (.iload 9, 2) := by decide +kernel
theorem dX2_lossBetween_45 : decode cX2_lossBetween 45 = .ok (.invokestatic 49, 3) := by decide +kernel
theorem dX2_lossBetween_48 : decode cX2_lossBetween 48 = .ok (.invokestatic 55, 3) := by decide +kernel
theorem dX2_lossBetween_51 : decode cX2_lossBetween 51 = .ok (.istore 10, 2) := by decide +kernel
theorem dX2_lossBetween_53 : decode cX2_lossBetween 53 = .ok (.iconst 0, 1) := by decide +kernel
theorem dX2_lossBetween_54 : decode cX2_lossBetween 54 = .ok (.aload_n 0, 1) := by decide +kernel
theorem dX2_lossBetween_55 : decode cX2_lossBetween 55 = .ok (.getfield 15, 3) := by decide +kernel
theorem dX2_lossBetween_58 : decode cX2_lossBetween 58 = .ok (.iload_n 1, 1) := by decide +kernel
theorem dX2_lossBetween_59 : decode cX2_lossBetween 59 = .ok (.bipush 99, 2) := by decide +kernel
theorem dX2_lossBetween_61 : decode cX2_lossBetween 61 = .ok (.invokestatic 33, 3) := by decide +kernel
theorem dX2_lossBetween_64 : decode cX2_lossBetween 64 = .ok (.invokestatic 55, 3) := by decide +kernel
theorem dX2_lossBetween_67 : decode cX2_lossBetween 67 = .ok (.iload_n 2, 1) := by decide +kernel
theorem dX2_lossBetween_68 : decode cX2_lossBetween 68 = .ok (.iadd, 1) := by decide +kernel
theorem dX2_lossBetween_69 : decode cX2_lossBetween 69 = .ok (.istore 11, 2) := by decide +kernel
theorem dX2_lossBetween_71 : decode cX2_lossBetween 71 = .ok (.iconst 0, 1) := by decide +kernel
theorem dX2_lossBetween_72 : decode cX2_lossBetween 72 = .ok (.aload_n 0, 1) := by decide +kernel
theorem dX2_lossBetween_73 : decode cX2_lossBetween 73 = .ok (.getfield 15, 3) := by decide +kernel
theorem dX2_lossBetween_76 : decode cX2_lossBetween 76 = .ok (.iload_n 3, 1) := by decide +kernel
theorem dX2_lossBetween_77 : decode cX2_lossBetween 77 = .ok (.bipush 99, 2) := by decide +kernel
theorem dX2_lossBetween_79 : decode cX2_lossBetween 79 = .ok (.invokestatic 33, 3) := by decide +kernel
theorem dX2_lossBetween_82 : decode cX2_lossBetween 82 = .ok (.invokestatic 55, 3) := by decide +kernel
theorem dX2_lossBetween_85 : decode cX2_lossBetween 85 = .ok (.iload 4, 2) := by decide +kernel
theorem dX2_lossBetween_87 : decode cX2_lossBetween 87 = .ok (.iadd, 1) := by decide +kernel
theorem dX2_lossBetween_88 : decode cX2_lossBetween 88 = .ok (.iload 11, 2) := by decide +kernel
theorem dX2_lossBetween_90 : decode cX2_lossBetween 90 = .ok (.isub, 1) := by decide +kernel
theorem dX2_lossBetween_91 : decode cX2_lossBetween 91 = .ok (.istore 12, 2) := by decide +kernel
theorem dX2_lossBetween_93 : decode cX2_lossBetween 93 = .ok (.iconst 1, 1) := by decide +kernel
theorem dX2_lossBetween_94 : decode cX2_lossBetween 94 = .ok (.iload 8, 2) := by decide +kernel
theorem dX2_lossBetween_96 : decode cX2_lossBetween 96 = .ok (.iload 8, 2) := by decide +kernel
theorem dX2_lossBetween_98 : decode cX2_lossBetween 98 = .ok (.imul, 1) := by decide +kernel
theorem dX2_lossBetween_99 : decode cX2_lossBetween 99 = .ok (.iadd, 1) := by decide +kernel
theorem dX2_lossBetween_100 : decode cX2_lossBetween 100 = .ok (.iload 9, 2) := by decide +kernel
theorem dX2_lossBetween_102 : decode cX2_lossBetween 102 = .ok (.iload 9, 2) := by decide +kernel
theorem dX2_lossBetween_104 : decode cX2_lossBetween 104 = .ok (.imul, 1) := by decide +kernel
theorem dX2_lossBetween_105 : decode cX2_lossBetween 105 = .ok (.iadd, 1) := by decide +kernel
theorem dX2_lossBetween_106 : decode cX2_lossBetween 106 = .ok (.istore 13, 2) := by decide +kernel
theorem dX2_lossBetween_108 : decode cX2_lossBetween 108 = .ok (.iconst 1, 1) := by decide +kernel
theorem dX2_lossBetween_109 : decode cX2_lossBetween 109 = .ok (.istore 14, 2) := by decide +kernel
theorem dX2_lossBetween_111 : decode cX2_lossBetween 111 = .ok (.iload 14, 2) := by decide +kernel
theorem dX2_lossBetween_113 : decode cX2_lossBetween 113 = .ok (.iload 10, 2) := by decide +kernel
theorem dX2_lossBetween_115 : decode cX2_lossBetween 115 = .ok (.if_icmp .ge 175, 3) := by decide +kernel
theorem dX2_lossBetween_118 : decode cX2_lossBetween 118 = .ok (.iload 7, 2) := by decide +kernel
theorem dX2_lossBetween_120 : decode cX2_lossBetween 120 = .ok (.iload 14, 2) := by decide +kernel
theorem dX2_lossBetween_122 : decode cX2_lossBetween 122 = .ok (.iload 9, 2) := by decide +kernel
theorem dX2_lossBetween_124 : decode cX2_lossBetween 124 = .ok (.imul, 1) := by decide +kernel
theorem dX2_lossBetween_125 : decode cX2_lossBetween 125 = .ok (.iload 10, 2) := by decide +kernel
theorem dX2_lossBetween_127 : decode cX2_lossBetween 127 = .ok (.invokestatic 59, 3) := by decide +kernel
theorem dX2_lossBetween_130 : decode cX2_lossBetween 130 = .ok (.iadd, 1) := by decide +kernel
theorem dX2_lossBetween_131 : decode cX2_lossBetween 131 = .ok (.aload_n 0, 1) := by decide +kernel
theorem dX2_lossBetween_132 : decode cX2_lossBetween 132 = .ok (.getfield 22, 3) := by decide +kernel
theorem dX2_lossBetween_135 : decode cX2_lossBetween 135 = .ok (.imul, 1) := by decide +kernel
theorem dX2_lossBetween_136 : decode cX2_lossBetween 136 = .ok (.iload 6, 2) := by decide +kernel
theorem dX2_lossBetween_138 : decode cX2_lossBetween 138 = .ok (.iadd, 1) := by decide +kernel
theorem dX2_lossBetween_139 : decode cX2_lossBetween 139 = .ok (.iload 14, 2) := by decide +kernel
theorem dX2_lossBetween_141 : decode cX2_lossBetween 141 = .ok (.iload 8, 2) := by decide +kernel
theorem dX2_lossBetween_143 : decode cX2_lossBetween 143 = .ok (.imul, 1) := by decide +kernel
theorem dX2_lossBetween_144 : decode cX2_lossBetween 144 = .ok (.iload 10, 2) := by decide +kernel
theorem dX2_lossBetween_146 : decode cX2_lossBetween 146 = .ok (.invokestatic 59, 3) := by decide +kernel
theorem dX2_lossBetween_149 : decode cX2_lossBetween 149 = .ok (.iadd, 1) := by decide +kernel
theorem dX2_lossBetween_150 : decode cX2_lossBetween 150 = .ok (.istore 15, 2) := by decide +kernel
theorem dX2_lossBetween_152 : decode cX2_lossBetween 152 = .ok (.aload_n 0, 1) := by decide +kernel
theorem dX2_lossBetween_153 : decode cX2_lossBetween 153 = .ok (.getfield 19, 3) := by decide +kernel
theorem dX2_lossBetween_156 : decode cX2_lossBetween 156 = .ok (.iload 15, 2) := by decide +kernel
theorem dX2_lossBetween_158 : decode cX2_lossBetween 158 = .ok (.bipush 9, 2) := by decide +kernel
theorem dX2_lossBetween_160 : decode cX2_lossBetween 160 = .ok (.invokestatic 33, 3) := by decide +kernel
theorem dX2_lossBetween_163 : decode cX2_lossBetween 163 = .ok (.istore 16, 2) := by decide +kernel
theorem dX2_lossBetween_165 : decode cX2_lossBetween 165 = .ok (.aload_n 0, 1) := by decide +kernel
theorem dX2_lossBetween_166 : decode cX2_lossBetween 166 = .ok (.getfield 15, 3) := by decide +kernel
theorem dX2_lossBetween_169 : decode cX2_lossBetween 169 = .ok (.iload 15, 2) := by decide +kernel
theorem dX2_lossBetween_171 : decode cX2_lossBetween 171 = .ok (.bipush 99, 2) := by decide +kernel
theorem dX2_lossBetween_173 : decode cX2_lossBetween 173 = .ok (.invokestatic 33, 3) := by decide +kernel
theorem dX2_lossBetween_176 : decode cX2_lossBetween 176 = .ok (.istore 17, 2) := by decide +kernel
theorem dX2_lossBetween_178 : decode cX2_lossBetween 178 = .ok (.iload 16, 2) := by decide +kernel
theorem dX2_lossBetween_180 : decode cX2_lossBetween 180 = .ok (.iconst (-1), 1) := by decide +kernel
theorem dX2_lossBetween_181 : decode cX2_lossBetween 181 = .ok (.if_icmp .eq 8, 3) := by decide +kernel
theorem dX2_lossBetween_184 : decode cX2_lossBetween 184 = .ok (.iload 16, 2) := by decide +kernel
theorem dX2_lossBetween_186 : decode cX2_lossBetween 186 = .ok (.goto 14, 3) := by decide +kernel
theorem dX2_lossBetween_189 : decode cX2_lossBetween 189 = .ok (.iload 5, 2) := by decide +kernel
theorem dX2_lossBetween_191 : decode cX2_lossBetween 191 = .ok (.ifCond .ne 7, 3) := by decide +kernel
theorem dX2_lossBetween_194 : decode cX2_lossBetween 194 = .ok (.iconst 0, 1) := by decide +kernel
theorem dX2_lossBetween_195 : decode cX2_lossBetween 195 = .ok (.goto 5, 3) := by decide +kernel
theorem dX2_lossBetween_198 : decode cX2_lossBetween 198 = .ok (.bipush 9, 2) := by decide +kernel
theorem dX2_lossBetween_200 : decode cX2_lossBetween 200 = .ok (.istore 16, 2) := by decide +kernel
theorem dX2_lossBetween_202 : decode cX2_lossBetween 202 = .ok (.iload 17, 2) := by decide +kernel
theorem dX2_lossBetween_204 : decode cX2_lossBetween 204 = .ok (.iconst (-1), 1) := by decide +kernel
theorem dX2_lossBetween_205 : decode cX2_lossBetween 205 = .ok (.if_icmp .eq 8, 3) := by decide +kernel
theorem dX2_lossBetween_208 : decode cX2_lossBetween 208 = .ok (.iload 17, 2) := by decide +kernel
theorem dX2_lossBetween_210 : decode cX2_lossBetween 210 = .ok (.goto 14, 3) := by decide +kernel
theorem dX2_lossBetween_213 : decode cX2_lossBetween 213 = .ok (.iload 5, 2) := by decide +kernel
theorem dX2_lossBetween_215 : decode cX2_lossBetween 215 = .ok (.ifCond .ne 7, 3) := by decide +kernel
theorem dX2_lossBetween_218 : decode cX2_lossBetween 218 = .ok (.iconst 0, 1) := by decide +kernel
theorem dX2_lossBetween_219 : decode cX2_lossBetween 219 = .ok (.goto 5, 3) := by decide +kernel
theorem dX2_lossBetween_222 : decode cX2_lossBetween 222 = .ok (.bipush 99, 2) := by decide +kernel
theorem dX2_lossBetween_224 : decode cX2_lossBetween 224 = .ok (.istore 17, 2) := by decide +kernel
theorem dX2_lossBetween_226 : decode cX2_lossBetween 226 = .ok (.iload 10, 2) := by decide +kernel
theorem dX2_lossBetween_228 : decode cX2_lossBetween 228 = .ok (.iload 17, 2) := by decide +kernel
theorem dX2_lossBetween_230 : decode cX2_lossBetween 230 = .ok (.iload 11, 2) := by decide +kernel
theorem dX2_lossBetween_232 : decode cX2_lossBetween 232 = .ok (.isub, 1) := by decide +kernel
theorem dX2_lossBetween_233 : decode cX2_lossBetween 233 = .ok (.imul, 1) := by decide +kernel
theorem dX2_lossBetween_234 : decode cX2_lossBetween 234 = .ok (.iload 14, 2) := by decide +kernel
theorem dX2_lossBetween_236 : decode cX2_lossBetween 236 = .ok (.iload 12, 2) := by decide +kernel
theorem dX2_lossBetween_238 : decode cX2_lossBetween 238 = .ok (.imul, 1) := by decide +kernel
theorem dX2_lossBetween_239 : decode cX2_lossBetween 239 = .ok (.isub, 1) := by decide +kernel
theorem dX2_lossBetween_240 : decode cX2_lossBetween 240 = .ok (.istore 18, 2) := by decide +kernel
theorem dX2_lossBetween_242 : decode cX2_lossBetween 242 = .ok (.iload 13, 2) := by decide +kernel
theorem dX2_lossBetween_244 : decode cX2_lossBetween 244 = .ok (.aload_n 0, 1) := by decide +kernel
theorem dX2_lossBetween_245 : decode cX2_lossBetween 245 = .ok (.getfield 9, 3) := by decide +kernel
theorem dX2_lossBetween_248 : decode cX2_lossBetween 248 = .ok (.getfield 62, 3) := by decide +kernel
theorem dX2_lossBetween_251 : decode cX2_lossBetween 251 = .ok (.iconst 0, 1) := by decide +kernel
theorem dX2_lossBetween_252 : decode cX2_lossBetween 252 = .ok (.iaload, 1) := by decide +kernel
theorem dX2_lossBetween_253 : decode cX2_lossBetween 253 = .ok (.iload 16, 2) := by decide +kernel
theorem dX2_lossBetween_255 : decode cX2_lossBetween 255 = .ok (.imul, 1) := by decide +kernel
theorem dX2_lossBetween_256 : decode cX2_lossBetween 256 = .ok (.iadd, 1) := by decide +kernel
theorem dX2_lossBetween_257 : decode cX2_lossBetween 257 = .ok (.istore 13, 2) := by decide +kernel
theorem dX2_lossBetween_259 : decode cX2_lossBetween 259 = .ok (.iload 18, 2) := by decide +kernel
theorem dX2_lossBetween_261 : decode cX2_lossBetween 261 = .ok (.ifCond .le 23, 3) := by decide +kernel
theorem dX2_lossBetween_264 : decode cX2_lossBetween 264 = .ok (.iload 13, 2) := by decide +kernel
theorem dX2_lossBetween_266 : decode cX2_lossBetween 266 = .ok (.aload_n 0, 1) := by decide +kernel
theorem dX2_lossBetween_267 : decode cX2_lossBetween 267 = .ok (.getfield 9, 3) := by decide +kernel
theorem dX2_lossBetween_270 : decode cX2_lossBetween 270 = .ok (.getfield 62, 3) := by decide +kernel
theorem dX2_lossBetween_273 : decode cX2_lossBetween 273 = .ok (.iconst 1, 1) := by decide +kernel
theorem dX2_lossBetween_274 : decode cX2_lossBetween 274 = .ok (.iaload, 1) := by decide +kernel
theorem dX2_lossBetween_275 : decode cX2_lossBetween 275 = .ok (.iload 18, 2) := by decide +kernel
theorem dX2_lossBetween_277 : decode cX2_lossBetween 277 = .ok (.iload 10, 2) := by decide +kernel
theorem dX2_lossBetween_279 : decode cX2_lossBetween 279 = .ok (.idiv, 1) := by decide +kernel
theorem dX2_lossBetween_280 : decode cX2_lossBetween 280 = .ok (.imul, 1) := by decide +kernel
theorem dX2_lossBetween_281 : decode cX2_lossBetween 281 = .ok (.iadd, 1) := by decide +kernel
theorem dX2_lossBetween_282 : decode cX2_lossBetween 282 = .ok (.istore 13, 2) := by decide +kernel
theorem dX2_lossBetween_284 : decode cX2_lossBetween 284 = .ok (.iinc 14 1, 3) := by decide +kernel
theorem dX2_lossBetween_287 : decode cX2_lossBetween 287 = .ok (.goto (-176), 3) := by decide +kernel
theorem dX2_lossBetween_290 : decode cX2_lossBetween 290 = .ok (.iload 13, 2) := by decide +kernel
theorem dX2_lossBetween_292 : decode cX2_lossBetween 292 = .ok (.ireturn, 1) := by decide +kernel
theorem dX2_nearest_0 : decode cX2_nearest 0 = .ok (.iconst 2, 1) := by decide +kernel
theorem dX2_nearest_1 : decode cX2_nearest 1 = .ok (.iload_n 0, 1) := by decide +kernel
theorem dX2_nearest_2 : decode cX2_nearest 2 = .ok (.imul, 1) := by decide +kernel
theorem dX2_nearest_3 : decode cX2_nearest 3 = .ok (.iload_n 1, 1) := by decide +kernel
theorem dX2_nearest_4 : decode cX2_nearest 4 = .ok (.iadd, 1) := by decide +kernel
theorem dX2_nearest_5 : decode cX2_nearest 5 = .ok (.iconst 2, 1) := by decide +kernel
theorem dX2_nearest_6 : decode cX2_nearest 6 = .ok (.iload_n 1, 1) := by decide +kernel
theorem dX2_nearest_7 : decode cX2_nearest 7 = .ok (.imul, 1) := by decide +kernel
theorem dX2_nearest_8 : decode cX2_nearest 8 = .ok (.invokestatic 68, 3) := by decide +kernel
theorem dX2_nearest_11 : decode cX2_nearest 11 = .ok (.ireturn, 1) := by decide +kernel
theorem dX2_gotFrom_0 : decode cX2_gotFrom 0 = .ok (.bipush 100, 2) := by decide +kernel
theorem dX2_gotFrom_2 : decode cX2_gotFrom 2 = .ok (.iload_n 1, 1) := by decide +kernel
theorem dX2_gotFrom_3 : decode cX2_gotFrom 3 = .ok (.imul, 1) := by decide +kernel
theorem dX2_gotFrom_4 : decode cX2_gotFrom 4 = .ok (.aload_n 0, 1) := by decide +kernel
theorem dX2_gotFrom_5 : decode cX2_gotFrom 5 = .ok (.iload_n 2, 1) := by decide +kernel
theorem dX2_gotFrom_6 : decode cX2_gotFrom 6 = .ok (.iload_n 3, 1) := by decide +kernel
theorem dX2_gotFrom_7 : decode cX2_gotFrom 7 = .ok (.iload 4, 2) := by decide +kernel
theorem dX2_gotFrom_9 : decode cX2_gotFrom 9 = .ok (.iconst 0, 1) := by decide +kernel
theorem dX2_gotFrom_10 : decode cX2_gotFrom 10 = .ok (.iload 5, 2) := by decide +kernel
theorem dX2_gotFrom_12 : decode cX2_gotFrom 12 = .ok (.invokevirtual 71, 3) := by decide +kernel
theorem dX2_gotFrom_15 : decode cX2_gotFrom 15 = .ok (.idiv, 1) := by decide +kernel
theorem dX2_gotFrom_16 : decode cX2_gotFrom 16 = .ok (.ireturn, 1) := by decide +kernel
theorem dX3_init_0 : decode cX3_init 0 = .ok (.aload_n 0, 1) := by decide +kernel
theorem dX3_init_1 : decode cX3_init 1 = .ok (.invokespecial 1, 3) := by decide +kernel
theorem dX3_init_4 : decode cX3_init 4 = .ok (.aload_n 0, 1) := by decide +kernel
theorem dX3_init_5 : decode cX3_init 5 = .ok (.aload_n 1, 1) := by decide +kernel
theorem dX3_init_6 : decode cX3_init 6 = .ok (.putfield 7, 3) := by decide +kernel
theorem dX3_init_9 : decode cX3_init 9 = .ok (.aload_n 0, 1) := by decide +kernel
theorem dX3_init_10 : decode cX3_init 10 = .ok (.aload_n 2, 1) := by decide +kernel
theorem dX3_init_11 : decode cX3_init 11 = .ok (.putfield 13, 3) := by decide +kernel
theorem dX3_init_14 : decode cX3_init 14 = .ok (.aload_n 0, 1) := by decide +kernel
theorem dX3_init_15 : decode cX3_init 15 = .ok (.bipush 20, 2) := by decide +kernel
theorem dX3_init_17 : decode cX3_init 17 = .ok (.newarray .int, 2) := by decide +kernel
theorem dX3_init_19 : decode cX3_init 19 = .ok (.putfield 19, 3) := by decide +kernel
theorem dX3_init_22 : decode cX3_init 22 = .ok (.aload_n 0, 1) := by decide +kernel
theorem dX3_init_23 : decode cX3_init 23 = .ok (.sipush 400, 3) := by decide +kernel
theorem dX3_init_26 : decode cX3_init 26 = .ok (.newarray .int, 2) := by decide +kernel
theorem dX3_init_28 : decode cX3_init 28 = .ok (.putfield 23, 3) := by decide +kernel
theorem dX3_init_31 : decode cX3_init 31 = .ok (.aload_n 0, 1) := by decide +kernel
theorem dX3_init_32 : decode cX3_init 32 = .ok (.sipush 400, 3) := by decide +kernel
theorem dX3_init_35 : decode cX3_init 35 = .ok (.newarray .int, 2) := by decide +kernel
theorem dX3_init_37 : decode cX3_init 37 = .ok (.putfield 26, 3) := by decide +kernel
theorem dX3_init_40 : decode cX3_init 40 = .ok (.aload_n 0, 1) := by decide +kernel
theorem dX3_init_41 : decode cX3_init 41 = .ok (.bipush 20, 2) := by decide +kernel
theorem dX3_init_43 : decode cX3_init 43 = .ok (.newarray .int, 2) := by decide +kernel
theorem dX3_init_45 : decode cX3_init 45 = .ok (.putfield 29, 3) := by decide +kernel
theorem dX3_init_48 : decode cX3_init 48 = .ok (.aload_n 0, 1) := by decide +kernel
theorem dX3_init_49 : decode cX3_init 49 = .ok (.bipush 20, 2) := by decide +kernel
theorem dX3_init_51 : decode cX3_init 51 = .ok (.newarray .int, 2) := by decide +kernel
theorem dX3_init_53 : decode cX3_init 53 = .ok (.putfield 32, 3) := by decide +kernel
theorem dX3_init_56 : decode cX3_init 56 = .ok (.aload_n 0, 1) := by decide +kernel
theorem dX3_init_57 : decode cX3_init 57 = .ok (.bipush 20, 2) := by decide +kernel
theorem dX3_init_59 : decode cX3_init 59 = .ok (.newarray .int, 2) := by decide +kernel
theorem dX3_init_61 : decode cX3_init 61 = .ok (.putfield 35, 3) := by decide +kernel
theorem dX3_init_64 : decode cX3_init 64 = .ok (.aload_n 0, 1) := by decide +kernel
theorem dX3_init_65 : decode cX3_init 65 = .ok (.bipush 20, 2) := by decide +kernel
theorem dX3_init_67 : decode cX3_init 67 = .ok (.newarray .int, 2) := by decide +kernel
theorem dX3_init_69 : decode cX3_init 69 = .ok (.putfield 38, 3) := by decide +kernel
theorem dX3_init_72 : decode cX3_init 72 = .ok (.return_, 1) := by decide +kernel
theorem dX3_gather_0 : decode cX3_gather 0 = .ok (.aload_n 0, 1) := by decide +kernel
theorem dX3_gather_1 : decode cX3_gather 1 = .ok (.iconst 0, 1) := by decide +kernel
theorem dX3_gather_2 : decode cX3_gather 2 = .ok (.putfield 41, 3) := by decide +kernel
theorem dX3_gather_5 : decode cX3_gather 5 = .ok (.iconst 0, 1) := by decide +kernel
theorem dX3_gather_6 : decode cX3_gather 6 = .ok (.istore_n 2, 1) := by decide +kernel
theorem dX3_gather_7 : decode cX3_gather 7 = .ok (.iload_n 2, 1) := by decide +kernel
theorem dX3_gather_8 : decode cX3_gather 8 = .ok (.aload_n 0, 1) := by decide +kernel
theorem dX3_gather_9 : decode cX3_gather 9 = .ok (.getfield 13, 3) := by decide +kernel
theorem dX3_gather_12 : decode cX3_gather 12 = .ok (.getfield 45, 3) := by decide +kernel
theorem dX3_gather_15 : decode cX3_gather 15 = .ok (.if_icmp .ge 62, 3) := by decide +kernel
theorem dX3_gather_18 : decode cX3_gather 18 = .ok (.aload_n 0, 1) := by decide +kernel
theorem dX3_gather_19 : decode cX3_gather 19 = .ok (.getfield 13, 3) := by decide +kernel
theorem dX3_gather_22 : decode cX3_gather 22 = .ok (.getfield 46, 3) := by decide +kernel
theorem dX3_gather_25 : decode cX3_gather 25 = .ok (.iload_n 2, 1) := by decide +kernel
theorem dX3_gather_26 : decode cX3_gather 26 = .ok (.aaload, 1) := by decide +kernel
theorem dX3_gather_27 : decode cX3_gather 27 = .ok (.astore_n 3, 1) := by decide +kernel
theorem dX3_gather_28 : decode cX3_gather 28 = .ok (.aload_n 3, 1) := by decide +kernel
theorem dX3_gather_29 : decode cX3_gather 29 = .ok (.getfield 50, 3) := by decide +kernel
theorem dX3_gather_32 : decode cX3_gather 32 = .ok (.ifCond .eq 39, 3) := by decide +kernel
theorem dX3_gather_35 : decode cX3_gather 35 = .ok (.aload_n 3, 1) := by decide +kernel
theorem dX3_gather_36 : decode cX3_gather 36 = .ok (.getfield 56, 3) := by decide +kernel
theorem dX3_gather_39 : decode cX3_gather 39 = .ok (.iconst 3, 1) := by decide +kernel
theorem dX3_gather_40 : decode cX3_gather 40 = .ok (.if_icmp .ne 31, 3) := by decide +kernel
theorem dX3_gather_43 : decode cX3_gather 43 = .ok (.aload_n 3, 1) := by decide +kernel
theorem dX3_gather_44 : decode cX3_gather 44 = .ok (.getfield 59, 3) := by decide +kernel
theorem dX3_gather_47 : decode cX3_gather 47 = .ok (.iload_n 1, 1) := by decide +kernel
theorem dX3_gather_48 : decode cX3_gather 48 = .ok (.if_icmp .ne 23, 3) := by decide +kernel
theorem dX3_gather_51 : decode cX3_gather 51 = .ok (.aload_n 0, 1) := by decide +kernel
theorem dX3_gather_52 : decode cX3_gather 52 = .ok (.getfield 19, 3) := by decide +kernel
theorem dX3_gather_55 : decode cX3_gather 55 = .ok (.aload_n 0, 1) := by decide +kernel
theorem dX3_gather_56 : decode cX3_gather 56 = .ok (.getfield 41, 3) := by decide +kernel
theorem dX3_gather_59 : decode cX3_gather 59 = .ok (.iload_n 2, 1) := by decide +kernel
theorem dX3_gather_60 : decode cX3_gather 60 = .ok (.iastore, 1) := by decide +kernel
theorem dX3_gather_61 : decode cX3_gather 61 = .ok (.aload_n 0, 1) := by decide +kernel
theorem dX3_gather_62 : decode cX3_gather 62 = .ok (.dup, 1) := by decide +kernel
theorem dX3_gather_63 : decode cX3_gather 63 = .ok (.getfield 41, 3) := by decide +kernel
theorem dX3_gather_66 : decode cX3_gather 66 = .ok (.iconst 1, 1) := by decide +kernel
theorem dX3_gather_67 : decode cX3_gather 67 = .ok (.iadd, 1) := by decide +kernel
theorem dX3_gather_68 : decode cX3_gather 68 = .ok (.putfield 41, 3) := by decide +kernel
theorem dX3_gather_71 : decode cX3_gather 71 = .ok (.iinc 2 1, 3) := by decide +kernel
theorem dX3_gather_74 : decode cX3_gather 74 = .ok (.goto (-67), 3) := by decide +kernel
theorem dX3_gather_77 : decode cX3_gather 77 = .ok (.iconst 0, 1) := by decide +kernel
theorem dX3_gather_78 : decode cX3_gather 78 = .ok (.istore_n 2, 1) := by decide +kernel
theorem dX3_gather_79 : decode cX3_gather 79 = .ok (.iload_n 2, 1) := by decide +kernel
theorem dX3_gather_80 : decode cX3_gather 80 = .ok (.aload_n 0, 1) := by decide +kernel
theorem dX3_gather_81 : decode cX3_gather 81 = .ok (.getfield 41, 3) := by decide +kernel
theorem dX3_gather_84 : decode cX3_gather 84 = .ok (.if_icmp .ge 104, 3) := by decide +kernel
theorem dX3_gather_87 : decode cX3_gather 87 = .ok (.aload_n 0, 1) := by decide +kernel
theorem dX3_gather_88 : decode cX3_gather 88 = .ok (.getfield 13, 3) := by decide +kernel
theorem dX3_gather_91 : decode cX3_gather 91 = .ok (.getfield 46, 3) := by decide +kernel
theorem dX3_gather_94 : decode cX3_gather 94 = .ok (.aload_n 0, 1) := by decide +kernel
theorem dX3_gather_95 : decode cX3_gather 95 = .ok (.getfield 19, 3) := by decide +kernel
theorem dX3_gather_98 : decode cX3_gather 98 = .ok (.iload_n 2, 1) := by decide +kernel
theorem dX3_gather_99 : decode cX3_gather 99 = .ok (.iaload, 1) := by decide +kernel
theorem dX3_gather_100 : decode cX3_gather 100 = .ok (.aaload, 1) := by decide +kernel
theorem dX3_gather_101 : decode cX3_gather 101 = .ok (.astore_n 3, 1) := by decide +kernel
theorem dX3_gather_102 : decode cX3_gather 102 = .ok (.iconst 0, 1) := by decide +kernel
theorem dX3_gather_103 : decode cX3_gather 103 = .ok (.istore 4, 2) := by decide +kernel
theorem dX3_gather_105 : decode cX3_gather 105 = .ok (.iload 4, 2) := by decide +kernel
theorem dX3_gather_107 : decode cX3_gather 107 = .ok (.aload_n 0, 1) := by decide +kernel
theorem dX3_gather_108 : decode cX3_gather 108 = .ok (.getfield 41, 3) := by decide +kernel
theorem dX3_gather_111 : decode cX3_gather 111 = .ok (.if_icmp .ge 71, 3) := by decide +kernel
theorem dX3_gather_114 : decode cX3_gather 114 = .ok (.aload_n 0, 1) := by decide +kernel
theorem dX3_gather_115 : decode cX3_gather 115 = .ok (.getfield 23, 3) := by decide +kernel
theorem dX3_gather_118 : decode cX3_gather 118 = .ok (.iload_n 2, 1) := by decide +kernel
theorem dX3_gather_119 : decode cX3_gather 119 = .ok (.bipush 20, 2) := by decide +kernel
theorem dX3_gather_121 : decode cX3_gather 121 = .ok (.imul, 1) := by decide +kernel
theorem dX3_gather_122 : decode cX3_gather 122 = .ok (.iload 4, 2) := by decide +kernel
theorem dX3_gather_124 : decode cX3_gather 124 = .ok (.iadd, 1) := by decide +kernel
theorem dX3_gather_125 : decode cX3_gather 125 = .ok (.aload_n 0, 1) := by decide +kernel
theorem dX3_gather_126 : decode cX3_gather 126 = .ok (.getfield 13, 3) := by decide +kernel
theorem dX3_gather_129 : decode cX3_gather 129 = .ok (.aload_n 0, 1) := by decide +kernel
theorem dX3_gather_130 : decode cX3_gather 130 = .ok (.getfield 19, 3) := by decide +kernel
theorem dX3_gather_133 : decode cX3_gather 133 = .ok (.iload 4, 2) := by decide +kernel
theorem dX3_gather_135 : decode cX3_gather 135 = .ok (.iaload, 1) := by decide +kernel
theorem dX3_gather_136 : decode cX3_gather 136 = .ok (.aload_n 3, 1) := by decide +kernel
theorem dX3_gather_137 : decode cX3_gather 137 = .ok (.getfield 62, 3) := by decide +kernel
theorem dX3_gather_140 : decode cX3_gather 140 = .ok (.iconst 0, 1) := by decide +kernel
theorem dX3_gather_141 : decode cX3_gather 141 = .ok (.invokevirtual 65, 3) := by decide +kernel
theorem dX3_gather_144 : decode cX3_gather 144 = .ok (.iastore, 1) := by decide +kernel
theorem dX3_gather_145 : decode cX3_gather 145 = .ok (.aload_n 0, 1) := by decide +kernel
theorem dX3_gather_146 : decode cX3_gather 146 = .ok (.getfield 26, 3) := by decide +kernel
theorem dX3_gather_149 : decode cX3_gather 149 = .ok (.iload_n 2, 1) := by decide +kernel
theorem dX3_gather_150 : decode cX3_gather 150 = .ok (.bipush 20, 2) := by decide +kernel
theorem dX3_gather_152 : decode cX3_gather 152 = .ok (.imul, 1) := by decide +kernel
theorem dX3_gather_153 : decode cX3_gather 153 = .ok (.iload 4, 2) := by decide +kernel
theorem dX3_gather_155 : decode cX3_gather 155 = .ok (.iadd, 1) := by decide +kernel
theorem dX3_gather_156 : decode cX3_gather 156 = .ok (.aload_n 0, 1) := by decide +kernel
theorem dX3_gather_157 : decode cX3_gather 157 = .ok (.getfield 13, 3) := by decide +kernel
theorem dX3_gather_160 : decode cX3_gather 160 = .ok (.aload_n 0, 1) := by decide +kernel
theorem dX3_gather_161 : decode cX3_gather 161 = .ok (.getfield 19, 3) := by decide +kernel
theorem dX3_gather_164 : decode cX3_gather 164 = .ok (.iload 4, 2) := by decide +kernel
theorem dX3_gather_166 : decode cX3_gather 166 = .ok (.iaload, 1) := by decide +kernel
theorem dX3_gather_167 : decode cX3_gather 167 = .ok (.aload_n 3, 1) := by decide +kernel
theorem dX3_gather_168 : decode cX3_gather 168 = .ok (.getfield 69, 3) := by decide +kernel
theorem dX3_gather_171 : decode cX3_gather 171 = .ok (.iconst 0, 1) := by decide +kernel
theorem dX3_gather_172 : decode cX3_gather 172 = .ok (.invokevirtual 65, 3) := by decide +kernel
theorem dX3_gather_175 : decode cX3_gather 175 = .ok (.iastore, 1) := by decide +kernel
theorem dX3_gather_176 : decode cX3_gather 176 = .ok (.iinc 4 1, 3) := by decide +kernel
theorem dX3_gather_179 : decode cX3_gather 179 = .ok (.goto (-74), 3) := by decide +kernel
theorem dX3_gather_182 : decode cX3_gather 182 = .ok (.iinc 2 1, 3) := by decide +kernel
theorem dX3_gather_185 : decode cX3_gather 185 = .ok (.goto (-106), 3) := by decide +kernel
theorem dX3_gather_188 : decode cX3_gather 188 = .ok (.return_, 1) := by decide +kernel
theorem dX3_run_0 : decode cX3_run 0 = .ok (.aload_n 0, 1) := by decide +kernel
theorem dX3_run_1 : decode cX3_run 1 = .ok (.getfield 29, 3) := by decide +kernel
theorem dX3_run_4 : decode cX3_run 4 = .ok (.iconst 0, 1) := by decide +kernel
theorem dX3_run_5 : decode cX3_run 5 = .ok (.invokestatic 72, 3) := by decide +kernel
theorem dX3_run_8 : decode cX3_run 8 = .ok (.aload_n 0, 1) := by decide +kernel
theorem dX3_run_9 : decode cX3_run 9 = .ok (.getfield 32, 3) := by decide +kernel
theorem dX3_run_12 : decode cX3_run 12 = .ok (.iconst 0, 1) := by decide +kernel
theorem dX3_run_13 : decode cX3_run 13 = .ok (.invokestatic 72, 3) := by decide +kernel
theorem dX3_run_16 : decode cX3_run 16 = .ok (.aload_n 0, 1) := by decide +kernel
theorem dX3_run_17 : decode cX3_run 17 = .ok (.getfield 35, 3) := by decide +kernel
theorem dX3_run_20 : decode cX3_run 20 = .ok (.iconst 0, 1) := by decide +kernel
theorem dX3_run_21 : decode cX3_run 21 = .ok (.invokestatic 72, 3) := by decide +kernel
theorem dX3_run_24 : decode cX3_run 24 = .ok (.aload_n 0, 1) := by decide +kernel
theorem dX3_run_25 : decode cX3_run 25 = .ok (.getfield 38, 3) := by decide +kernel
theorem dX3_run_28 : decode cX3_run 28 = .ok (.iconst 0, 1) := by decide +kernel
theorem dX3_run_29 : decode cX3_run 29 = .ok (.invokestatic 72, 3) := by decide +kernel
theorem dX3_run_32 : decode cX3_run 32 = .ok (.iconst 0, 1) := by decide +kernel
theorem dX3_run_33 : decode cX3_run 33 = .ok (.istore_n 3, 1) := by decide +kernel
theorem dX3_run_34 : decode cX3_run 34 = .ok (.iload_n 1, 1) := by decide +kernel
theorem dX3_run_35 : decode cX3_run 35 = .ok (.istore 4, 2) := by decide +kernel
theorem dX3_run_37 : decode cX3_run 37 = .ok (.iconst 0, 1) := by decide +kernel
theorem dX3_run_38 : decode cX3_run 38 = .ok (.istore 5, 2) := by decide +kernel
theorem dX3_run_40 : decode cX3_run 40 = .ok (.iconst 0, 1) := by decide +kernel
theorem dX3_run_41 : decode cX3_run 41 = .ok (.istore 6, 2) := by decide +kernel
theorem dX3_run_43 : decode cX3_run 43 = .ok (.iload 6, 2) := by decide +kernel
theorem dX3_run_45 : decode cX3_run 45 = .ok (.iload_n 2, 1) := by decide +kernel
theorem dX3_run_46 : decode cX3_run 46 = .ok (.if_icmp .ge 158, 3) := by decide +kernel
theorem dX3_run_49 : decode cX3_run 49 = .ok (.iconst 0, 1) := by decide +kernel
theorem dX3_run_50 : decode cX3_run 50 = .ok (.istore 7, 2) := by decide +kernel
theorem dX3_run_52 : decode cX3_run 52 = .ok (.iconst 0, 1) := by decide +kernel
theorem dX3_run_53 : decode cX3_run 53 = .ok (.istore 8, 2) := by decide +kernel
theorem dX3_run_55 : decode cX3_run 55 = .ok (.iload 8, 2) := by decide +kernel
theorem dX3_run_57 : decode cX3_run 57 = .ok (.aload_n 0, 1) := by decide +kernel
theorem dX3_run_58 : decode cX3_run 58 = .ok (.getfield 41, 3) := by decide +kernel
theorem dX3_run_61 : decode cX3_run 61 = .ok (.if_icmp .ge 99, 3) := by decide +kernel
theorem dX3_run_64 : decode cX3_run 64 = .ok (.ldc 78, 2) := by decide +kernel
theorem dX3_run_66 : decode cX3_run 66 = .ok (.iload 4, 2) := by decide +kernel
theorem dX3_run_68 : decode cX3_run 68 = .ok (.imul, 1) := by decide +kernel
theorem dX3_run_69 : decode cX3_run 69 = .ok (.sipush 12345, 3) := by decide +kernel
theorem dX3_run_72 : decode cX3_run 72 = .ok (.iadd, 1) := by decide +kernel
theorem dX3_run_73 : decode cX3_run 73 = .ok (.istore 4, 2) := by decide +kernel
theorem dX3_run_75 : decode cX3_run 75 = .ok (.iload 4, 2) := by decide +kernel
theorem dX3_run_77 : decode cX3_run 77 = .ok (.bipush 16, 2) := by decide +kernel
theorem dX3_run_79 : decode cX3_run 79 = .ok (.iushr, 1) := by decide +kernel
theorem dX3_run_80 : decode cX3_run 80 = .ok (.bipush 100, 2) := by decide +kernel
theorem dX3_run_82 : decode cX3_run 82 = .ok (.irem, 1) := by decide +kernel
theorem dX3_run_83 : decode cX3_run 83 = .ok (.aload_n 0, 1) := by decide +kernel
theorem dX3_run_84 : decode cX3_run 84 = .ok (.getfield 13, 3) := by decide +kernel
theorem dX3_run_87 : decode cX3_run 87 = .ok (.getfield 46, 3) := by decide +kernel
theorem dX3_run_90 : decode cX3_run 90 = .ok (.aload_n 0, 1) := by decide +kernel
theorem dX3_run_91 : decode cX3_run 91 = .ok (.getfield 19, 3) := by decide +kernel
theorem dX3_run_94 : decode cX3_run 94 = .ok (.iload 8, 2) := by decide +kernel
theorem dX3_run_96 : decode cX3_run 96 = .ok (.iaload, 1) := by decide +kernel
theorem dX3_run_97 : decode cX3_run 97 = .ok (.aaload, 1) := by decide +kernel
theorem dX3_run_98 : decode cX3_run 98 = .ok (.getfield 79, 3) := by decide +kernel
theorem dX3_run_101 : decode cX3_run 101 = .ok (.bipush 100, 2) := by decide +kernel
theorem dX3_run_103 : decode cX3_run 103 = .ok (.irem, 1) := by decide +kernel
theorem dX3_run_104 : decode cX3_run 104 = .ok (.if_icmp .ge 7, 3) := by decide +kernel
theorem dX3_run_107 : decode cX3_run 107 = .ok (.iconst 1, 1) := by decide +kernel
theorem dX3_run_108 : decode cX3_run 108 = .ok (.goto 4, 3) := by decide +kernel
theorem dX3_run_111 : decode cX3_run 111 = .ok (.iconst 0, 1) := by decide +kernel
theorem dX3_run_112 : decode cX3_run 112 = .ok (.istore 9, 2) := by decide +kernel
theorem dX3_run_114 : decode cX3_run 114 = .ok (.iload 9, 2) := by decide +kernel
theorem dX3_run_116 : decode cX3_run 116 = .ok (.ifCond .eq 38, 3) := by decide +kernel
theorem dX3_run_119 : decode cX3_run 119 = .ok (.aload_n 0, 1) := by decide +kernel
theorem dX3_run_120 : decode cX3_run 120 = .ok (.aload_n 0, 1) := by decide +kernel
theorem dX3_run_121 : decode cX3_run 121 = .ok (.getfield 23, 3) := by decide +kernel
theorem dX3_run_124 : decode cX3_run 124 = .ok (.iload 5, 2) := by decide +kernel
theorem dX3_run_126 : decode cX3_run 126 = .ok (.iload 8, 2) := by decide +kernel
theorem dX3_run_128 : decode cX3_run 128 = .ok (.invokevirtual 82, 3) := by decide +kernel
theorem dX3_run_131 : decode cX3_run 131 = .ok (.aload_n 0, 1) := by decide +kernel
theorem dX3_run_132 : decode cX3_run 132 = .ok (.getfield 7, 3) := by decide +kernel
theorem dX3_run_135 : decode cX3_run 135 = .ok (.getfield 86, 3) := by decide +kernel
theorem dX3_run_138 : decode cX3_run 138 = .ok (.iconst 3, 1) := by decide +kernel
theorem dX3_run_139 : decode cX3_run 139 = .ok (.iaload, 1) := by decide +kernel
theorem dX3_run_140 : decode cX3_run 140 = .ok (.i2l, 1) := by decide +kernel
theorem dX3_run_141 : decode cX3_run 141 = .ok (.lcmp, 1) := by decide +kernel
theorem dX3_run_142 : decode cX3_run 142 = .ok (.ifCond .ge 12, 3) := by decide +kernel
theorem dX3_run_145 : decode cX3_run 145 = .ok (.iload 7, 2) := by decide +kernel
theorem dX3_run_147 : decode cX3_run 147 = .ok (.iconst 1, 1) := by decide +kernel
theorem dX3_run_148 : decode cX3_run 148 = .ok (.iload 8, 2) := by decide +kernel
theorem dX3_run_150 : decode cX3_run 150 = .ok (.ishl, 1) := by decide +kernel
theorem dX3_run_151 : decode cX3_run 151 = .ok (.ior, 1) := by decide +kernel
theorem dX3_run_152 : decode cX3_run 152 = .ok (.istore 7, 2) := by decide +kernel
theorem dX3_run_154 : decode cX3_run 154 = .ok (.iinc 8 1, 3) := by decide +kernel
theorem dX3_run_157 : decode cX3_run 157 = .ok (.goto (-102), 3) := by decide +kernel
theorem dX3_run_160 : decode cX3_run 160 = .ok (.iconst 0, 1) := by decide +kernel
theorem dX3_run_161 : decode cX3_run 161 = .ok (.istore 8, 2) := by decide +kernel
theorem dX3_run_163 : decode cX3_run 163 = .ok (.iload 8, 2) := by decide +kernel
theorem dX3_run_165 : decode cX3_run 165 = .ok (.aload_n 0, 1) := by decide +kernel
theorem dX3_run_166 : decode cX3_run 166 = .ok (.getfield 41, 3) := by decide +kernel
theorem dX3_run_169 : decode cX3_run 169 = .ok (.if_icmp .ge 17, 3) := by decide +kernel
theorem dX3_run_172 : decode cX3_run 172 = .ok (.aload_n 0, 1) := by decide +kernel
theorem dX3_run_173 : decode cX3_run 173 = .ok (.iload 8, 2) := by decide +kernel
theorem dX3_run_175 : decode cX3_run 175 = .ok (.iload 7, 2) := by decide +kernel
theorem dX3_run_177 : decode cX3_run 177 = .ok (.invokevirtual 91, 3) := by decide +kernel
theorem dX3_run_180 : decode cX3_run 180 = .ok (.iinc 8 1, 3) := by decide +kernel
theorem dX3_run_183 : decode cX3_run 183 = .ok (.goto (-20), 3) := by decide +kernel
theorem dX3_run_186 : decode cX3_run 186 = .ok (.iload_n 3, 1) := by decide +kernel
theorem dX3_run_187 : decode cX3_run 187 = .ok (.iload 7, 2) := by decide +kernel
theorem dX3_run_189 : decode cX3_run 189 = .ok (.invokestatic 95, 3) := by decide +kernel
theorem dX3_run_192 : decode cX3_run 192 = .ok (.iadd, 1) := by decide +kernel
theorem dX3_run_193 : decode cX3_run 193 = .ok (.istore_n 3, 1) := by decide +kernel
theorem dX3_run_194 : decode cX3_run 194 = .ok (.iload 7, 2) := by decide +kernel
theorem dX3_run_196 : decode cX3_run 196 = .ok (.istore 5, 2) := by decide +kernel
theorem dX3_run_198 : decode cX3_run 198 = .ok (.iinc 6 1, 3) := by decide +kernel
theorem dX3_run_201 : decode cX3_run 201 = .ok (.goto (-158), 3) := by decide +kernel
theorem dX3_run_204 : decode cX3_run 204 = .ok (.iload_n 3, 1) := by decide +kernel
theorem dX3_run_205 : decode cX3_run 205 = .ok (.ireturn, 1) := by decide +kernel
theorem dX3_sumOthers_0 : decode cX3_sumOthers 0 = .ok (.lconst 0, 1) := by decide +kernel
theorem dX3_sumOthers_1 : decode cX3_sumOthers 1 = .ok (.lstore 4, 2) := by decide +kernel
theorem dX3_sumOthers_3 : decode cX3_sumOthers 3 = .ok (.iconst 0, 1) := by decide +kernel
theorem dX3_sumOthers_4 : decode cX3_sumOthers 4 = .ok (.istore 6, 2) := by decide +kernel
theorem dX3_sumOthers_6 : decode cX3_sumOthers 6 = .ok (.iload 6, 2) := by decide +kernel
theorem dX3_sumOthers_8 : decode cX3_sumOthers 8 = .ok (.aload_n 0, 1) := by decide +kernel
theorem dX3_sumOthers_9 : decode cX3_sumOthers 9 = .ok (.getfield 41, 3) := by decide +kernel
theorem dX3_sumOthers_12 : decode cX3_sumOthers 12 = .ok (.if_icmp .ge 39, 3) := by decide +kernel
theorem dX3_sumOthers_15 : decode cX3_sumOthers 15 = .ok (.iload 6, 2) := by decide +kernel
theorem dX3_sumOthers_17 : decode cX3_sumOthers 17 = .ok (.iload_n 3, 1) := by decide +kernel
theorem dX3_sumOthers_18 : decode cX3_sumOthers 18 = .ok (.if_icmp .eq 27, 3) := by decide +kernel
theorem dX3_sumOthers_21 : decode cX3_sumOthers 21 = .ok (.iload_n 2, 1) := by decide +kernel
theorem dX3_sumOthers_22 : decode cX3_sumOthers 22 = .ok (.iload 6, 2) := by decide +kernel
theorem dX3_sumOthers_24 : decode cX3_sumOthers 24 = .ok (.ishr, 1) := by decide +kernel
theorem dX3_sumOthers_25 : decode cX3_sumOthers 25 = .ok (.iconst 1, 1) := by decide +kernel
theorem dX3_sumOthers_26 : decode cX3_sumOthers 26 = .ok (.iand, 1) := by decide +kernel
theorem dX3_sumOthers_27 : decode cX3_sumOthers 27 = .ok (.ifCond .eq 18, 3) := by decide +kernel
theorem dX3_sumOthers_30 : decode cX3_sumOthers 30 = .ok (.lload 4, 2) := by decide +kernel
theorem dX3_sumOthers_32 : decode cX3_sumOthers 32 = .ok (.aload_n 1, 1) := by decide +kernel
theorem dX3_sumOthers_33 : decode cX3_sumOthers 33 = .ok (.iload_n 3, 1) := by decide +kernel
theorem dX3_sumOthers_34 : decode cX3_sumOthers 34 = .ok (.bipush 20, 2) := by decide +kernel
theorem dX3_sumOthers_36 : decode cX3_sumOthers 36 = .ok (.imul, 1) := by decide +kernel
theorem dX3_sumOthers_37 : decode cX3_sumOthers 37 = .ok (.iload 6, 2) := by decide +kernel
theorem dX3_sumOthers_39 : decode cX3_sumOthers 39 = .ok (.iadd, 1) := by decide +kernel
theorem dX3_sumOthers_40 : decode cX3_sumOthers 40 = .ok (.iaload, 1) := by decide +kernel
theorem dX3_sumOthers_41 : decode cX3_sumOthers 41 = .ok (.i2l, 1) := by decide +kernel
theorem dX3_sumOthers_42 : decode cX3_sumOthers 42 = .ok (.ladd, 1) := by decide +kernel
theorem dX3_sumOthers_43 : decode cX3_sumOthers 43 = .ok (.lstore 4, 2) := by decide +kernel
theorem dX3_sumOthers_45 : decode cX3_sumOthers 45 = .ok (.iinc 6 1, 3) := by decide +kernel
theorem dX3_sumOthers_48 : decode cX3_sumOthers 48 = .ok (.goto (-42), 3) := by decide +kernel
theorem dX3_sumOthers_51 : decode cX3_sumOthers 51 = .ok (.lload 4, 2) := by decide +kernel
theorem dX3_sumOthers_53 : decode cX3_sumOthers 53 = .ok (.lreturn, 1) := by decide +kernel
theorem dX3_note_0 : decode cX3_note 0 = .ok (.aload_n 0, 1) := by decide +kernel
theorem dX3_note_1 : decode cX3_note 1 = .ok (.getfield 19, 3) := by decide +kernel
theorem dX3_note_4 : decode cX3_note 4 = .ok (.iload_n 1, 1) := by decide +kernel
theorem dX3_note_5 : decode cX3_note 5 = .ok (.iaload, 1) := by decide +kernel
theorem dX3_note_6 : decode cX3_note 6 = .ok (.istore_n 3, 1) := by decide +kernel
theorem dX3_note_7 : decode cX3_note 7 = .ok (.iload_n 2, 1) := by decide +kernel
theorem dX3_note_8 : decode cX3_note 8 = .ok (.iload_n 1, 1) := by decide +kernel
theorem dX3_note_9 : decode cX3_note 9 = .ok (.ishr, 1) := by decide +kernel
theorem dX3_note_10 : decode cX3_note 10 = .ok (.iconst 1, 1) := by decide +kernel
theorem dX3_note_11 : decode cX3_note 11 = .ok (.iand, 1) := by decide +kernel
theorem dX3_note_12 : decode cX3_note 12 = .ok (.ifCond .ne 35, 3) := by decide +kernel
theorem dX3_note_15 : decode cX3_note 15 = .ok (.aload_n 0, 1) := by decide +kernel
theorem dX3_note_16 : decode cX3_note 16 = .ok (.getfield 29, 3) := by decide +kernel
theorem dX3_note_19 : decode cX3_note 19 = .ok (.iload_n 1, 1) := by decide +kernel
theorem dX3_note_20 : decode cX3_note 20 = .ok (.dup2, 1) := by decide +kernel
theorem dX3_note_21 : decode cX3_note 21 = .ok (.iaload, 1) := by decide +kernel
theorem dX3_note_22 : decode cX3_note 22 = .ok (.iconst 1, 1) := by decide +kernel
theorem dX3_note_23 : decode cX3_note 23 = .ok (.iadd, 1) := by decide +kernel
theorem dX3_note_24 : decode cX3_note 24 = .ok (.iastore, 1) := by decide +kernel
theorem dX3_note_25 : decode cX3_note 25 = .ok (.aload_n 0, 1) := by decide +kernel
theorem dX3_note_26 : decode cX3_note 26 = .ok (.getfield 38, 3) := by decide +kernel
theorem dX3_note_29 : decode cX3_note 29 = .ok (.iload_n 3, 1) := by decide +kernel
theorem dX3_note_30 : decode cX3_note 30 = .ok (.aload_n 0, 1) := by decide +kernel
theorem dX3_note_31 : decode cX3_note 31 = .ok (.getfield 38, 3) := by decide +kernel
theorem dX3_note_34 : decode cX3_note 34 = .ok (.iload_n 3, 1) := by decide +kernel
theorem dX3_note_35 : decode cX3_note 35 = .ok (.iaload, 1) := by decide +kernel
theorem dX3_note_36 : decode cX3_note 36 = .ok (.aload_n 0, 1) := by decide +kernel
theorem dX3_note_37 : decode cX3_note 37 = .ok (.getfield 29, 3) := by decide +kernel
theorem dX3_note_40 : decode cX3_note 40 = .ok (.iload_n 1, 1) := by decide +kernel
theorem dX3_note_41 : decode cX3_note 41 = .ok (.iaload, 1) := by decide +kernel
theorem dX3_note_42 : decode cX3_note 42 = .ok (.invokestatic 101, 3) := by decide +kernel
theorem dX3_note_45 : decode cX3_note 45 = .ok (.iastore, 1) := by decide +kernel
theorem dX3_note_46 : decode cX3_note 46 = .ok (.return_, 1) := by decide +kernel
theorem dX3_note_47 : decode cX3_note 47 = .ok (.aload_n 0, 1) := by decide +kernel
theorem dX3_note_48 : decode cX3_note 48 = .ok (.getfield 29, 3) := by decide +kernel
theorem dX3_note_51 : decode cX3_note 51 = .ok (.iload_n 1, 1) := by decide +kernel
theorem dX3_note_52 : decode cX3_note 52 = .ok (.iconst 0, 1) := by decide +kernel
theorem dX3_note_53 : decode cX3_note 53 = .ok (.iastore, 1) := by decide +kernel
theorem dX3_note_54 : decode cX3_note 54 = .ok (.aload_n 0, 1) := by decide +kernel
theorem dX3_note_55 : decode cX3_note 55 = .ok (.getfield 32, 3) := by decide +kernel
theorem dX3_note_58 : decode cX3_note 58 = .ok (.iload_n 3, 1) := by decide +kernel
theorem dX3_note_59 : decode cX3_note 59 = .ok (.dup2, 1) := by decide +kernel
theorem dX3_note_60 : decode cX3_note 60 = .ok (.iaload, 1) := by decide +kernel
theorem dX3_note_61 : decode cX3_note 61 = .ok (.iconst 1, 1) := by decide +kernel
theorem dX3_note_62 : decode cX3_note 62 = .ok (.iadd, 1) := by decide +kernel
theorem dX3_note_63 : decode cX3_note 63 = .ok (.iastore, 1) := by decide +kernel
theorem dX3_note_64 : decode cX3_note 64 = .ok (.aload_n 0, 1) := by decide +kernel
theorem dX3_note_65 : decode cX3_note 65 = .ok (.iload_n 1, 1) := by decide +kernel
theorem dX3_note_66 : decode cX3_note 66 = .ok (.aload_n 0, 1) := by decide +kernel
theorem dX3_note_67 : decode cX3_note 67 = .ok (.aload_n 0, 1) := by decide +kernel
theorem dX3_note_68 : decode cX3_note 68 = .ok (.getfield 26, 3) := by decide +kernel
theorem dX3_note_71 : decode cX3_note 71 = .ok (.iload_n 2, 1) := by decide +kernel
theorem dX3_note_72 : decode cX3_note 72 = .ok (.iload_n 1, 1) := by decide +kernel
theorem dX3_note_73 : decode cX3_note 73 = .ok (.invokevirtual 82, 3) := by decide +kernel
theorem dX3_note_76 : decode cX3_note 76 = .ok (.invokevirtual 107, 3) := by decide +kernel
theorem dX3_note_79 : decode cX3_note 79 = .ok (.ifCond .eq 13, 3) := by decide +kernel
theorem dX3_note_82 : decode cX3_note 82 = .ok (.aload_n 0, 1) := by decide +kernel
theorem dX3_note_83 : decode cX3_note 83 = .ok (.getfield 35, 3) := by decide +kernel
theorem dX3_note_86 : decode cX3_note 86 = .ok (.iload_n 3, 1) := by decide +kernel
theorem dX3_note_87 : decode cX3_note 87 = .ok (.dup2, 1) := by decide +kernel
theorem dX3_note_88 : decode cX3_note 88 = .ok (.iaload, 1) := by decide +kernel
theorem dX3_note_89 : decode cX3_note 89 = .ok (.iconst 1, 1) := by decide +kernel
theorem dX3_note_90 : decode cX3_note 90 = .ok (.iadd, 1) := by decide +kernel
theorem dX3_note_91 : decode cX3_note 91 = .ok (.iastore, 1) := by decide +kernel
theorem dX3_note_92 : decode cX3_note 92 = .ok (.return_, 1) := by decide +kernel
theorem dX3_isHeardAgainst_0 : decode cX3_isHeardAgainst 0 = .ok (.aload_n 0, 1) := by decide +kernel
theorem dX3_isHeardAgainst_1 : decode cX3_isHeardAgainst 1 = .ok (.getfield 13, 3) := by decide +kernel
theorem dX3_isHeardAgainst_4 : decode cX3_isHeardAgainst 4 = .ok (.getfield 46, 3) := by decide +kernel
theorem dX3_isHeardAgainst_7 : decode cX3_isHeardAgainst 7 = .ok (.aload_n 0, 1) := by decide +kernel
theorem dX3_isHeardAgainst_8 : decode cX3_isHeardAgainst 8 = .ok (.getfield 19, 3) := by decide +kernel
theorem dX3_isHeardAgainst_11 : decode cX3_isHeardAgainst 11 = .ok (.iload_n 1, 1) := by decide +kernel
theorem dX3_isHeardAgainst_12 : decode cX3_isHeardAgainst 12 = .ok (.iaload, 1) := by decide +kernel
theorem dX3_isHeardAgainst_13 : decode cX3_isHeardAgainst 13 = .ok (.aaload, 1) := by decide +kernel
theorem dX3_isHeardAgainst_14 : decode cX3_isHeardAgainst 14 = .ok (.aload_n 0, 1) := by decide +kernel
theorem dX3_isHeardAgainst_15 : decode cX3_isHeardAgainst 15 = .ok (.getfield 26, 3) := by decide +kernel
theorem dX3_isHeardAgainst_18 : decode cX3_isHeardAgainst 18 = .ok (.iload_n 1, 1) := by decide +kernel
theorem dX3_isHeardAgainst_19 : decode cX3_isHeardAgainst 19 = .ok (.bipush 20, 2) := by decide +kernel
theorem dX3_isHeardAgainst_21 : decode cX3_isHeardAgainst 21 = .ok (.imul, 1) := by decide +kernel
theorem dX3_isHeardAgainst_22 : decode cX3_isHeardAgainst 22 = .ok (.iload_n 1, 1) := by decide +kernel
theorem dX3_isHeardAgainst_23 : decode cX3_isHeardAgainst 23 = .ok (.iadd, 1) := by decide +kernel
theorem dX3_isHeardAgainst_24 : decode cX3_isHeardAgainst 24 = .ok (.iaload, 1) := by decide +kernel
theorem dX3_isHeardAgainst_25 : decode cX3_isHeardAgainst 25 = .ok (.aload_n 0, 1) := by decide +kernel
theorem dX3_isHeardAgainst_26 : decode cX3_isHeardAgainst 26 = .ok (.getfield 7, 3) := by decide +kernel
theorem dX3_isHeardAgainst_29 : decode cX3_isHeardAgainst 29 = .ok (.getfield 86, 3) := by decide +kernel
theorem dX3_isHeardAgainst_32 : decode cX3_isHeardAgainst 32 = .ok (.iconst 2, 1) := by decide +kernel
theorem dX3_isHeardAgainst_33 : decode cX3_isHeardAgainst 33 = .ok (.iaload, 1) := by decide +kernel
theorem dX3_isHeardAgainst_34 : decode cX3_isHeardAgainst 34 = .ok (.i2l, 1) := by decide +kernel
theorem dX3_isHeardAgainst_35 : decode cX3_isHeardAgainst 35 = .ok (.lload_n 2, 1) := by decide +kernel
theorem dX3_isHeardAgainst_36 : decode cX3_isHeardAgainst 36 = .ok (.ladd, 1) := by decide +kernel
theorem dX3_isHeardAgainst_37 : decode cX3_isHeardAgainst 37 = .ok (.invokevirtual 111, 3) := by decide +kernel
theorem dX3_isHeardAgainst_40 : decode cX3_isHeardAgainst 40 = .ok (.ireturn, 1) := by decide +kernel
theorem dX3_hiddenPairs_0 : decode cX3_hiddenPairs 0 = .ok (.iconst 0, 1) := by decide +kernel
theorem dX3_hiddenPairs_1 : decode cX3_hiddenPairs 1 = .ok (.istore_n 1, 1) := by decide +kernel
theorem dX3_hiddenPairs_2 : decode cX3_hiddenPairs 2 = .ok (.aload_n 0, 1) := by decide +kernel
theorem dX3_hiddenPairs_3 : decode cX3_hiddenPairs 3 = .ok (.getfield 7, 3) := by decide +kernel
theorem dX3_hiddenPairs_6 : decode cX3_hiddenPairs 6 = .ok (.getfield 86, 3) := by decide +kernel
theorem dX3_hiddenPairs_9 : decode cX3_hiddenPairs 9 = .ok (.iconst 3, 1) := by decide +kernel
theorem dX3_hiddenPairs_10 : decode cX3_hiddenPairs 10 = .ok (.iaload, 1) := by decide +kernel
theorem dX3_hiddenPairs_11 : decode cX3_hiddenPairs 11 = .ok (.istore_n 2, 1) := by decide +kernel
theorem dX3_hiddenPairs_12 : decode cX3_hiddenPairs 12 = .ok (.iconst 0, 1) := by decide +kernel
theorem dX3_hiddenPairs_13 : decode cX3_hiddenPairs 13 = .ok (.istore_n 3, 1) := by decide +kernel
theorem dX3_hiddenPairs_14 : decode cX3_hiddenPairs 14 = .ok (.iload_n 3, 1) := by decide +kernel
theorem dX3_hiddenPairs_15 : decode cX3_hiddenPairs 15 = .ok (.aload_n 0, 1) := by decide +kernel
theorem dX3_hiddenPairs_16 : decode cX3_hiddenPairs 16 = .ok (.getfield 41, 3) := by decide +kernel
theorem dX3_hiddenPairs_19 : decode cX3_hiddenPairs 19 = .ok (.if_icmp .ge 91, 3) := by decide +kernel
theorem dX3_hiddenPairs_22 : decode cX3_hiddenPairs 22 = .ok (.iconst 0, 1) := by decide +kernel
theorem dX3_hiddenPairs_23 : decode cX3_hiddenPairs 23 = .ok (.istore 4, 2) := by decide +kernel
theorem dX3_hiddenPairs_25 : decode cX3_hiddenPairs 25 = .ok (.iload 4, 2) := by decide +kernel
theorem dX3_hiddenPairs_27 : decode cX3_hiddenPairs 27 = .ok (.iload_n 3, 1) := by decide +kernel
theorem dX3_hiddenPairs_28 : decode cX3_hiddenPairs 28 = .ok (.if_icmp .ge 76, 3) := by decide +kernel
theorem dX3_hiddenPairs_31 : decode cX3_hiddenPairs 31 = .ok (.aload_n 0, 1) := by decide +kernel
theorem dX3_hiddenPairs_32 : decode cX3_hiddenPairs 32 = .ok (.getfield 23, 3) := by decide +kernel
theorem dX3_hiddenPairs_35 : decode cX3_hiddenPairs 35 = .ok (.iload_n 3, 1) := by decide +kernel
theorem dX3_hiddenPairs_36 : decode cX3_hiddenPairs 36 = .ok (.bipush 20, 2) := by decide +kernel
theorem dX3_hiddenPairs_38 : decode cX3_hiddenPairs 38 = .ok (.imul, 1) := by decide +kernel
theorem dX3_hiddenPairs_39 : decode cX3_hiddenPairs 39 = .ok (.iload 4, 2) := by decide +kernel
theorem dX3_hiddenPairs_41 : decode cX3_hiddenPairs 41 = .ok (.iadd, 1) := by decide +kernel
theorem dX3_hiddenPairs_42 : decode cX3_hiddenPairs 42 = .ok (.iaload, 1) := by decide +kernel
theorem dX3_hiddenPairs_43 : decode cX3_hiddenPairs 43 = .ok (.iload_n 2, 1) := by decide +kernel
theorem dX3_hiddenPairs_44 : decode cX3_hiddenPairs 44 = .ok (.if_icmp .ge 23, 3) := by decide +kernel
theorem dX3_hiddenPairs_47 : decode cX3_hiddenPairs 47 = .ok (.aload_n 0, 1) := by decide +kernel
theorem dX3_hiddenPairs_48 : decode cX3_hiddenPairs 48 = .ok (.getfield 23, 3) := by decide +kernel
theorem dX3_hiddenPairs_51 : decode cX3_hiddenPairs 51 = .ok (.iload 4, 2) := by decide +kernel
theorem dX3_hiddenPairs_53 : decode cX3_hiddenPairs 53 = .ok (.bipush 20, 2) := by decide +kernel
theorem dX3_hiddenPairs_55 : decode cX3_hiddenPairs 55 = .ok (.imul, 1) := by decide +kernel
theorem dX3_hiddenPairs_56 : decode cX3_hiddenPairs 56 = .ok (.iload_n 3, 1) := by decide +kernel
theorem dX3_hiddenPairs_57 : decode cX3_hiddenPairs 57 = .ok (.iadd, 1) := by decide +kernel
theorem dX3_hiddenPairs_58 : decode cX3_hiddenPairs 58 = .ok (.iaload, 1) := by decide +kernel
theorem dX3_hiddenPairs_59 : decode cX3_hiddenPairs 59 = .ok (.iload_n 2, 1) := by decide +kernel
theorem dX3_hiddenPairs_60 : decode cX3_hiddenPairs 60 = .ok (.if_icmp .ge 7, 3) := by decide +kernel
theorem dX3_hiddenPairs_63 : decode cX3_hiddenPairs 63 = .ok (.iconst 1, 1) := by decide +kernel
theorem dX3_hiddenPairs_64 : decode cX3_hiddenPairs 64 = .ok (.goto 4, 3) := by decide +kernel
theorem dX3_hiddenPairs_67 : decode cX3_hiddenPairs 67 = .ok (.iconst 0, 1) := by decide +kernel
theorem dX3_hiddenPairs_68 : decode cX3_hiddenPairs 68 = .ok (.istore 5, 2) := by decide +kernel
theorem dX3_hiddenPairs_70 : decode cX3_hiddenPairs 70 = .ok (.iload 5, 2) := by decide +kernel
theorem dX3_hiddenPairs_72 : decode cX3_hiddenPairs 72 = .ok (.ifCond .eq 26, 3) := by decide +kernel
theorem dX3_hiddenPairs_75 : decode cX3_hiddenPairs 75 = .ok (.aload_n 0, 1) := by decide +kernel
theorem dX3_hiddenPairs_76 : decode cX3_hiddenPairs 76 = .ok (.iload_n 3, 1) := by decide +kernel
theorem dX3_hiddenPairs_77 : decode cX3_hiddenPairs 77 = .ok (.iload 4, 2) := by decide +kernel
theorem dX3_hiddenPairs_79 : decode cX3_hiddenPairs 79 = .ok (.invokevirtual 114, 3) := by decide +kernel
theorem dX3_hiddenPairs_82 : decode cX3_hiddenPairs 82 = .ok (.ifCond .ne 13, 3) := by decide +kernel
theorem dX3_hiddenPairs_85 : decode cX3_hiddenPairs 85 = .ok (.aload_n 0, 1) := by decide +kernel
theorem dX3_hiddenPairs_86 : decode cX3_hiddenPairs 86 = .ok (.iload 4, 2) := by decide +kernel
theorem dX3_hiddenPairs_88 : decode cX3_hiddenPairs 88 = .ok (.iload_n 3, 1) := by decide +kernel
theorem dX3_hiddenPairs_89 : decode cX3_hiddenPairs 89 = .ok (.invokevirtual 114, 3) := by decide +kernel
theorem dX3_hiddenPairs_92 : decode cX3_hiddenPairs 92 = .ok (.ifCond .eq 6, 3) := by decide +kernel
theorem dX3_hiddenPairs_95 : decode cX3_hiddenPairs 95 = .ok (.iinc 1 1, 3) := by decide +kernel
theorem dX3_hiddenPairs_98 : decode cX3_hiddenPairs 98 = .ok (.iinc 4 1, 3) := by decide +kernel
theorem dX3_hiddenPairs_101 : decode cX3_hiddenPairs 101 = .ok (.goto (-76), 3) := by decide +kernel
theorem dX3_hiddenPairs_104 : decode cX3_hiddenPairs 104 = .ok (.iinc 3 1, 3) := by decide +kernel
theorem dX3_hiddenPairs_107 : decode cX3_hiddenPairs 107 = .ok (.goto (-93), 3) := by decide +kernel
theorem dX3_hiddenPairs_110 : decode cX3_hiddenPairs 110 = .ok (.iload_n 1, 1) := by decide +kernel
theorem dX3_hiddenPairs_111 : decode cX3_hiddenPairs 111 = .ok (.ireturn, 1) := by decide +kernel
theorem dX3_isDrownedBy_0 : decode cX3_isDrownedBy 0 = .ok (.aload_n 0, 1) := by decide +kernel
theorem dX3_isDrownedBy_1 : decode cX3_isDrownedBy 1 = .ok (.iload_n 1, 1) := by decide +kernel
theorem dX3_isDrownedBy_2 : decode cX3_isDrownedBy 2 = .ok (.lconst 0, 1) := by decide +kernel
theorem dX3_isDrownedBy_3 : decode cX3_isDrownedBy 3 = .ok (.invokevirtual 107, 3) := by decide +kernel
theorem dX3_isDrownedBy_6 : decode cX3_isDrownedBy 6 = .ok (.ifCond .eq 27, 3) := by decide +kernel
theorem dX3_isDrownedBy_9 : decode cX3_isDrownedBy 9 = .ok (.aload_n 0, 1) := by decide +kernel
theorem dX3_isDrownedBy_10 : decode cX3_isDrownedBy 10 = .ok (.iload_n 1, 1) := by decide +kernel
theorem dX3_isDrownedBy_11 : decode cX3_isDrownedBy 11 = .ok (.aload_n 0, 1) := by decide +kernel
theorem dX3_isDrownedBy_12 : decode cX3_isDrownedBy 12 = .ok (.getfield 26, 3) := by decide +kernel
theorem dX3_isDrownedBy_15 : decode cX3_isDrownedBy 15 = .ok (.iload_n 1, 1) := by decide +kernel
theorem dX3_isDrownedBy_16 : decode cX3_isDrownedBy 16 = .ok (.bipush 20, 2) := by decide +kernel
theorem dX3_isDrownedBy_18 : decode cX3_isDrownedBy 18 = .ok (.imul, 1) := by decide +kernel
theorem dX3_isDrownedBy_19 : decode cX3_isDrownedBy 19 = .ok (.iload_n 2, 1) := by decide +kernel
theorem dX3_isDrownedBy_20 : decode cX3_isDrownedBy 20 = .ok (.iadd, 1) := by decide +kernel
theorem dX3_isDrownedBy_21 : decode cX3_isDrownedBy 21 = .ok (.iaload, 1) := by decide +kernel
theorem dX3_isDrownedBy_22 : decode cX3_isDrownedBy 22 = .ok (.i2l, 1) := by decide +kernel
theorem dX3_isDrownedBy_23 : decode cX3_isDrownedBy 23 = .ok (.invokevirtual 107, 3) := by decide +kernel
theorem dX3_isDrownedBy_26 : decode cX3_isDrownedBy 26 = .ok (.ifCond .ne 7, 3) := by decide +kernel
theorem dX3_isDrownedBy_29 : decode cX3_isDrownedBy 29 = .ok (.iconst 1, 1) := by decide +kernel
theorem dX3_isDrownedBy_30 : decode cX3_isDrownedBy 30 = .ok (.goto 4, 3) := by decide +kernel
theorem dX3_isDrownedBy_33 : decode cX3_isDrownedBy 33 = .ok (.iconst 0, 1) := by decide +kernel
theorem dX3_isDrownedBy_34 : decode cX3_isDrownedBy 34 = .ok (.ireturn, 1) := by decide +kernel
theorem dX4_init_0 : decode cX4_init 0 = .ok (.aload_n 0, 1) := by decide +kernel
theorem dX4_init_1 : decode cX4_init 1 = .ok (.invokespecial 3, 3) := by decide +kernel
theorem dX4_init_4 : decode cX4_init 4 = .ok (.aload_n 0, 1) := by decide +kernel
theorem dX4_init_5 : decode cX4_init 5 = .ok (.aload_n 1, 1) := by decide +kernel
theorem dX4_init_6 : decode cX4_init 6 = .ok (.putfield 9, 3) := by decide +kernel
theorem dX4_init_9 : decode cX4_init 9 = .ok (.aload_n 0, 1) := by decide +kernel
theorem dX4_init_10 : decode cX4_init 10 = .ok (.aload_n 2, 1) := by decide +kernel
theorem dX4_init_11 : decode cX4_init 11 = .ok (.putfield 15, 3) := by decide +kernel
theorem dX4_init_14 : decode cX4_init 14 = .ok (.aload_n 0, 1) := by decide +kernel
theorem dX4_init_15 : decode cX4_init 15 = .ok (.bipush 8, 2) := by decide +kernel
theorem dX4_init_17 : decode cX4_init 17 = .ok (.newarray .int, 2) := by decide +kernel
theorem dX4_init_19 : decode cX4_init 19 = .ok (.putfield 19, 3) := by decide +kernel
theorem dX4_init_22 : decode cX4_init 22 = .ok (.aload_n 0, 1) := by decide +kernel
theorem dX4_init_23 : decode cX4_init 23 = .ok (.bipush 64, 2) := by decide +kernel
theorem dX4_init_25 : decode cX4_init 25 = .ok (.newarray .int, 2) := by decide +kernel
theorem dX4_init_27 : decode cX4_init 27 = .ok (.putfield 23, 3) := by decide +kernel
theorem dX4_init_30 : decode cX4_init 30 = .ok (.aload_n 0, 1) := by decide +kernel
theorem dX4_init_31 : decode cX4_init 31 = .ok (.sipush 256, 3) := by decide +kernel
theorem dX4_init_34 : decode cX4_init 34 = .ok (.newarray .boolean, 2) := by decide +kernel
theorem dX4_init_36 : decode cX4_init 36 = .ok (.putfield 26, 3) := by decide +kernel
theorem dX4_init_39 : decode cX4_init 39 = .ok (.aload_n 0, 1) := by decide +kernel
theorem dX4_init_40 : decode cX4_init 40 = .ok (.sipush 256, 3) := by decide +kernel
theorem dX4_init_43 : decode cX4_init 43 = .ok (.newarray .int, 2) := by decide +kernel
theorem dX4_init_45 : decode cX4_init 45 = .ok (.putfield 30, 3) := by decide +kernel
theorem dX4_init_48 : decode cX4_init 48 = .ok (.aload_n 0, 1) := by decide +kernel
theorem dX4_init_49 : decode cX4_init 49 = .ok (.bipush 8, 2) := by decide +kernel
theorem dX4_init_51 : decode cX4_init 51 = .ok (.newarray .int, 2) := by decide +kernel
theorem dX4_init_53 : decode cX4_init 53 = .ok (.putfield 33, 3) := by decide +kernel
theorem dX4_init_56 : decode cX4_init 56 = .ok (.aload_n 0, 1) := by decide +kernel
theorem dX4_init_57 : decode cX4_init 57 = .ok (.bipush 8, 2) := by decide +kernel
theorem dX4_init_59 : decode cX4_init 59 = .ok (.newarray .int, 2) := by decide +kernel
theorem dX4_init_61 : decode cX4_init 61 = .ok (.putfield 36, 3) := by decide +kernel
theorem dX4_init_64 : decode cX4_init 64 = .ok (.return_, 1) := by decide +kernel
theorem dX4_isSet_0 : decode cX4_isSet 0 = .ok (.iload_n 1, 1) := by decide +kernel
theorem dX4_isSet_1 : decode cX4_isSet 1 = .ok (.invokestatic 39, 3) := by decide +kernel
theorem dX4_isSet_4 : decode cX4_isSet 4 = .ok (.istore_n 2, 1) := by decide +kernel
theorem dX4_isSet_5 : decode cX4_isSet 5 = .ok (.iload_n 2, 1) := by decide +kernel
theorem dX4_isSet_6 : decode cX4_isSet 6 = .ok (.iconst 1, 1) := by decide +kernel
theorem dX4_isSet_7 : decode cX4_isSet 7 = .ok (.if_icmp .lt 31, 3) := by decide +kernel
theorem dX4_isSet_10 : decode cX4_isSet 10 = .ok (.iload_n 2, 1) := by decide +kernel
theorem dX4_isSet_11 : decode cX4_isSet 11 = .ok (.bipush 8, 2) := by decide +kernel
theorem dX4_isSet_13 : decode cX4_isSet 13 = .ok (.if_icmp .gt 25, 3) := by decide +kernel
theorem dX4_isSet_16 : decode cX4_isSet 16 = .ok (.iload_n 1, 1) := by decide +kernel
theorem dX4_isSet_17 : decode cX4_isSet 17 = .ok (.iconst 1, 1) := by decide +kernel
theorem dX4_isSet_18 : decode cX4_isSet 18 = .ok (.aload_n 0, 1) := by decide +kernel
theorem dX4_isSet_19 : decode cX4_isSet 19 = .ok (.getfield 15, 3) := by decide +kernel
theorem dX4_isSet_22 : decode cX4_isSet 22 = .ok (.getfield 45, 3) := by decide +kernel
theorem dX4_isSet_25 : decode cX4_isSet 25 = .ok (.ishl, 1) := by decide +kernel
theorem dX4_isSet_26 : decode cX4_isSet 26 = .ok (.iconst 1, 1) := by decide +kernel
theorem dX4_isSet_27 : decode cX4_isSet 27 = .ok (.isub, 1) := by decide +kernel
theorem dX4_isSet_28 : decode cX4_isSet 28 = .ok (.iconst (-1), 1) := by decide +kernel
theorem dX4_isSet_29 : decode cX4_isSet 29 = .ok (.ixor, 1) := by decide +kernel
theorem dX4_isSet_30 : decode cX4_isSet 30 = .ok (.iand, 1) := by decide +kernel
theorem dX4_isSet_31 : decode cX4_isSet 31 = .ok (.ifCond .ne 7, 3) := by decide +kernel
theorem dX4_isSet_34 : decode cX4_isSet 34 = .ok (.iconst 1, 1) := by decide +kernel
theorem dX4_isSet_35 : decode cX4_isSet 35 = .ok (.goto 4, 3) := by decide +kernel
theorem dX4_isSet_38 : decode cX4_isSet 38 = .ok (.iconst 0, 1) := by decide +kernel
theorem dX4_isSet_39 : decode cX4_isSet 39 = .ok (.ireturn, 1) := by decide +kernel
theorem dX4_whole_0 : decode cX4_whole 0 = .ok (.iconst 1, 1) := by decide +kernel
theorem dX4_whole_1 : decode cX4_whole 1 = .ok (.aload_n 0, 1) := by decide +kernel
theorem dX4_whole_2 : decode cX4_whole 2 = .ok (.getfield 51, 3) := by decide +kernel
theorem dX4_whole_5 : decode cX4_whole 5 = .ok (.ishl, 1) := by decide +kernel
theorem dX4_whole_6 : decode cX4_whole 6 = .ok (.iconst 1, 1) := by decide +kernel
theorem dX4_whole_7 : decode cX4_whole 7 = .ok (.isub, 1) := by decide +kernel
theorem dX4_whole_8 : decode cX4_whole 8 = .ok (.ireturn, 1) := by decide +kernel
theorem dX4_prepare_0 : decode cX4_prepare 0 = .ok (.aload_n 0, 1) := by decide +kernel
theorem dX4_prepare_1 : decode cX4_prepare 1 = .ok (.iconst 0, 1) := by decide +kernel
theorem dX4_prepare_2 : decode cX4_prepare 2 = .ok (.putfield 51, 3) := by decide +kernel
theorem dX4_prepare_5 : decode cX4_prepare 5 = .ok (.iconst 0, 1) := by decide +kernel
theorem dX4_prepare_6 : decode cX4_prepare 6 = .ok (.istore_n 2, 1) := by decide +kernel
theorem dX4_prepare_7 : decode cX4_prepare 7 = .ok (.iload_n 2, 1) := by decide +kernel
theorem dX4_prepare_8 : decode cX4_prepare 8 = .ok (.aload_n 0, 1) := by decide +kernel
theorem dX4_prepare_9 : decode cX4_prepare 9 = .ok (.getfield 15, 3) := by decide +kernel
theorem dX4_prepare_12 : decode cX4_prepare 12 = .ok (.getfield 45, 3) := by decide +kernel
theorem dX4_prepare_15 : decode cX4_prepare 15 = .ok (.if_icmp .ge 46, 3) := by decide +kernel
theorem dX4_prepare_18 : decode cX4_prepare 18 = .ok (.aload_n 0, 1) := by decide +kernel
theorem dX4_prepare_19 : decode cX4_prepare 19 = .ok (.getfield 51, 3) := by decide +kernel
theorem dX4_prepare_22 : decode cX4_prepare 22 = .ok (.bipush 8, 2) := by decide +kernel
theorem dX4_prepare_24 : decode cX4_prepare 24 = .ok (.if_icmp .ge 37, 3) := by decide +kernel
theorem dX4_prepare_27 : decode cX4_prepare 27 = .ok (.iload_n 1, 1) := by decide +kernel
theorem dX4_prepare_28 : decode cX4_prepare 28 = .ok (.iload_n 2, 1) := by decide +kernel
theorem dX4_prepare_29 : decode cX4_prepare 29 = .ok (.ishr, 1) := by decide +kernel
theorem dX4_prepare_30 : decode cX4_prepare 30 = .ok (.iconst 1, 1) := by decide +kernel
theorem dX4_prepare_31 : decode cX4_prepare 31 = .ok (.iand, 1) := by decide +kernel
theorem dX4_prepare_32 : decode cX4_prepare 32 = .ok (.ifCond .eq 23, 3) := by decide +kernel
theorem dX4_prepare_35 : decode cX4_prepare 35 = .ok (.aload_n 0, 1) := by decide +kernel
theorem dX4_prepare_36 : decode cX4_prepare 36 = .ok (.getfield 19, 3) := by decide +kernel
theorem dX4_prepare_39 : decode cX4_prepare 39 = .ok (.aload_n 0, 1) := by decide +kernel
theorem dX4_prepare_40 : decode cX4_prepare 40 = .ok (.getfield 51, 3) := by decide +kernel
theorem dX4_prepare_43 : decode cX4_prepare 43 = .ok (.iload_n 2, 1) := by decide +kernel
theorem dX4_prepare_44 : decode cX4_prepare 44 = .ok (.iastore, 1) := by decide +kernel
theorem dX4_prepare_45 : decode cX4_prepare 45 = .ok (.aload_n 0, 1) := by decide +kernel
theorem dX4_prepare_46 : decode cX4_prepare 46 = .ok (.dup, 1) := by decide +kernel
theorem dX4_prepare_47 : decode cX4_prepare 47 = .ok (.getfield 51, 3) := by decide +kernel
theorem dX4_prepare_50 : decode cX4_prepare 50 = .ok (.iconst 1, 1) := by decide +kernel
theorem dX4_prepare_51 : decode cX4_prepare 51 = .ok (.iadd, 1) := by decide +kernel
theorem dX4_prepare_52 : decode cX4_prepare 52 = .ok (.putfield 51, 3) := by decide +kernel
theorem dX4_prepare_55 : decode cX4_prepare 55 = .ok (.iinc 2 1, 3) := by decide +kernel
theorem dX4_prepare_58 : decode cX4_prepare 58 = .ok (.goto (-51), 3) := by decide +kernel
theorem dX4_prepare_61 : decode cX4_prepare 61 = .ok (.iconst 0, 1) := by decide +kernel
theorem dX4_prepare_62 : decode cX4_prepare 62 = .ok (.istore_n 2, 1) := by decide +kernel
theorem dX4_prepare_63 : decode cX4_prepare 63 = .ok (.iload_n 2, 1) := by decide +kernel
theorem dX4_prepare_64 : decode cX4_prepare 64 = .ok (.aload_n 0, 1) := by decide +kernel
theorem dX4_prepare_65 : decode cX4_prepare 65 = .ok (.getfield 51, 3) := by decide +kernel
theorem dX4_prepare_68 : decode cX4_prepare 68 = .ok (.if_icmp .ge 96, 3) := by decide +kernel
theorem dX4_prepare_71 : decode cX4_prepare 71 = .ok (.iconst 0, 1) := by decide +kernel
theorem dX4_prepare_72 : decode cX4_prepare 72 = .ok (.istore_n 3, 1) := by decide +kernel
theorem dX4_prepare_73 : decode cX4_prepare 73 = .ok (.iload_n 3, 1) := by decide +kernel
theorem dX4_prepare_74 : decode cX4_prepare 74 = .ok (.aload_n 0, 1) := by decide +kernel
theorem dX4_prepare_75 : decode cX4_prepare 75 = .ok (.getfield 51, 3) := by decide +kernel
theorem dX4_prepare_78 : decode cX4_prepare 78 = .ok (.if_icmp .ge 80, 3) := by decide +kernel
theorem dX4_prepare_81 : decode cX4_prepare 81 = .ok (.iload_n 2, 1) := by decide +kernel
theorem dX4_prepare_82 : decode cX4_prepare 82 = .ok (.iload_n 3, 1) := by decide +kernel
theorem dX4_prepare_83 : decode cX4_prepare 83 = .ok (.if_icmp .ne 23, 3) := by decide +kernel
theorem dX4_prepare_86 : decode cX4_prepare 86 = .ok (.aload_n 0, 1) := by decide +kernel
theorem dX4_prepare_87 : decode cX4_prepare 87 = .ok (.getfield 15, 3) := by decide +kernel
theorem dX4_prepare_90 : decode cX4_prepare 90 = .ok (.getfield 52, 3) := by decide +kernel
theorem dX4_prepare_93 : decode cX4_prepare 93 = .ok (.aload_n 0, 1) := by decide +kernel
theorem dX4_prepare_94 : decode cX4_prepare 94 = .ok (.getfield 19, 3) := by decide +kernel
theorem dX4_prepare_97 : decode cX4_prepare 97 = .ok (.iload_n 2, 1) := by decide +kernel
theorem dX4_prepare_98 : decode cX4_prepare 98 = .ok (.iaload, 1) := by decide +kernel
theorem dX4_prepare_99 : decode cX4_prepare 99 = .ok (.aaload, 1) := by decide +kernel
theorem dX4_prepare_100 : decode cX4_prepare 100 = .ok (.invokevirtual 56, 3) := by decide +kernel
theorem dX4_prepare_103 : decode cX4_prepare 103 = .ok (.goto 4, 3) := by decide +kernel
theorem dX4_prepare_106 : decode cX4_prepare 106 = .ok (.iconst 0, 1) := by decide +kernel
theorem dX4_prepare_107 : decode cX4_prepare 107 = .ok (.istore 4, 2) := by decide +kernel
theorem dX4_prepare_109 : decode cX4_prepare 109 = .ok (.aload_n 0, 1) := by decide +kernel
theorem dX4_prepare_110 : decode cX4_prepare 110 = .ok (.getfield 23, 3) := by decide +kernel
theorem dX4_prepare_113 : decode cX4_prepare 113 = .ok (.iload_n 2, 1) := by decide +kernel
theorem dX4_prepare_114 : decode cX4_prepare 114 = .ok (.bipush 8, 2) := by decide +kernel
theorem dX4_prepare_116 : decode cX4_prepare 116 = .ok (.imul, 1) := by decide +kernel
theorem dX4_prepare_117 : decode cX4_prepare 117 = .ok (.iload_n 3, 1) := by decide +kernel
theorem dX4_prepare_118 : decode cX4_prepare 118 = .ok (.iadd, 1) := by decide +kernel
theorem dX4_prepare_119 : decode cX4_prepare 119 = .ok (.aload_n 0, 1) := by decide +kernel
theorem dX4_prepare_120 : decode cX4_prepare 120 = .ok (.getfield 15, 3) := by decide +kernel
theorem dX4_prepare_123 : decode cX4_prepare 123 = .ok (.aload_n 0, 1) := by decide +kernel
theorem dX4_prepare_124 : decode cX4_prepare 124 = .ok (.getfield 19, 3) := by decide +kernel
theorem dX4_prepare_127 : decode cX4_prepare 127 = .ok (.iload_n 3, 1) := by decide +kernel
theorem dX4_prepare_128 : decode cX4_prepare 128 = .ok (.iaload, 1) := by decide +kernel
theorem dX4_prepare_129 : decode cX4_prepare 129 = .ok (.aload_n 0, 1) := by decide +kernel
theorem dX4_prepare_130 : decode cX4_prepare 130 = .ok (.getfield 15, 3) := by decide +kernel
theorem dX4_prepare_133 : decode cX4_prepare 133 = .ok (.getfield 52, 3) := by decide +kernel
theorem dX4_prepare_136 : decode cX4_prepare 136 = .ok (.aload_n 0, 1) := by decide +kernel
theorem dX4_prepare_137 : decode cX4_prepare 137 = .ok (.getfield 19, 3) := by decide +kernel
theorem dX4_prepare_140 : decode cX4_prepare 140 = .ok (.iload_n 2, 1) := by decide +kernel
theorem dX4_prepare_141 : decode cX4_prepare 141 = .ok (.iaload, 1) := by decide +kernel
theorem dX4_prepare_142 : decode cX4_prepare 142 = .ok (.aaload, 1) := by decide +kernel
theorem dX4_prepare_143 : decode cX4_prepare 143 = .ok (.getfield 62, 3) := by decide +kernel
theorem dX4_prepare_146 : decode cX4_prepare 146 = .ok (.iload 4, 2) := by decide +kernel
theorem dX4_prepare_148 : decode cX4_prepare 148 = .ok (.invokevirtual 65, 3) := by decide +kernel
theorem dX4_prepare_151 : decode cX4_prepare 151 = .ok (.iastore, 1) := by decide +kernel
theorem dX4_prepare_152 : decode cX4_prepare 152 = .ok (.iinc 3 1, 3) := by decide +kernel
theorem dX4_prepare_155 : decode cX4_prepare 155 = .ok (.goto (-82), 3) := by decide +kernel
theorem dX4_prepare_158 : decode cX4_prepare 158 = .ok (.iinc 2 1, 3) := by decide +kernel
theorem dX4_prepare_161 : decode cX4_prepare 161 = .ok (.goto (-98), 3) := by decide +kernel
theorem dX4_prepare_164 : decode cX4_prepare 164 = .ok (.iconst 0, 1) := by decide +kernel
theorem dX4_prepare_165 : decode cX4_prepare 165 = .ok (.istore_n 2, 1) := by decide +kernel
theorem dX4_prepare_166 : decode cX4_prepare 166 = .ok (.iload_n 2, 1) := by decide +kernel
theorem dX4_prepare_167 : decode cX4_prepare 167 = .ok (.aload_n 0, 1) := by decide +kernel
theorem dX4_prepare_168 : decode cX4_prepare 168 = .ok (.invokevirtual 69, 3) := by decide +kernel
theorem dX4_prepare_171 : decode cX4_prepare 171 = .ok (.if_icmp .gt 20, 3) := by decide +kernel
theorem dX4_prepare_174 : decode cX4_prepare 174 = .ok (.aload_n 0, 1) := by decide +kernel
theorem dX4_prepare_175 : decode cX4_prepare 175 = .ok (.getfield 26, 3) := by decide +kernel
theorem dX4_prepare_178 : decode cX4_prepare 178 = .ok (.iload_n 2, 1) := by decide +kernel
theorem dX4_prepare_179 : decode cX4_prepare 179 = .ok (.aload_n 0, 1) := by decide +kernel
theorem dX4_prepare_180 : decode cX4_prepare 180 = .ok (.iload_n 2, 1) := by decide +kernel
theorem dX4_prepare_181 : decode cX4_prepare 181 = .ok (.invokevirtual 72, 3) := by decide +kernel
theorem dX4_prepare_184 : decode cX4_prepare 184 = .ok (.bastore, 1) := by decide +kernel
theorem dX4_prepare_185 : decode cX4_prepare 185 = .ok (.iinc 2 1, 3) := by decide +kernel
theorem dX4_prepare_188 : decode cX4_prepare 188 = .ok (.goto (-22), 3) := by decide +kernel
theorem dX4_prepare_191 : decode cX4_prepare 191 = .ok (.aload_n 0, 1) := by decide +kernel
theorem dX4_prepare_192 : decode cX4_prepare 192 = .ok (.invokevirtual 76, 3) := by decide +kernel
theorem dX4_prepare_195 : decode cX4_prepare 195 = .ok (.return_, 1) := by decide +kernel
theorem dX4_mayBeTogether_0 : decode cX4_mayBeTogether 0 = .ok (.iconst 0, 1) := by decide +kernel
theorem dX4_mayBeTogether_1 : decode cX4_mayBeTogether 1 = .ok (.istore_n 2, 1) := by decide +kernel
theorem dX4_mayBeTogether_2 : decode cX4_mayBeTogether 2 = .ok (.iload_n 2, 1) := by decide +kernel
theorem dX4_mayBeTogether_3 : decode cX4_mayBeTogether 3 = .ok (.aload_n 0, 1) := by decide +kernel
theorem dX4_mayBeTogether_4 : decode cX4_mayBeTogether 4 = .ok (.getfield 51, 3) := by decide +kernel
theorem dX4_mayBeTogether_7 : decode cX4_mayBeTogether 7 = .ok (.if_icmp .ge 28, 3) := by decide +kernel
theorem dX4_mayBeTogether_10 : decode cX4_mayBeTogether 10 = .ok (.iload_n 1, 1) := by decide +kernel
theorem dX4_mayBeTogether_11 : decode cX4_mayBeTogether 11 = .ok (.iload_n 2, 1) := by decide +kernel
theorem dX4_mayBeTogether_12 : decode cX4_mayBeTogether 12 = .ok (.ishr, 1) := by decide +kernel
theorem dX4_mayBeTogether_13 : decode cX4_mayBeTogether 13 = .ok (.iconst 1, 1) := by decide +kernel
theorem dX4_mayBeTogether_14 : decode cX4_mayBeTogether 14 = .ok (.iand, 1) := by decide +kernel
theorem dX4_mayBeTogether_15 : decode cX4_mayBeTogether 15 = .ok (.ifCond .eq 14, 3) := by decide +kernel
theorem dX4_mayBeTogether_18 : decode cX4_mayBeTogether 18 = .ok (.aload_n 0, 1) := by decide +kernel
theorem dX4_mayBeTogether_19 : decode cX4_mayBeTogether 19 = .ok (.iload_n 2, 1) := by decide +kernel
theorem dX4_mayBeTogether_20 : decode cX4_mayBeTogether 20 = .ok (.iload_n 1, 1) := by decide +kernel
theorem dX4_mayBeTogether_21 : decode cX4_mayBeTogether 21 = .ok (.invokevirtual 79, 3) := by decide +kernel
theorem dX4_mayBeTogether_24 : decode cX4_mayBeTogether 24 = .ok (.ifCond .ne 5, 3) := by decide +kernel
theorem dX4_mayBeTogether_27 : decode cX4_mayBeTogether 27 = .ok (.iconst 0, 1) := by decide +kernel
theorem dX4_mayBeTogether_28 : decode cX4_mayBeTogether 28 = .ok (.ireturn, 1) := by decide +kernel
theorem dX4_mayBeTogether_29 : decode cX4_mayBeTogether 29 = .ok (.iinc 2 1, 3) := by decide +kernel
theorem dX4_mayBeTogether_32 : decode cX4_mayBeTogether 32 = .ok (.goto (-30), 3) := by decide +kernel
