theorem dX12_isHeard_30 : decode cX12_isHeard 30 = .ok (.goto 4, 3) := by decide +kernel
theorem dX12_isHeard_33 : decode cX12_isHeard 33 = .ok (.iconst 0, 1) := by decide +kernel
theorem dX12_isHeard_34 : decode cX12_isHeard 34 = .ok (.ireturn, 1) := by decide +kernel
theorem dX12_drownsBy_0 : decode cX12_drownsBy 0 = .ok (.aload_n 0, 1) := by decide +kernel
theorem dX12_drownsBy_1 : decode cX12_drownsBy 1 = .ok (.getfield 30, 3) := by decide +kernel
theorem dX12_drownsBy_4 : decode cX12_drownsBy 4 = .ok (.iconst 2, 1) := by decide +kernel
theorem dX12_drownsBy_5 : decode cX12_drownsBy 5 = .ok (.iaload, 1) := by decide +kernel
theorem dX12_drownsBy_6 : decode cX12_drownsBy 6 = .ok (.i2l, 1) := by decide +kernel
theorem dX12_drownsBy_7 : decode cX12_drownsBy 7 = .ok (.lstore_n 3, 1) := by decide +kernel
theorem dX12_drownsBy_8 : decode cX12_drownsBy 8 = .ok (.iconst 0, 1) := by decide +kernel
theorem dX12_drownsBy_9 : decode cX12_drownsBy 9 = .ok (.istore 5, 2) := by decide +kernel
theorem dX12_drownsBy_11 : decode cX12_drownsBy 11 = .ok (.iload 5, 2) := by decide +kernel
theorem dX12_drownsBy_13 : decode cX12_drownsBy 13 = .ok (.aload_n 0, 1) := by decide +kernel
theorem dX12_drownsBy_14 : decode cX12_drownsBy 14 = .ok (.getfield 176, 3) := by decide +kernel
theorem dX12_drownsBy_17 : decode cX12_drownsBy 17 = .ok (.if_icmp .ge 46, 3) := by decide +kernel
theorem dX12_drownsBy_20 : decode cX12_drownsBy 20 = .ok (.lload_n 3, 1) := by decide +kernel
theorem dX12_drownsBy_21 : decode cX12_drownsBy 21 = .ok (.iload 5, 2) := by decide +kernel
theorem dX12_drownsBy_23 : decode cX12_drownsBy 23 = .ok (.iload_n 1, 1) := by decide +kernel
theorem dX12_drownsBy_24 : decode cX12_drownsBy 24 = .ok (.if_icmp .eq 30, 3) := by decide +kernel
theorem dX12_drownsBy_27 : decode cX12_drownsBy 27 = .ok (.iload_n 2, 1) := by decide +kernel
theorem dX12_drownsBy_28 : decode cX12_drownsBy 28 = .ok (.iload 5, 2) := by decide +kernel
theorem dX12_drownsBy_30 : decode cX12_drownsBy 30 = .ok (.ishr, 1) := by decide +kernel
theorem dX12_drownsBy_31 : decode cX12_drownsBy 31 = .ok (.iconst 1, 1) := by decide +kernel
theorem dX12_drownsBy_32 : decode cX12_drownsBy 32 = .ok (.iand, 1) := by decide +kernel
theorem dX12_drownsBy_33 : decode cX12_drownsBy 33 = .ok (.iconst 1, 1) := by decide +kernel
theorem dX12_drownsBy_34 : decode cX12_drownsBy 34 = .ok (.if_icmp .ne 20, 3) := by decide +kernel
theorem dX12_drownsBy_37 : decode cX12_drownsBy 37 = .ok (.aload_n 0, 1) := by decide +kernel
theorem dX12_drownsBy_38 : decode cX12_drownsBy 38 = .ok (.iload 5, 2) := by decide +kernel
theorem dX12_drownsBy_40 : decode cX12_drownsBy 40 = .ok (.aload_n 0, 1) := by decide +kernel
theorem dX12_drownsBy_41 : decode cX12_drownsBy 41 = .ok (.getfield 48, 3) := by decide +kernel
theorem dX12_drownsBy_44 : decode cX12_drownsBy 44 = .ok (.iload_n 1, 1) := by decide +kernel
theorem dX12_drownsBy_45 : decode cX12_drownsBy 45 = .ok (.iaload, 1) := by decide +kernel
theorem dX12_drownsBy_46 : decode cX12_drownsBy 46 = .ok (.iconst 0, 1) := by decide +kernel
theorem dX12_drownsBy_47 : decode cX12_drownsBy 47 = .ok (.invokevirtual 251, 3) := by decide +kernel
theorem dX12_drownsBy_50 : decode cX12_drownsBy 50 = .ok (.i2l, 1) := by decide +kernel
theorem dX12_drownsBy_51 : decode cX12_drownsBy 51 = .ok (.goto 4, 3) := by decide +kernel
theorem dX12_drownsBy_54 : decode cX12_drownsBy 54 = .ok (.lconst 0, 1) := by decide +kernel
theorem dX12_drownsBy_55 : decode cX12_drownsBy 55 = .ok (.ladd, 1) := by decide +kernel
theorem dX12_drownsBy_56 : decode cX12_drownsBy 56 = .ok (.lstore_n 3, 1) := by decide +kernel
theorem dX12_drownsBy_57 : decode cX12_drownsBy 57 = .ok (.iinc 5 1, 3) := by decide +kernel
theorem dX12_drownsBy_60 : decode cX12_drownsBy 60 = .ok (.goto (-49), 3) := by decide +kernel
theorem dX12_drownsBy_63 : decode cX12_drownsBy 63 = .ok (.lload_n 3, 1) := by decide +kernel
theorem dX12_drownsBy_64 : decode cX12_drownsBy 64 = .ok (.lreturn, 1) := by decide +kernel
theorem dX12_others_0 : decode cX12_others 0 = .ok (.iconst 0, 1) := by decide +kernel
theorem dX12_others_1 : decode cX12_others 1 = .ok (.istore_n 2, 1) := by decide +kernel
theorem dX12_others_2 : decode cX12_others 2 = .ok (.iconst 0, 1) := by decide +kernel
theorem dX12_others_3 : decode cX12_others 3 = .ok (.istore_n 3, 1) := by decide +kernel
theorem dX12_others_4 : decode cX12_others 4 = .ok (.iload_n 3, 1) := by decide +kernel
theorem dX12_others_5 : decode cX12_others 5 = .ok (.aload_n 0, 1) := by decide +kernel
theorem dX12_others_6 : decode cX12_others 6 = .ok (.getfield 176, 3) := by decide +kernel
theorem dX12_others_9 : decode cX12_others 9 = .ok (.if_icmp .ge 46, 3) := by decide +kernel
theorem dX12_others_12 : decode cX12_others 12 = .ok (.iload_n 2, 1) := by decide +kernel
theorem dX12_others_13 : decode cX12_others 13 = .ok (.iload_n 3, 1) := by decide +kernel
theorem dX12_others_14 : decode cX12_others 14 = .ok (.iload_n 1, 1) := by decide +kernel
theorem dX12_others_15 : decode cX12_others 15 = .ok (.if_icmp .eq 31, 3) := by decide +kernel
theorem dX12_others_18 : decode cX12_others 18 = .ok (.aload_n 0, 1) := by decide +kernel
theorem dX12_others_19 : decode cX12_others 19 = .ok (.getfield 63, 3) := by decide +kernel
theorem dX12_others_22 : decode cX12_others 22 = .ok (.iload_n 3, 1) := by decide +kernel
theorem dX12_others_23 : decode cX12_others 23 = .ok (.baload, 1) := by decide +kernel
theorem dX12_others_24 : decode cX12_others 24 = .ok (.ifCond .eq 22, 3) := by decide +kernel
theorem dX12_others_27 : decode cX12_others 27 = .ok (.aload_n 0, 1) := by decide +kernel
theorem dX12_others_28 : decode cX12_others 28 = .ok (.iload_n 3, 1) := by decide +kernel
theorem dX12_others_29 : decode cX12_others 29 = .ok (.invokevirtual 244, 3) := by decide +kernel
theorem dX12_others_32 : decode cX12_others 32 = .ok (.aload_n 0, 1) := by decide +kernel
theorem dX12_others_33 : decode cX12_others 33 = .ok (.iload_n 1, 1) := by decide +kernel
theorem dX12_others_34 : decode cX12_others 34 = .ok (.invokevirtual 244, 3) := by decide +kernel
theorem dX12_others_37 : decode cX12_others 37 = .ok (.if_icmp .ne 9, 3) := by decide +kernel
theorem dX12_others_40 : decode cX12_others 40 = .ok (.iconst 1, 1) := by decide +kernel
theorem dX12_others_41 : decode cX12_others 41 = .ok (.iload_n 3, 1) := by decide +kernel
theorem dX12_others_42 : decode cX12_others 42 = .ok (.ishl, 1) := by decide +kernel
theorem dX12_others_43 : decode cX12_others 43 = .ok (.goto 4, 3) := by decide +kernel
theorem dX12_others_46 : decode cX12_others 46 = .ok (.iconst 0, 1) := by decide +kernel
theorem dX12_others_47 : decode cX12_others 47 = .ok (.ior, 1) := by decide +kernel
theorem dX12_others_48 : decode cX12_others 48 = .ok (.istore_n 2, 1) := by decide +kernel
theorem dX12_others_49 : decode cX12_others 49 = .ok (.iinc 3 1, 3) := by decide +kernel
theorem dX12_others_52 : decode cX12_others 52 = .ok (.goto (-48), 3) := by decide +kernel
theorem dX12_others_55 : decode cX12_others 55 = .ok (.iload_n 2, 1) := by decide +kernel
theorem dX12_others_56 : decode cX12_others 56 = .ok (.ireturn, 1) := by decide +kernel
theorem dX12_heard_0 : decode cX12_heard 0 = .ok (.aload_n 0, 1) := by decide +kernel
theorem dX12_heard_1 : decode cX12_heard 1 = .ok (.iload_n 1, 1) := by decide +kernel
theorem dX12_heard_2 : decode cX12_heard 2 = .ok (.invokevirtual 237, 3) := by decide +kernel
theorem dX12_heard_5 : decode cX12_heard 5 = .ok (.ifCond .ne 6, 3) := by decide +kernel
theorem dX12_heard_8 : decode cX12_heard 8 = .ok (.bipush (-2), 2) := by decide +kernel
theorem dX12_heard_10 : decode cX12_heard 10 = .ok (.ireturn, 1) := by decide +kernel
theorem dX12_heard_11 : decode cX12_heard 11 = .ok (.aload_n 0, 1) := by decide +kernel
theorem dX12_heard_12 : decode cX12_heard 12 = .ok (.getfield 63, 3) := by decide +kernel
theorem dX12_heard_15 : decode cX12_heard 15 = .ok (.iload_n 1, 1) := by decide +kernel
theorem dX12_heard_16 : decode cX12_heard 16 = .ok (.baload, 1) := by decide +kernel
theorem dX12_heard_17 : decode cX12_heard 17 = .ok (.ifCond .ne 6, 3) := by decide +kernel
theorem dX12_heard_20 : decode cX12_heard 20 = .ok (.bipush (-3), 2) := by decide +kernel
theorem dX12_heard_22 : decode cX12_heard 22 = .ok (.ireturn, 1) := by decide +kernel
theorem dX12_heard_23 : decode cX12_heard 23 = .ok (.aload_n 0, 1) := by decide +kernel
theorem dX12_heard_24 : decode cX12_heard 24 = .ok (.iload_n 1, 1) := by decide +kernel
theorem dX12_heard_25 : decode cX12_heard 25 = .ok (.aload_n 0, 1) := by decide +kernel
theorem dX12_heard_26 : decode cX12_heard 26 = .ok (.iload_n 1, 1) := by decide +kernel
theorem dX12_heard_27 : decode cX12_heard 27 = .ok (.aload_n 0, 1) := by decide +kernel
theorem dX12_heard_28 : decode cX12_heard 28 = .ok (.iload_n 1, 1) := by decide +kernel
theorem dX12_heard_29 : decode cX12_heard 29 = .ok (.invokevirtual 259, 3) := by decide +kernel
theorem dX12_heard_32 : decode cX12_heard 32 = .ok (.invokevirtual 262, 3) := by decide +kernel
theorem dX12_heard_35 : decode cX12_heard 35 = .ok (.invokevirtual 266, 3) := by decide +kernel
theorem dX12_heard_38 : decode cX12_heard 38 = .ok (.ifCond .eq 7, 3) := by decide +kernel
theorem dX12_heard_41 : decode cX12_heard 41 = .ok (.iconst 1, 1) := by decide +kernel
theorem dX12_heard_42 : decode cX12_heard 42 = .ok (.goto 4, 3) := by decide +kernel
theorem dX12_heard_45 : decode cX12_heard 45 = .ok (.iconst 0, 1) := by decide +kernel
theorem dX12_heard_46 : decode cX12_heard 46 = .ok (.ireturn, 1) := by decide +kernel
theorem dX12_drowns_0 : decode cX12_drowns 0 = .ok (.aload_n 0, 1) := by decide +kernel
theorem dX12_drowns_1 : decode cX12_drowns 1 = .ok (.iload_n 1, 1) := by decide +kernel
theorem dX12_drowns_2 : decode cX12_drowns 2 = .ok (.invokevirtual 237, 3) := by decide +kernel
theorem dX12_drowns_5 : decode cX12_drowns 5 = .ok (.ifCond .ne 9, 3) := by decide +kernel
theorem dX12_drowns_8 : decode cX12_drowns 8 = .ok (.bipush (-2), 2) := by decide +kernel
theorem dX12_drowns_10 : decode cX12_drowns 10 = .ok (.invokestatic 270, 3) := by decide +kernel
theorem dX12_drowns_13 : decode cX12_drowns 13 = .ok (.lreturn, 1) := by decide +kernel
theorem dX12_drowns_14 : decode cX12_drowns 14 = .ok (.aload_n 0, 1) := by decide +kernel
theorem dX12_drowns_15 : decode cX12_drowns 15 = .ok (.getfield 63, 3) := by decide +kernel
theorem dX12_drowns_18 : decode cX12_drowns 18 = .ok (.iload_n 1, 1) := by decide +kernel
theorem dX12_drowns_19 : decode cX12_drowns 19 = .ok (.baload, 1) := by decide +kernel
theorem dX12_drowns_20 : decode cX12_drowns 20 = .ok (.ifCond .eq 16, 3) := by decide +kernel
theorem dX12_drowns_23 : decode cX12_drowns 23 = .ok (.aload_n 0, 1) := by decide +kernel
theorem dX12_drowns_24 : decode cX12_drowns 24 = .ok (.iload_n 1, 1) := by decide +kernel
theorem dX12_drowns_25 : decode cX12_drowns 25 = .ok (.aload_n 0, 1) := by decide +kernel
theorem dX12_drowns_26 : decode cX12_drowns 26 = .ok (.iload_n 1, 1) := by decide +kernel
theorem dX12_drowns_27 : decode cX12_drowns 27 = .ok (.invokevirtual 259, 3) := by decide +kernel
theorem dX12_drowns_30 : decode cX12_drowns 30 = .ok (.invokevirtual 262, 3) := by decide +kernel
theorem dX12_drowns_33 : decode cX12_drowns 33 = .ok (.goto 8, 3) := by decide +kernel
theorem dX12_drowns_36 : decode cX12_drowns 36 = .ok (.bipush (-3), 2) := by decide +kernel
theorem dX12_drowns_38 : decode cX12_drowns 38 = .ok (.invokestatic 270, 3) := by decide +kernel
theorem dX12_drowns_41 : decode cX12_drowns 41 = .ok (.lreturn, 1) := by decide +kernel
theorem dX12_ones_0 : decode cX12_ones 0 = .ok (.iconst 0, 1) := by decide +kernel
theorem dX12_ones_1 : decode cX12_ones 1 = .ok (.istore_n 1, 1) := by decide +kernel
theorem dX12_ones_2 : decode cX12_ones 2 = .ok (.iload_n 0, 1) := by decide +kernel
theorem dX12_ones_3 : decode cX12_ones 3 = .ok (.istore_n 2, 1) := by decide +kernel
theorem dX12_ones_4 : decode cX12_ones 4 = .ok (.iload_n 2, 1) := by decide +kernel
theorem dX12_ones_5 : decode cX12_ones 5 = .ok (.ifCond .eq 15, 3) := by decide +kernel
theorem dX12_ones_8 : decode cX12_ones 8 = .ok (.iinc 1 1, 3) := by decide +kernel
theorem dX12_ones_11 : decode cX12_ones 11 = .ok (.iload_n 2, 1) := by decide +kernel
theorem dX12_ones_12 : decode cX12_ones 12 = .ok (.iload_n 2, 1) := by decide +kernel
theorem dX12_ones_13 : decode cX12_ones 13 = .ok (.iconst 1, 1) := by decide +kernel
theorem dX12_ones_14 : decode cX12_ones 14 = .ok (.isub, 1) := by decide +kernel
theorem dX12_ones_15 : decode cX12_ones 15 = .ok (.iand, 1) := by decide +kernel
theorem dX12_ones_16 : decode cX12_ones 16 = .ok (.istore_n 2, 1) := by decide +kernel
theorem dX12_ones_17 : decode cX12_ones 17 = .ok (.goto (-13), 3) := by decide +kernel
theorem dX12_ones_20 : decode cX12_ones 20 = .ok (.iload_n 1, 1) := by decide +kernel
theorem dX12_ones_21 : decode cX12_ones 21 = .ok (.ireturn, 1) := by decide +kernel
theorem dX12_cause_0 : decode cX12_cause 0 = .ok (.aload_n 0, 1) := by decide +kernel
theorem dX12_cause_1 : decode cX12_cause 1 = .ok (.iload_n 1, 1) := by decide +kernel
theorem dX12_cause_2 : decode cX12_cause 2 = .ok (.invokevirtual 237, 3) := by decide +kernel
theorem dX12_cause_5 : decode cX12_cause 5 = .ok (.ifCond .ne 6, 3) := by decide +kernel
theorem dX12_cause_8 : decode cX12_cause 8 = .ok (.bipush (-2), 2) := by decide +kernel
theorem dX12_cause_10 : decode cX12_cause 10 = .ok (.ireturn, 1) := by decide +kernel
theorem dX12_cause_11 : decode cX12_cause 11 = .ok (.aload_n 0, 1) := by decide +kernel
theorem dX12_cause_12 : decode cX12_cause 12 = .ok (.getfield 63, 3) := by decide +kernel
theorem dX12_cause_15 : decode cX12_cause 15 = .ok (.iload_n 1, 1) := by decide +kernel
theorem dX12_cause_16 : decode cX12_cause 16 = .ok (.baload, 1) := by decide +kernel
theorem dX12_cause_17 : decode cX12_cause 17 = .ok (.ifCond .ne 6, 3) := by decide +kernel
theorem dX12_cause_20 : decode cX12_cause 20 = .ok (.bipush (-3), 2) := by decide +kernel
theorem dX12_cause_22 : decode cX12_cause 22 = .ok (.ireturn, 1) := by decide +kernel
theorem dX12_cause_23 : decode cX12_cause 23 = .ok (.aload_n 0, 1) := by decide +kernel
theorem dX12_cause_24 : decode cX12_cause 24 = .ok (.iload_n 1, 1) := by decide +kernel
theorem dX12_cause_25 : decode cX12_cause 25 = .ok (.invokevirtual 259, 3) := by decide +kernel
theorem dX12_cause_28 : decode cX12_cause 28 = .ok (.istore_n 2, 1) := by decide +kernel
theorem dX12_cause_29 : decode cX12_cause 29 = .ok (.iload_n 2, 1) := by decide +kernel
theorem dX12_cause_30 : decode cX12_cause 30 = .ok (.invokestatic 274, 3) := by decide +kernel
theorem dX12_cause_33 : decode cX12_cause 33 = .ok (.bipush 10, 2) := by decide +kernel
theorem dX12_cause_35 : decode cX12_cause 35 = .ok (.if_icmp .le 6, 3) := by decide +kernel
theorem dX12_cause_38 : decode cX12_cause 38 = .ok (.bipush (-4), 2) := by decide +kernel
theorem dX12_cause_40 : decode cX12_cause 40 = .ok (.ireturn, 1) := by decide +kernel
theorem dX12_cause_41 : decode cX12_cause 41 = .ok (.aload_n 0, 1) := by decide +kernel
theorem dX12_cause_42 : decode cX12_cause 42 = .ok (.iload_n 1, 1) := by decide +kernel
theorem dX12_cause_43 : decode cX12_cause 43 = .ok (.aload_n 0, 1) := by decide +kernel
theorem dX12_cause_44 : decode cX12_cause 44 = .ok (.iload_n 1, 1) := by decide +kernel
theorem dX12_cause_45 : decode cX12_cause 45 = .ok (.iload_n 2, 1) := by decide +kernel
theorem dX12_cause_46 : decode cX12_cause 46 = .ok (.invokevirtual 262, 3) := by decide +kernel
theorem dX12_cause_49 : decode cX12_cause 49 = .ok (.invokevirtual 266, 3) := by decide +kernel
theorem dX12_cause_52 : decode cX12_cause 52 = .ok (.ifCond .eq 5, 3) := by decide +kernel
theorem dX12_cause_55 : decode cX12_cause 55 = .ok (.iconst 0, 1) := by decide +kernel
theorem dX12_cause_56 : decode cX12_cause 56 = .ok (.ireturn, 1) := by decide +kernel
theorem dX12_cause_57 : decode cX12_cause 57 = .ok (.aload_n 0, 1) := by decide +kernel
theorem dX12_cause_58 : decode cX12_cause 58 = .ok (.iload_n 1, 1) := by decide +kernel
theorem dX12_cause_59 : decode cX12_cause 59 = .ok (.aload_n 0, 1) := by decide +kernel
theorem dX12_cause_60 : decode cX12_cause 60 = .ok (.getfield 30, 3) := by decide +kernel
theorem dX12_cause_63 : decode cX12_cause 63 = .ok (.iconst 2, 1) := by decide +kernel
theorem dX12_cause_64 : decode cX12_cause 64 = .ok (.iaload, 1) := by decide +kernel
theorem dX12_cause_65 : decode cX12_cause 65 = .ok (.i2l, 1) := by decide +kernel
theorem dX12_cause_66 : decode cX12_cause 66 = .ok (.invokevirtual 266, 3) := by decide +kernel
theorem dX12_cause_69 : decode cX12_cause 69 = .ok (.ifCond .ne 5, 3) := by decide +kernel
theorem dX12_cause_72 : decode cX12_cause 72 = .ok (.iconst (-1), 1) := by decide +kernel
theorem dX12_cause_73 : decode cX12_cause 73 = .ok (.ireturn, 1) := by decide +kernel
theorem dX12_cause_74 : decode cX12_cause 74 = .ok (.iload_n 2, 1) := by decide +kernel
theorem dX12_cause_75 : decode cX12_cause 75 = .ok (.istore_n 3, 1) := by decide +kernel
theorem dX12_cause_76 : decode cX12_cause 76 = .ok (.iconst 0, 1) := by decide +kernel
theorem dX12_cause_77 : decode cX12_cause 77 = .ok (.iload_n 2, 1) := by decide +kernel
theorem dX12_cause_78 : decode cX12_cause 78 = .ok (.isub, 1) := by decide +kernel
theorem dX12_cause_79 : decode cX12_cause 79 = .ok (.iload_n 2, 1) := by decide +kernel
theorem dX12_cause_80 : decode cX12_cause 80 = .ok (.iand, 1) := by decide +kernel
theorem dX12_cause_81 : decode cX12_cause 81 = .ok (.istore 4, 2) := by decide +kernel
theorem dX12_cause_83 : decode cX12_cause 83 = .ok (.iload 4, 2) := by decide +kernel
theorem dX12_cause_85 : decode cX12_cause 85 = .ok (.ifCond .eq 66, 3) := by decide +kernel
theorem dX12_cause_88 : decode cX12_cause 88 = .ok (.iload 4, 2) := by decide +kernel
theorem dX12_cause_90 : decode cX12_cause 90 = .ok (.invokestatic 274, 3) := by decide +kernel
theorem dX12_cause_93 : decode cX12_cause 93 = .ok (.iload_n 3, 1) := by decide +kernel
theorem dX12_cause_94 : decode cX12_cause 94 = .ok (.invokestatic 274, 3) := by decide +kernel
theorem dX12_cause_97 : decode cX12_cause 97 = .ok (.if_icmp .lt 21, 3) := by decide +kernel
theorem dX12_cause_100 : decode cX12_cause 100 = .ok (.iload 4, 2) := by decide +kernel
theorem dX12_cause_102 : decode cX12_cause 102 = .ok (.invokestatic 274, 3) := by decide +kernel
theorem dX12_cause_105 : decode cX12_cause 105 = .ok (.iload_n 3, 1) := by decide +kernel
theorem dX12_cause_106 : decode cX12_cause 106 = .ok (.invokestatic 274, 3) := by decide +kernel
theorem dX12_cause_109 : decode cX12_cause 109 = .ok (.if_icmp .ne 31, 3) := by decide +kernel
theorem dX12_cause_112 : decode cX12_cause 112 = .ok (.iload 4, 2) := by decide +kernel
theorem dX12_cause_114 : decode cX12_cause 114 = .ok (.iload_n 3, 1) := by decide +kernel
theorem dX12_cause_115 : decode cX12_cause 115 = .ok (.if_icmp .ge 25, 3) := by decide +kernel
theorem dX12_cause_118 : decode cX12_cause 118 = .ok (.aload_n 0, 1) := by decide +kernel
theorem dX12_cause_119 : decode cX12_cause 119 = .ok (.iload_n 1, 1) := by decide +kernel
theorem dX12_cause_120 : decode cX12_cause 120 = .ok (.aload_n 0, 1) := by decide +kernel
theorem dX12_cause_121 : decode cX12_cause 121 = .ok (.iload_n 1, 1) := by decide +kernel
theorem dX12_cause_122 : decode cX12_cause 122 = .ok (.iload_n 2, 1) := by decide +kernel
theorem dX12_cause_123 : decode cX12_cause 123 = .ok (.iload 4, 2) := by decide +kernel
theorem dX12_cause_125 : decode cX12_cause 125 = .ok (.iconst (-1), 1) := by decide +kernel
theorem dX12_cause_126 : decode cX12_cause 126 = .ok (.ixor, 1) := by decide +kernel
theorem dX12_cause_127 : decode cX12_cause 127 = .ok (.iand, 1) := by decide +kernel
theorem dX12_cause_128 : decode cX12_cause 128 = .ok (.invokevirtual 262, 3) := by decide +kernel
theorem dX12_cause_131 : decode cX12_cause 131 = .ok (.invokevirtual 266, 3) := by decide +kernel
theorem dX12_cause_134 : decode cX12_cause 134 = .ok (.ifCond .eq 6, 3) := by decide +kernel
theorem dX12_cause_137 : decode cX12_cause 137 = .ok (.iload 4, 2) := by decide +kernel
theorem dX12_cause_139 : decode cX12_cause 139 = .ok (.istore_n 3, 1) := by decide +kernel
theorem dX12_cause_140 : decode cX12_cause 140 = .ok (.iload 4, 2) := by decide +kernel
theorem dX12_cause_142 : decode cX12_cause 142 = .ok (.iload_n 2, 1) := by decide +kernel
theorem dX12_cause_143 : decode cX12_cause 143 = .ok (.isub, 1) := by decide +kernel
theorem dX12_cause_144 : decode cX12_cause 144 = .ok (.iload_n 2, 1) := by decide +kernel
theorem dX12_cause_145 : decode cX12_cause 145 = .ok (.iand, 1) := by decide +kernel
theorem dX12_cause_146 : decode cX12_cause 146 = .ok (.istore 4, 2) := by decide +kernel
theorem dX12_cause_148 : decode cX12_cause 148 = .ok (.goto (-65), 3) := by decide +kernel
theorem dX12_cause_151 : decode cX12_cause 151 = .ok (.iload_n 3, 1) := by decide +kernel
theorem dX12_cause_152 : decode cX12_cause 152 = .ok (.ireturn, 1) := by decide +kernel
theorem dX12_takesSet_0 : decode cX12_takesSet 0 = .ok (.iload_n 1, 1) := by decide +kernel
theorem dX12_takesSet_1 : decode cX12_takesSet 1 = .ok (.ifCond .le 22, 3) := by decide +kernel
theorem dX12_takesSet_4 : decode cX12_takesSet 4 = .ok (.iload_n 1, 1) := by decide +kernel
theorem dX12_takesSet_5 : decode cX12_takesSet 5 = .ok (.iconst 1, 1) := by decide +kernel
theorem dX12_takesSet_6 : decode cX12_takesSet 6 = .ok (.aload_n 0, 1) := by decide +kernel
theorem dX12_takesSet_7 : decode cX12_takesSet 7 = .ok (.getfield 176, 3) := by decide +kernel
theorem dX12_takesSet_10 : decode cX12_takesSet 10 = .ok (.ishl, 1) := by decide +kernel
theorem dX12_takesSet_11 : decode cX12_takesSet 11 = .ok (.if_icmp .ge 12, 3) := by decide +kernel
theorem dX12_takesSet_14 : decode cX12_takesSet 14 = .ok (.iload_n 1, 1) := by decide +kernel
theorem dX12_takesSet_15 : decode cX12_takesSet 15 = .ok (.invokestatic 274, 3) := by decide +kernel
theorem dX12_takesSet_18 : decode cX12_takesSet 18 = .ok (.bipush 8, 2) := by decide +kernel
theorem dX12_takesSet_20 : decode cX12_takesSet 20 = .ok (.if_icmp .le 5, 3) := by decide +kernel
theorem dX12_takesSet_23 : decode cX12_takesSet 23 = .ok (.iconst 0, 1) := by decide +kernel
theorem dX12_takesSet_24 : decode cX12_takesSet 24 = .ok (.ireturn, 1) := by decide +kernel
theorem dX12_takesSet_25 : decode cX12_takesSet 25 = .ok (.aload_n 0, 1) := by decide +kernel
theorem dX12_takesSet_26 : decode cX12_takesSet 26 = .ok (.iconst 0, 1) := by decide +kernel
theorem dX12_takesSet_27 : decode cX12_takesSet 27 = .ok (.putfield 277, 3) := by decide +kernel
theorem dX12_takesSet_30 : decode cX12_takesSet 30 = .ok (.iconst 0, 1) := by decide +kernel
theorem dX12_takesSet_31 : decode cX12_takesSet 31 = .ok (.istore_n 2, 1) := by decide +kernel
theorem dX12_takesSet_32 : decode cX12_takesSet 32 = .ok (.iload_n 2, 1) := by decide +kernel
theorem dX12_takesSet_33 : decode cX12_takesSet 33 = .ok (.aload_n 0, 1) := by decide +kernel
theorem dX12_takesSet_34 : decode cX12_takesSet 34 = .ok (.getfield 176, 3) := by decide +kernel
theorem dX12_takesSet_37 : decode cX12_takesSet 37 = .ok (.if_icmp .ge 38, 3) := by decide +kernel
theorem dX12_takesSet_40 : decode cX12_takesSet 40 = .ok (.iload_n 1, 1) := by decide +kernel
theorem dX12_takesSet_41 : decode cX12_takesSet 41 = .ok (.iload_n 2, 1) := by decide +kernel
theorem dX12_takesSet_42 : decode cX12_takesSet 42 = .ok (.ishr, 1) := by decide +kernel
theorem dX12_takesSet_43 : decode cX12_takesSet 43 = .ok (.iconst 1, 1) := by decide +kernel
theorem dX12_takesSet_44 : decode cX12_takesSet 44 = .ok (.iand, 1) := by decide +kernel
theorem dX12_takesSet_45 : decode cX12_takesSet 45 = .ok (.iconst 1, 1) := by decide +kernel
theorem dX12_takesSet_46 : decode cX12_takesSet 46 = .ok (.if_icmp .ne 23, 3) := by decide +kernel
theorem dX12_takesSet_49 : decode cX12_takesSet 49 = .ok (.aload_n 0, 1) := by decide +kernel
theorem dX12_takesSet_50 : decode cX12_takesSet 50 = .ok (.getfield 67, 3) := by decide +kernel
theorem dX12_takesSet_53 : decode cX12_takesSet 53 = .ok (.aload_n 0, 1) := by decide +kernel
theorem dX12_takesSet_54 : decode cX12_takesSet 54 = .ok (.getfield 277, 3) := by decide +kernel
theorem dX12_takesSet_57 : decode cX12_takesSet 57 = .ok (.iload_n 2, 1) := by decide +kernel
theorem dX12_takesSet_58 : decode cX12_takesSet 58 = .ok (.iastore, 1) := by decide +kernel
theorem dX12_takesSet_59 : decode cX12_takesSet 59 = .ok (.aload_n 0, 1) := by decide +kernel
theorem dX12_takesSet_60 : decode cX12_takesSet 60 = .ok (.dup, 1) := by decide +kernel
theorem dX12_takesSet_61 : decode cX12_takesSet 61 = .ok (.getfield 277, 3) := by decide +kernel
theorem dX12_takesSet_64 : decode cX12_takesSet 64 = .ok (.iconst 1, 1) := by decide +kernel
theorem dX12_takesSet_65 : decode cX12_takesSet 65 = .ok (.iadd, 1) := by decide +kernel
theorem dX12_takesSet_66 : decode cX12_takesSet 66 = .ok (.putfield 277, 3) := by decide +kernel
theorem dX12_takesSet_69 : decode cX12_takesSet 69 = .ok (.iinc 2 1, 3) := by decide +kernel
theorem dX12_takesSet_72 : decode cX12_takesSet 72 = .ok (.goto (-40), 3) := by decide +kernel
theorem dX12_takesSet_75 : decode cX12_takesSet 75 = .ok (.iconst 1, 1) := by decide +kernel
theorem dX12_takesSet_76 : decode cX12_takesSet 76 = .ok (.ireturn, 1) := by decide +kernel
theorem dX12_wholeBits_0 : decode cX12_wholeBits 0 = .ok (.iconst 0, 1) := by decide +kernel
theorem dX12_wholeBits_1 : decode cX12_wholeBits 1 = .ok (.istore_n 2, 1) := by decide +kernel
theorem dX12_wholeBits_2 : decode cX12_wholeBits 2 = .ok (.iconst 0, 1) := by decide +kernel
theorem dX12_wholeBits_3 : decode cX12_wholeBits 3 = .ok (.istore_n 3, 1) := by decide +kernel
theorem dX12_wholeBits_4 : decode cX12_wholeBits 4 = .ok (.iload_n 3, 1) := by decide +kernel
theorem dX12_wholeBits_5 : decode cX12_wholeBits 5 = .ok (.aload_n 0, 1) := by decide +kernel
theorem dX12_wholeBits_6 : decode cX12_wholeBits 6 = .ok (.getfield 277, 3) := by decide +kernel
theorem dX12_wholeBits_9 : decode cX12_wholeBits 9 = .ok (.if_icmp .ge 33, 3) := by decide +kernel
theorem dX12_wholeBits_12 : decode cX12_wholeBits 12 = .ok (.iload_n 2, 1) := by decide +kernel
theorem dX12_wholeBits_13 : decode cX12_wholeBits 13 = .ok (.iload_n 1, 1) := by decide +kernel
theorem dX12_wholeBits_14 : decode cX12_wholeBits 14 = .ok (.iload_n 3, 1) := by decide +kernel
theorem dX12_wholeBits_15 : decode cX12_wholeBits 15 = .ok (.ishr, 1) := by decide +kernel
theorem dX12_wholeBits_16 : decode cX12_wholeBits 16 = .ok (.iconst 1, 1) := by decide +kernel
theorem dX12_wholeBits_17 : decode cX12_wholeBits 17 = .ok (.iand, 1) := by decide +kernel
theorem dX12_wholeBits_18 : decode cX12_wholeBits 18 = .ok (.iconst 1, 1) := by decide +kernel
theorem dX12_wholeBits_19 : decode cX12_wholeBits 19 = .ok (.if_icmp .ne 14, 3) := by decide +kernel
theorem dX12_wholeBits_22 : decode cX12_wholeBits 22 = .ok (.iconst 1, 1) := by decide +kernel
theorem dX12_wholeBits_23 : decode cX12_wholeBits 23 = .ok (.aload_n 0, 1) := by decide +kernel
theorem dX12_wholeBits_24 : decode cX12_wholeBits 24 = .ok (.getfield 67, 3) := by decide +kernel
theorem dX12_wholeBits_27 : decode cX12_wholeBits 27 = .ok (.iload_n 3, 1) := by decide +kernel
theorem dX12_wholeBits_28 : decode cX12_wholeBits 28 = .ok (.iaload, 1) := by decide +kernel
theorem dX12_wholeBits_29 : decode cX12_wholeBits 29 = .ok (.ishl, 1) := by decide +kernel
theorem dX12_wholeBits_30 : decode cX12_wholeBits 30 = .ok (.goto 4, 3) := by decide +kernel
theorem dX12_wholeBits_33 : decode cX12_wholeBits 33 = .ok (.iconst 0, 1) := by decide +kernel
theorem dX12_wholeBits_34 : decode cX12_wholeBits 34 = .ok (.ior, 1) := by decide +kernel
theorem dX12_wholeBits_35 : decode cX12_wholeBits 35 = .ok (.istore_n 2, 1) := by decide +kernel
theorem dX12_wholeBits_36 : decode cX12_wholeBits 36 = .ok (.iinc 3 1, 3) := by decide +kernel
theorem dX12_wholeBits_39 : decode cX12_wholeBits 39 = .ok (.goto (-35), 3) := by decide +kernel
theorem dX12_wholeBits_42 : decode cX12_wholeBits 42 = .ok (.iload_n 2, 1) := by decide +kernel
theorem dX12_wholeBits_43 : decode cX12_wholeBits 43 = .ok (.ireturn, 1) := by decide +kernel
theorem dX12_findFewest_0 : decode cX12_findFewest 0 = .ok (.iconst 0, 1) := by decide +kernel
theorem dX12_findFewest_1 : decode cX12_findFewest 1 = .ok (.istore_n 1, 1) := by decide +kernel
theorem dX12_findFewest_2 : decode cX12_findFewest 2 = .ok (.iload_n 1, 1) := by decide +kernel
theorem dX12_findFewest_3 : decode cX12_findFewest 3 = .ok (.iconst 1, 1) := by decide +kernel
theorem dX12_findFewest_4 : decode cX12_findFewest 4 = .ok (.aload_n 0, 1) := by decide +kernel
theorem dX12_findFewest_5 : decode cX12_findFewest 5 = .ok (.getfield 277, 3) := by decide +kernel
theorem dX12_findFewest_8 : decode cX12_findFewest 8 = .ok (.ishl, 1) := by decide +kernel
theorem dX12_findFewest_9 : decode cX12_findFewest 9 = .ok (.if_icmp .ge 173, 3) := by decide +kernel
theorem dX12_findFewest_12 : decode cX12_findFewest 12 = .ok (.iconst 1, 1) := by decide +kernel
theorem dX12_findFewest_13 : decode cX12_findFewest 13 = .ok (.istore_n 2, 1) := by decide +kernel
theorem dX12_findFewest_14 : decode cX12_findFewest 14 = .ok (.aload_n 0, 1) := by decide +kernel
theorem dX12_findFewest_15 : decode cX12_findFewest 15 = .ok (.iload_n 1, 1) := by decide +kernel
theorem dX12_findFewest_16 : decode cX12_findFewest 16 = .ok (.invokevirtual 280, 3) := by decide +kernel
theorem dX12_findFewest_19 : decode cX12_findFewest 19 = .ok (.istore_n 3, 1) := by decide +kernel
theorem dX12_findFewest_20 : decode cX12_findFewest 20 = .ok (.iconst 0, 1) := by decide +kernel
theorem dX12_findFewest_21 : decode cX12_findFewest 21 = .ok (.istore 4, 2) := by decide +kernel
theorem dX12_findFewest_23 : decode cX12_findFewest 23 = .ok (.iload 4, 2) := by decide +kernel
theorem dX12_findFewest_25 : decode cX12_findFewest 25 = .ok (.aload_n 0, 1) := by decide +kernel
theorem dX12_findFewest_26 : decode cX12_findFewest 26 = .ok (.getfield 277, 3) := by decide +kernel
theorem dX12_findFewest_29 : decode cX12_findFewest 29 = .ok (.if_icmp .ge 54, 3) := by decide +kernel
theorem dX12_findFewest_32 : decode cX12_findFewest 32 = .ok (.iload_n 2, 1) := by decide +kernel
theorem dX12_findFewest_33 : decode cX12_findFewest 33 = .ok (.ifCond .eq 50, 3) := by decide +kernel
theorem dX12_findFewest_36 : decode cX12_findFewest 36 = .ok (.iload_n 1, 1) := by decide +kernel
theorem dX12_findFewest_37 : decode cX12_findFewest 37 = .ok (.iload 4, 2) := by decide +kernel
theorem dX12_findFewest_39 : decode cX12_findFewest 39 = .ok (.ishr, 1) := by decide +kernel
theorem dX12_findFewest_40 : decode cX12_findFewest 40 = .ok (.iconst 1, 1) := by decide +kernel
theorem dX12_findFewest_41 : decode cX12_findFewest 41 = .ok (.iand, 1) := by decide +kernel
theorem dX12_findFewest_42 : decode cX12_findFewest 42 = .ok (.ifCond .eq 29, 3) := by decide +kernel
theorem dX12_findFewest_45 : decode cX12_findFewest 45 = .ok (.aload_n 0, 1) := by decide +kernel
theorem dX12_findFewest_46 : decode cX12_findFewest 46 = .ok (.aload_n 0, 1) := by decide +kernel
theorem dX12_findFewest_47 : decode cX12_findFewest 47 = .ok (.getfield 67, 3) := by decide +kernel
theorem dX12_findFewest_50 : decode cX12_findFewest 50 = .ok (.iload 4, 2) := by decide +kernel
theorem dX12_findFewest_52 : decode cX12_findFewest 52 = .ok (.iaload, 1) := by decide +kernel
theorem dX12_findFewest_53 : decode cX12_findFewest 53 = .ok (.aload_n 0, 1) := by decide +kernel
theorem dX12_findFewest_54 : decode cX12_findFewest 54 = .ok (.aload_n 0, 1) := by decide +kernel
theorem dX12_findFewest_55 : decode cX12_findFewest 55 = .ok (.getfield 67, 3) := by decide +kernel
theorem dX12_findFewest_58 : decode cX12_findFewest 58 = .ok (.iload 4, 2) := by decide +kernel
theorem dX12_findFewest_60 : decode cX12_findFewest 60 = .ok (.iaload, 1) := by decide +kernel
theorem dX12_findFewest_61 : decode cX12_findFewest 61 = .ok (.iload_n 3, 1) := by decide +kernel
theorem dX12_findFewest_62 : decode cX12_findFewest 62 = .ok (.invokevirtual 262, 3) := by decide +kernel
theorem dX12_findFewest_65 : decode cX12_findFewest 65 = .ok (.invokevirtual 266, 3) := by decide +kernel
theorem dX12_findFewest_68 : decode cX12_findFewest 68 = .ok (.ifCond .eq 7, 3) := by decide +kernel
theorem dX12_findFewest_71 : decode cX12_findFewest 71 = .ok (.iconst 1, 1) := by decide +kernel
theorem dX12_findFewest_72 : decode cX12_findFewest 72 = .ok (.goto 4, 3) := by decide +kernel
theorem dX12_findFewest_75 : decode cX12_findFewest 75 = .ok (.iconst 0, 1) := by decide +kernel
theorem dX12_findFewest_76 : decode cX12_findFewest 76 = .ok (.istore_n 2, 1) := by decide +kernel
theorem dX12_findFewest_77 : decode cX12_findFewest 77 = .ok (.iinc 4 1, 3) := by decide +kernel
theorem dX12_findFewest_80 : decode cX12_findFewest 80 = .ok (.goto (-57), 3) := by decide +kernel
theorem dX12_findFewest_83 : decode cX12_findFewest 83 = .ok (.aload_n 0, 1) := by decide +kernel
theorem dX12_findFewest_84 : decode cX12_findFewest 84 = .ok (.getfield 70, 3) := by decide +kernel
theorem dX12_findFewest_87 : decode cX12_findFewest 87 = .ok (.iload_n 1, 1) := by decide +kernel
theorem dX12_findFewest_88 : decode cX12_findFewest 88 = .ok (.iload_n 2, 1) := by decide +kernel
theorem dX12_findFewest_89 : decode cX12_findFewest 89 = .ok (.bastore, 1) := by decide +kernel
theorem dX12_findFewest_90 : decode cX12_findFewest 90 = .ok (.aload_n 0, 1) := by decide +kernel
theorem dX12_findFewest_91 : decode cX12_findFewest 91 = .ok (.getfield 73, 3) := by decide +kernel
theorem dX12_findFewest_94 : decode cX12_findFewest 94 = .ok (.iload_n 1, 1) := by decide +kernel
theorem dX12_findFewest_95 : decode cX12_findFewest 95 = .ok (.iload_n 1, 1) := by decide +kernel
theorem dX12_findFewest_96 : decode cX12_findFewest 96 = .ok (.ifCond .ne 7, 3) := by decide +kernel
theorem dX12_findFewest_99 : decode cX12_findFewest 99 = .ok (.iconst 0, 1) := by decide +kernel
theorem dX12_findFewest_100 : decode cX12_findFewest 100 = .ok (.goto 5, 3) := by decide +kernel
theorem dX12_findFewest_103 : decode cX12_findFewest 103 = .ok (.bipush 100, 2) := by decide +kernel
theorem dX12_findFewest_105 : decode cX12_findFewest 105 = .ok (.iastore, 1) := by decide +kernel
theorem dX12_findFewest_106 : decode cX12_findFewest 106 = .ok (.iload_n 1, 1) := by decide +kernel
theorem dX12_findFewest_107 : decode cX12_findFewest 107 = .ok (.istore 4, 2) := by decide +kernel
theorem dX12_findFewest_109 : decode cX12_findFewest 109 = .ok (.iload 4, 2) := by decide +kernel
theorem dX12_findFewest_111 : decode cX12_findFewest 111 = .ok (.ifCond .le 65, 3) := by decide +kernel
theorem dX12_findFewest_114 : decode cX12_findFewest 114 = .ok (.aload_n 0, 1) := by decide +kernel
theorem dX12_findFewest_115 : decode cX12_findFewest 115 = .ok (.getfield 70, 3) := by decide +kernel
theorem dX12_findFewest_118 : decode cX12_findFewest 118 = .ok (.iload 4, 2) := by decide +kernel
theorem dX12_findFewest_120 : decode cX12_findFewest 120 = .ok (.baload, 1) := by decide +kernel
theorem dX12_findFewest_121 : decode cX12_findFewest 121 = .ok (.ifCond .eq 44, 3) := by decide +kernel
theorem dX12_findFewest_124 : decode cX12_findFewest 124 = .ok (.aload_n 0, 1) := by decide +kernel
theorem dX12_findFewest_125 : decode cX12_findFewest 125 = .ok (.getfield 73, 3) := by decide +kernel
theorem dX12_findFewest_128 : decode cX12_findFewest 128 = .ok (.iload_n 1, 1) := by decide +kernel
theorem dX12_findFewest_129 : decode cX12_findFewest 129 = .ok (.iload 4, 2) := by decide +kernel
theorem dX12_findFewest_131 : decode cX12_findFewest 131 = .ok (.iconst (-1), 1) := by decide +kernel
theorem dX12_findFewest_132 : decode cX12_findFewest 132 = .ok (.ixor, 1) := by decide +kernel
theorem dX12_findFewest_133 : decode cX12_findFewest 133 = .ok (.iand, 1) := by decide +kernel
theorem dX12_findFewest_134 : decode cX12_findFewest 134 = .ok (.iaload, 1) := by decide +kernel
theorem dX12_findFewest_135 : decode cX12_findFewest 135 = .ok (.iconst 1, 1) := by decide +kernel
theorem dX12_findFewest_136 : decode cX12_findFewest 136 = .ok (.iadd, 1) := by decide +kernel
theorem dX12_findFewest_137 : decode cX12_findFewest 137 = .ok (.aload_n 0, 1) := by decide +kernel
theorem dX12_findFewest_138 : decode cX12_findFewest 138 = .ok (.getfield 73, 3) := by decide +kernel
theorem dX12_findFewest_141 : decode cX12_findFewest 141 = .ok (.iload_n 1, 1) := by decide +kernel
theorem dX12_findFewest_142 : decode cX12_findFewest 142 = .ok (.iaload, 1) := by decide +kernel
theorem dX12_findFewest_143 : decode cX12_findFewest 143 = .ok (.if_icmp .ge 22, 3) := by decide +kernel
theorem dX12_findFewest_146 : decode cX12_findFewest 146 = .ok (.aload_n 0, 1) := by decide +kernel
theorem dX12_findFewest_147 : decode cX12_findFewest 147 = .ok (.getfield 73, 3) := by decide +kernel
theorem dX12_findFewest_150 : decode cX12_findFewest 150 = .ok (.iload_n 1, 1) := by decide +kernel
theorem dX12_findFewest_151 : decode cX12_findFewest 151 = .ok (.aload_n 0, 1) := by decide +kernel
theorem dX12_findFewest_152 : decode cX12_findFewest 152 = .ok (.getfield 73, 3) := by decide +kernel
theorem dX12_findFewest_155 : decode cX12_findFewest 155 = .ok (.iload_n 1, 1) := by decide +kernel
theorem dX12_findFewest_156 : decode cX12_findFewest 156 = .ok (.iload 4, 2) := by decide +kernel
theorem dX12_findFewest_158 : decode cX12_findFewest 158 = .ok (.iconst (-1), 1) := by decide +kernel
theorem dX12_findFewest_159 : decode cX12_findFewest 159 = .ok (.ixor, 1) := by decide +kernel
theorem dX12_findFewest_160 : decode cX12_findFewest 160 = .ok (.iand, 1) := by decide +kernel
theorem dX12_findFewest_161 : decode cX12_findFewest 161 = .ok (.iaload, 1) := by decide +kernel
theorem dX12_findFewest_162 : decode cX12_findFewest 162 = .ok (.iconst 1, 1) := by decide +kernel
theorem dX12_findFewest_163 : decode cX12_findFewest 163 = .ok (.iadd, 1) := by decide +kernel
theorem dX12_findFewest_164 : decode cX12_findFewest 164 = .ok (.iastore, 1) := by decide +kernel
theorem dX12_findFewest_165 : decode cX12_findFewest 165 = .ok (.iload 4, 2) := by decide +kernel
theorem dX12_findFewest_167 : decode cX12_findFewest 167 = .ok (.iconst 1, 1) := by decide +kernel
theorem dX12_findFewest_168 : decode cX12_findFewest 168 = .ok (.isub, 1) := by decide +kernel
theorem dX12_findFewest_169 : decode cX12_findFewest 169 = .ok (.iload_n 1, 1) := by decide +kernel
theorem dX12_findFewest_170 : decode cX12_findFewest 170 = .ok (.iand, 1) := by decide +kernel
theorem dX12_findFewest_171 : decode cX12_findFewest 171 = .ok (.istore 4, 2) := by decide +kernel
theorem dX12_findFewest_173 : decode cX12_findFewest 173 = .ok (.goto (-64), 3) := by decide +kernel
theorem dX12_findFewest_176 : decode cX12_findFewest 176 = .ok (.iinc 1 1, 3) := by decide +kernel
theorem dX12_findFewest_179 : decode cX12_findFewest 179 = .ok (.goto (-177), 3) := by decide +kernel
theorem dX12_findFewest_182 : decode cX12_findFewest 182 = .ok (.return_, 1) := by decide +kernel
theorem dX12_share_0 : decode cX12_share 0 = .ok (.aload_n 0, 1) := by decide +kernel
theorem dX12_share_1 : decode cX12_share 1 = .ok (.iload_n 1, 1) := by decide +kernel
theorem dX12_share_2 : decode cX12_share 2 = .ok (.invokevirtual 283, 3) := by decide +kernel
theorem dX12_share_5 : decode cX12_share 5 = .ok (.ifCond .ne 6, 3) := by decide +kernel
theorem dX12_share_8 : decode cX12_share 8 = .ok (.bipush (-2), 2) := by decide +kernel
theorem dX12_share_10 : decode cX12_share 10 = .ok (.ireturn, 1) := by decide +kernel
theorem dX12_share_11 : decode cX12_share 11 = .ok (.aload_n 0, 1) := by decide +kernel
theorem dX12_share_12 : decode cX12_share 12 = .ok (.invokevirtual 286, 3) := by decide +kernel
theorem dX12_share_15 : decode cX12_share 15 = .ok (.aload_n 0, 1) := by decide +kernel
theorem dX12_share_16 : decode cX12_share 16 = .ok (.getfield 70, 3) := by decide +kernel
theorem dX12_share_19 : decode cX12_share 19 = .ok (.iconst 1, 1) := by decide +kernel
theorem dX12_share_20 : decode cX12_share 20 = .ok (.aload_n 0, 1) := by decide +kernel
theorem dX12_share_21 : decode cX12_share 21 = .ok (.getfield 277, 3) := by decide +kernel
theorem dX12_share_24 : decode cX12_share 24 = .ok (.ishl, 1) := by decide +kernel
theorem dX12_share_25 : decode cX12_share 25 = .ok (.iconst 1, 1) := by decide +kernel
theorem dX12_share_26 : decode cX12_share 26 = .ok (.isub, 1) := by decide +kernel
theorem dX12_share_27 : decode cX12_share 27 = .ok (.baload, 1) := by decide +kernel
theorem dX12_share_28 : decode cX12_share 28 = .ok (.ifCond .eq 7, 3) := by decide +kernel
theorem dX12_share_31 : decode cX12_share 31 = .ok (.iconst 1, 1) := by decide +kernel
theorem dX12_share_32 : decode cX12_share 32 = .ok (.goto 4, 3) := by decide +kernel
theorem dX12_share_35 : decode cX12_share 35 = .ok (.iconst 0, 1) := by decide +kernel
theorem dX12_share_36 : decode cX12_share 36 = .ok (.ireturn, 1) := by decide +kernel
theorem dX12_fewest_0 : decode cX12_fewest 0 = .ok (.aload_n 0, 1) := by decide +kernel
theorem dX12_fewest_1 : decode cX12_fewest 1 = .ok (.iload_n 1, 1) := by decide +kernel
theorem dX12_fewest_2 : decode cX12_fewest 2 = .ok (.invokevirtual 283, 3) := by decide +kernel
theorem dX12_fewest_5 : decode cX12_fewest 5 = .ok (.ifCond .ne 6, 3) := by decide +kernel
theorem dX12_fewest_8 : decode cX12_fewest 8 = .ok (.bipush (-2), 2) := by decide +kernel
theorem dX12_fewest_10 : decode cX12_fewest 10 = .ok (.ireturn, 1) := by decide +kernel
theorem dX12_fewest_11 : decode cX12_fewest 11 = .ok (.aload_n 0, 1) := by decide +kernel
theorem dX12_fewest_12 : decode cX12_fewest 12 = .ok (.invokevirtual 286, 3) := by decide +kernel
theorem dX12_fewest_15 : decode cX12_fewest 15 = .ok (.aload_n 0, 1) := by decide +kernel
theorem dX12_fewest_16 : decode cX12_fewest 16 = .ok (.getfield 73, 3) := by decide +kernel
theorem dX12_fewest_19 : decode cX12_fewest 19 = .ok (.iconst 1, 1) := by decide +kernel
theorem dX12_fewest_20 : decode cX12_fewest 20 = .ok (.aload_n 0, 1) := by decide +kernel
theorem dX12_fewest_21 : decode cX12_fewest 21 = .ok (.getfield 277, 3) := by decide +kernel
theorem dX12_fewest_24 : decode cX12_fewest 24 = .ok (.ishl, 1) := by decide +kernel
theorem dX12_fewest_25 : decode cX12_fewest 25 = .ok (.iconst 1, 1) := by decide +kernel
theorem dX12_fewest_26 : decode cX12_fewest 26 = .ok (.isub, 1) := by decide +kernel
theorem dX12_fewest_27 : decode cX12_fewest 27 = .ok (.iaload, 1) := by decide +kernel
theorem dX12_fewest_28 : decode cX12_fewest 28 = .ok (.istore_n 2, 1) := by decide +kernel
theorem dX12_fewest_29 : decode cX12_fewest 29 = .ok (.iload_n 2, 1) := by decide +kernel
theorem dX12_fewest_30 : decode cX12_fewest 30 = .ok (.bipush 8, 2) := by decide +kernel
theorem dX12_fewest_32 : decode cX12_fewest 32 = .ok (.if_icmp .le 7, 3) := by decide +kernel
theorem dX12_fewest_35 : decode cX12_fewest 35 = .ok (.iconst (-1), 1) := by decide +kernel
theorem dX12_fewest_36 : decode cX12_fewest 36 = .ok (.goto 4, 3) := by decide +kernel
theorem dX12_fewest_39 : decode cX12_fewest 39 = .ok (.iload_n 2, 1) := by decide +kernel
theorem dX12_fewest_40 : decode cX12_fewest 40 = .ok (.ireturn, 1) := by decide +kernel
theorem dX12_parts_0 : decode cX12_parts 0 = .ok (.iconst 0, 1) := by decide +kernel
theorem dX12_parts_1 : decode cX12_parts 1 = .ok (.istore_n 2, 1) := by decide +kernel
theorem dX12_parts_2 : decode cX12_parts 2 = .ok (.aload_n 0, 1) := by decide +kernel
theorem dX12_parts_3 : decode cX12_parts 3 = .ok (.getfield 76, 3) := by decide +kernel
theorem dX12_parts_6 : decode cX12_parts 6 = .ok (.iconst 0, 1) := by decide +kernel
theorem dX12_parts_7 : decode cX12_parts 7 = .ok (.iconst (-1), 1) := by decide +kernel
theorem dX12_parts_8 : decode cX12_parts 8 = .ok (.iastore, 1) := by decide +kernel
theorem dX12_parts_9 : decode cX12_parts 9 = .ok (.iload_n 2, 1) := by decide +kernel
theorem dX12_parts_10 : decode cX12_parts 10 = .ok (.aload_n 0, 1) := by decide +kernel
theorem dX12_parts_11 : decode cX12_parts 11 = .ok (.getfield 277, 3) := by decide +kernel
theorem dX12_parts_14 : decode cX12_parts 14 = .ok (.if_icmp .ge 86, 3) := by decide +kernel
theorem dX12_parts_17 : decode cX12_parts 17 = .ok (.aload_n 0, 1) := by decide +kernel
theorem dX12_parts_18 : decode cX12_parts 18 = .ok (.getfield 76, 3) := by decide +kernel
theorem dX12_parts_21 : decode cX12_parts 21 = .ok (.iload_n 2, 1) := by decide +kernel
theorem dX12_parts_22 : decode cX12_parts 22 = .ok (.dup2, 1) := by decide +kernel
theorem dX12_parts_23 : decode cX12_parts 23 = .ok (.iaload, 1) := by decide +kernel
theorem dX12_parts_24 : decode cX12_parts 24 = .ok (.iconst 1, 1) := by decide +kernel
theorem dX12_parts_25 : decode cX12_parts 25 = .ok (.iadd, 1) := by decide +kernel
theorem dX12_parts_26 : decode cX12_parts 26 = .ok (.iastore, 1) := by decide +kernel
theorem dX12_parts_27 : decode cX12_parts 27 = .ok (.aload_n 0, 1) := by decide +kernel
theorem dX12_parts_28 : decode cX12_parts 28 = .ok (.getfield 76, 3) := by decide +kernel
theorem dX12_parts_31 : decode cX12_parts 31 = .ok (.iload_n 2, 1) := by decide +kernel
theorem dX12_parts_32 : decode cX12_parts 32 = .ok (.iaload, 1) := by decide +kernel
theorem dX12_parts_33 : decode cX12_parts 33 = .ok (.iload_n 1, 1) := by decide +kernel
theorem dX12_parts_34 : decode cX12_parts 34 = .ok (.if_icmp .ge 29, 3) := by decide +kernel
theorem dX12_parts_37 : decode cX12_parts 37 = .ok (.aload_n 0, 1) := by decide +kernel
theorem dX12_parts_38 : decode cX12_parts 38 = .ok (.getfield 70, 3) := by decide +kernel
theorem dX12_parts_41 : decode cX12_parts 41 = .ok (.aload_n 0, 1) := by decide +kernel
theorem dX12_parts_42 : decode cX12_parts 42 = .ok (.iload_n 2, 1) := by decide +kernel
theorem dX12_parts_43 : decode cX12_parts 43 = .ok (.invokevirtual 289, 3) := by decide +kernel
theorem dX12_parts_46 : decode cX12_parts 46 = .ok (.baload, 1) := by decide +kernel
theorem dX12_parts_47 : decode cX12_parts 47 = .ok (.ifCond .ne 16, 3) := by decide +kernel
theorem dX12_parts_50 : decode cX12_parts 50 = .ok (.aload_n 0, 1) := by decide +kernel
theorem dX12_parts_51 : decode cX12_parts 51 = .ok (.getfield 76, 3) := by decide +kernel
theorem dX12_parts_54 : decode cX12_parts 54 = .ok (.iload_n 2, 1) := by decide +kernel
theorem dX12_parts_55 : decode cX12_parts 55 = .ok (.dup2, 1) := by decide +kernel
theorem dX12_parts_56 : decode cX12_parts 56 = .ok (.iaload, 1) := by decide +kernel
theorem dX12_parts_57 : decode cX12_parts 57 = .ok (.iconst 1, 1) := by decide +kernel
theorem dX12_parts_58 : decode cX12_parts 58 = .ok (.iadd, 1) := by decide +kernel
theorem dX12_parts_59 : decode cX12_parts 59 = .ok (.iastore, 1) := by decide +kernel
theorem dX12_parts_60 : decode cX12_parts 60 = .ok (.goto (-33), 3) := by decide +kernel
theorem dX12_parts_63 : decode cX12_parts 63 = .ok (.aload_n 0, 1) := by decide +kernel
theorem dX12_parts_64 : decode cX12_parts 64 = .ok (.getfield 76, 3) := by decide +kernel
theorem dX12_parts_67 : decode cX12_parts 67 = .ok (.iload_n 2, 1) := by decide +kernel
theorem dX12_parts_68 : decode cX12_parts 68 = .ok (.iaload, 1) := by decide +kernel
theorem dX12_parts_69 : decode cX12_parts 69 = .ok (.iload_n 1, 1) := by decide +kernel
theorem dX12_parts_70 : decode cX12_parts 70 = .ok (.if_icmp .ne 9, 3) := by decide +kernel
theorem dX12_parts_73 : decode cX12_parts 73 = .ok (.iinc 2 (-1), 3) := by decide +kernel
theorem dX12_parts_76 : decode cX12_parts 76 = .ok (.goto (-67), 3) := by decide +kernel
theorem dX12_parts_79 : decode cX12_parts 79 = .ok (.iinc 2 1, 3) := by decide +kernel
theorem dX12_parts_82 : decode cX12_parts 82 = .ok (.iload_n 2, 1) := by decide +kernel
theorem dX12_parts_83 : decode cX12_parts 83 = .ok (.aload_n 0, 1) := by decide +kernel
theorem dX12_parts_84 : decode cX12_parts 84 = .ok (.getfield 277, 3) := by decide +kernel
theorem dX12_parts_87 : decode cX12_parts 87 = .ok (.if_icmp .ge (-78), 3) := by decide +kernel
theorem dX12_parts_90 : decode cX12_parts 90 = .ok (.aload_n 0, 1) := by decide +kernel
theorem dX12_parts_91 : decode cX12_parts 91 = .ok (.getfield 76, 3) := by decide +kernel
theorem dX12_parts_94 : decode cX12_parts 94 = .ok (.iload_n 2, 1) := by decide +kernel
theorem dX12_parts_95 : decode cX12_parts 95 = .ok (.iconst (-1), 1) := by decide +kernel
theorem dX12_parts_96 : decode cX12_parts 96 = .ok (.iastore, 1) := by decide +kernel
theorem dX12_parts_97 : decode cX12_parts 97 = .ok (.goto (-88), 3) := by decide +kernel
theorem dX12_parts_100 : decode cX12_parts 100 = .ok (.return_, 1) := by decide +kernel
theorem dX12_groupOf_0 : decode cX12_groupOf 0 = .ok (.iconst 0, 1) := by decide +kernel
theorem dX12_groupOf_1 : decode cX12_groupOf 1 = .ok (.istore_n 2, 1) := by decide +kernel
theorem dX12_groupOf_2 : decode cX12_groupOf 2 = .ok (.iconst 0, 1) := by decide +kernel
theorem dX12_groupOf_3 : decode cX12_groupOf 3 = .ok (.istore_n 3, 1) := by decide +kernel
theorem dX12_groupOf_4 : decode cX12_groupOf 4 = .ok (.iload_n 3, 1) := by decide +kernel
theorem dX12_groupOf_5 : decode cX12_groupOf 5 = .ok (.iload_n 1, 1) := by decide +kernel
theorem dX12_groupOf_6 : decode cX12_groupOf 6 = .ok (.if_icmp .gt 34, 3) := by decide +kernel
theorem dX12_groupOf_9 : decode cX12_groupOf 9 = .ok (.iload_n 2, 1) := by decide +kernel
theorem dX12_groupOf_10 : decode cX12_groupOf 10 = .ok (.aload_n 0, 1) := by decide +kernel
theorem dX12_groupOf_11 : decode cX12_groupOf 11 = .ok (.getfield 76, 3) := by decide +kernel
theorem dX12_groupOf_14 : decode cX12_groupOf 14 = .ok (.iload_n 3, 1) := by decide +kernel
theorem dX12_groupOf_15 : decode cX12_groupOf 15 = .ok (.iaload, 1) := by decide +kernel
theorem dX12_groupOf_16 : decode cX12_groupOf 16 = .ok (.aload_n 0, 1) := by decide +kernel
theorem dX12_groupOf_17 : decode cX12_groupOf 17 = .ok (.getfield 76, 3) := by decide +kernel
theorem dX12_groupOf_20 : decode cX12_groupOf 20 = .ok (.iload_n 1, 1) := by decide +kernel
theorem dX12_groupOf_21 : decode cX12_groupOf 21 = .ok (.iaload, 1) := by decide +kernel
theorem dX12_groupOf_22 : decode cX12_groupOf 22 = .ok (.if_icmp .ne 9, 3) := by decide +kernel
theorem dX12_groupOf_25 : decode cX12_groupOf 25 = .ok (.iconst 1, 1) := by decide +kernel
theorem dX12_groupOf_26 : decode cX12_groupOf 26 = .ok (.iload_n 3, 1) := by decide +kernel
theorem dX12_groupOf_27 : decode cX12_groupOf 27 = .ok (.ishl, 1) := by decide +kernel
theorem dX12_groupOf_28 : decode cX12_groupOf 28 = .ok (.goto 4, 3) := by decide +kernel
theorem dX12_groupOf_31 : decode cX12_groupOf 31 = .ok (.iconst 0, 1) := by decide +kernel
theorem dX12_groupOf_32 : decode cX12_groupOf 32 = .ok (.ior, 1) := by decide +kernel
theorem dX12_groupOf_33 : decode cX12_groupOf 33 = .ok (.istore_n 2, 1) := by decide +kernel
theorem dX12_groupOf_34 : decode cX12_groupOf 34 = .ok (.iinc 3 1, 3) := by decide +kernel
theorem dX12_groupOf_37 : decode cX12_groupOf 37 = .ok (.goto (-33), 3) := by decide +kernel
theorem dX12_groupOf_40 : decode cX12_groupOf 40 = .ok (.iload_n 2, 1) := by decide +kernel
theorem dX12_groupOf_41 : decode cX12_groupOf 41 = .ok (.ireturn, 1) := by decide +kernel
theorem dX12_part_0 : decode cX12_part 0 = .ok (.aload_n 0, 1) := by decide +kernel
theorem dX12_part_1 : decode cX12_part 1 = .ok (.iload_n 1, 1) := by decide +kernel
theorem dX12_part_2 : decode cX12_part 2 = .ok (.invokevirtual 283, 3) := by decide +kernel
theorem dX12_part_5 : decode cX12_part 5 = .ok (.ifCond .eq 19, 3) := by decide +kernel
theorem dX12_part_8 : decode cX12_part 8 = .ok (.aload_n 0, 1) := by decide +kernel
theorem dX12_part_9 : decode cX12_part 9 = .ok (.iload_n 2, 1) := by decide +kernel
theorem dX12_part_10 : decode cX12_part 10 = .ok (.invokevirtual 237, 3) := by decide +kernel
theorem dX12_part_13 : decode cX12_part 13 = .ok (.ifCond .eq 11, 3) := by decide +kernel
theorem dX12_part_16 : decode cX12_part 16 = .ok (.iload_n 1, 1) := by decide +kernel
theorem dX12_part_17 : decode cX12_part 17 = .ok (.iload_n 2, 1) := by decide +kernel
theorem dX12_part_18 : decode cX12_part 18 = .ok (.ishr, 1) := by decide +kernel
theorem dX12_part_19 : decode cX12_part 19 = .ok (.iconst 1, 1) := by decide +kernel
theorem dX12_part_20 : decode cX12_part 20 = .ok (.iand, 1) := by decide +kernel
theorem dX12_part_21 : decode cX12_part 21 = .ok (.ifCond .ne 6, 3) := by decide +kernel
theorem dX12_part_24 : decode cX12_part 24 = .ok (.bipush (-2), 2) := by decide +kernel
theorem dX12_part_26 : decode cX12_part 26 = .ok (.ireturn, 1) := by decide +kernel
theorem dX12_part_27 : decode cX12_part 27 = .ok (.aload_n 0, 1) := by decide +kernel
theorem dX12_part_28 : decode cX12_part 28 = .ok (.invokevirtual 286, 3) := by decide +kernel
theorem dX12_part_31 : decode cX12_part 31 = .ok (.aload_n 0, 1) := by decide +kernel
theorem dX12_part_32 : decode cX12_part 32 = .ok (.getfield 73, 3) := by decide +kernel
theorem dX12_part_35 : decode cX12_part 35 = .ok (.iconst 1, 1) := by decide +kernel
theorem dX12_part_36 : decode cX12_part 36 = .ok (.aload_n 0, 1) := by decide +kernel
theorem dX12_part_37 : decode cX12_part 37 = .ok (.getfield 277, 3) := by decide +kernel
theorem dX12_part_40 : decode cX12_part 40 = .ok (.ishl, 1) := by decide +kernel
theorem dX12_part_41 : decode cX12_part 41 = .ok (.iconst 1, 1) := by decide +kernel
theorem dX12_part_42 : decode cX12_part 42 = .ok (.isub, 1) := by decide +kernel
theorem dX12_part_43 : decode cX12_part 43 = .ok (.iaload, 1) := by decide +kernel
theorem dX12_part_44 : decode cX12_part 44 = .ok (.istore_n 3, 1) := by decide +kernel
theorem dX12_part_45 : decode cX12_part 45 = .ok (.iload_n 3, 1) := by decide +kernel
theorem dX12_part_46 : decode cX12_part 46 = .ok (.bipush 8, 2) := by decide +kernel
theorem dX12_part_48 : decode cX12_part 48 = .ok (.if_icmp .le 6, 3) := by decide +kernel
theorem dX12_part_51 : decode cX12_part 51 = .ok (.bipush (-3), 2) := by decide +kernel
theorem dX12_part_53 : decode cX12_part 53 = .ok (.ireturn, 1) := by decide +kernel
theorem dX12_part_54 : decode cX12_part 54 = .ok (.aload_n 0, 1) := by decide +kernel
theorem dX12_part_55 : decode cX12_part 55 = .ok (.iload_n 3, 1) := by decide +kernel
theorem dX12_part_56 : decode cX12_part 56 = .ok (.invokevirtual 292, 3) := by decide +kernel
theorem dX12_part_59 : decode cX12_part 59 = .ok (.iconst 0, 1) := by decide +kernel
theorem dX12_part_60 : decode cX12_part 60 = .ok (.istore 4, 2) := by decide +kernel
theorem dX12_part_62 : decode cX12_part 62 = .ok (.aload_n 0, 1) := by decide +kernel
theorem dX12_part_63 : decode cX12_part 63 = .ok (.getfield 67, 3) := by decide +kernel
theorem dX12_part_66 : decode cX12_part 66 = .ok (.iload 4, 2) := by decide +kernel
theorem dX12_part_68 : decode cX12_part 68 = .ok (.iaload, 1) := by decide +kernel
theorem dX12_part_69 : decode cX12_part 69 = .ok (.iload_n 2, 1) := by decide +kernel
theorem dX12_part_70 : decode cX12_part 70 = .ok (.if_icmp .eq 9, 3) := by decide +kernel
theorem dX12_part_73 : decode cX12_part 73 = .ok (.iinc 4 1, 3) := by decide +kernel
theorem dX12_part_76 : decode cX12_part 76 = .ok (.goto (-14), 3) := by decide +kernel
theorem dX12_part_79 : decode cX12_part 79 = .ok (.aload_n 0, 1) := by decide +kernel
theorem dX12_part_80 : decode cX12_part 80 = .ok (.getfield 76, 3) := by decide +kernel
theorem dX12_part_83 : decode cX12_part 83 = .ok (.iload 4, 2) := by decide +kernel
theorem dX12_part_85 : decode cX12_part 85 = .ok (.iaload, 1) := by decide +kernel
theorem dX12_part_86 : decode cX12_part 86 = .ok (.ireturn, 1) := by decide +kernel
theorem dX12_best_0 : decode cX12_best 0 = .ok (.aload_n 0, 1) := by decide +kernel
theorem dX12_best_1 : decode cX12_best 1 = .ok (.iload_n 1, 1) := by decide +kernel
theorem dX12_best_2 : decode cX12_best 2 = .ok (.invokevirtual 283, 3) := by decide +kernel
theorem dX12_best_5 : decode cX12_best 5 = .ok (.ifCond .eq 15, 3) := by decide +kernel
theorem dX12_best_8 : decode cX12_best 8 = .ok (.iload_n 2, 1) := by decide +kernel
theorem dX12_best_9 : decode cX12_best 9 = .ok (.i2l, 1) := by decide +kernel
theorem dX12_best_10 : decode cX12_best 10 = .ok (.lconst 1, 1) := by decide +kernel
theorem dX12_best_11 : decode cX12_best 11 = .ok (.ldc2_w 296, 3) := by decide +kernel
theorem dX12_best_14 : decode cX12_best 14 = .ok (.invokestatic 152, 3) := by decide +kernel
theorem dX12_best_17 : decode cX12_best 17 = .ok (.ifCond .ne 6, 3) := by decide +kernel
theorem dX12_best_20 : decode cX12_best 20 = .ok (.bipush (-2), 2) := by decide +kernel
theorem dX12_best_22 : decode cX12_best 22 = .ok (.ireturn, 1) := by decide +kernel
theorem dX12_best_23 : decode cX12_best 23 = .ok (.aload_n 0, 1) := by decide +kernel
theorem dX12_best_24 : decode cX12_best 24 = .ok (.invokevirtual 286, 3) := by decide +kernel
theorem dX12_best_27 : decode cX12_best 27 = .ok (.iconst 0, 1) := by decide +kernel
theorem dX12_best_28 : decode cX12_best 28 = .ok (.istore_n 3, 1) := by decide +kernel
theorem dX12_best_29 : decode cX12_best 29 = .ok (.iconst 0, 1) := by decide +kernel
theorem dX12_best_30 : decode cX12_best 30 = .ok (.istore 4, 2) := by decide +kernel
theorem dX12_best_32 : decode cX12_best 32 = .ok (.iconst 1, 1) := by decide +kernel
theorem dX12_best_33 : decode cX12_best 33 = .ok (.istore 5, 2) := by decide +kernel
theorem dX12_best_35 : decode cX12_best 35 = .ok (.iload 5, 2) := by decide +kernel
theorem dX12_best_37 : decode cX12_best 37 = .ok (.iconst 1, 1) := by decide +kernel
theorem dX12_best_38 : decode cX12_best 38 = .ok (.aload_n 0, 1) := by decide +kernel
theorem dX12_best_39 : decode cX12_best 39 = .ok (.getfield 277, 3) := by decide +kernel
theorem dX12_best_42 : decode cX12_best 42 = .ok (.ishl, 1) := by decide +kernel
theorem dX12_best_43 : decode cX12_best 43 = .ok (.if_icmp .ge 106, 3) := by decide +kernel
theorem dX12_best_46 : decode cX12_best 46 = .ok (.iconst 0, 1) := by decide +kernel
theorem dX12_best_47 : decode cX12_best 47 = .ok (.istore 6, 2) := by decide +kernel
theorem dX12_best_49 : decode cX12_best 49 = .ok (.iconst 0, 1) := by decide +kernel
theorem dX12_best_50 : decode cX12_best 50 = .ok (.istore 7, 2) := by decide +kernel
theorem dX12_best_52 : decode cX12_best 52 = .ok (.iload 7, 2) := by decide +kernel
theorem dX12_best_54 : decode cX12_best 54 = .ok (.aload_n 0, 1) := by decide +kernel
theorem dX12_best_55 : decode cX12_best 55 = .ok (.getfield 277, 3) := by decide +kernel
theorem dX12_best_58 : decode cX12_best 58 = .ok (.if_icmp .ge 41, 3) := by decide +kernel
theorem dX12_best_61 : decode cX12_best 61 = .ok (.iload 6, 2) := by decide +kernel
theorem dX12_best_63 : decode cX12_best 63 = .ok (.iload 5, 2) := by decide +kernel
theorem dX12_best_65 : decode cX12_best 65 = .ok (.iload 7, 2) := by decide +kernel
theorem dX12_best_67 : decode cX12_best 67 = .ok (.ishr, 1) := by decide +kernel
theorem dX12_best_68 : decode cX12_best 68 = .ok (.iconst 1, 1) := by decide +kernel
theorem dX12_best_69 : decode cX12_best 69 = .ok (.iand, 1) := by decide +kernel
theorem dX12_best_70 : decode cX12_best 70 = .ok (.iconst 1, 1) := by decide +kernel
theorem dX12_best_71 : decode cX12_best 71 = .ok (.if_icmp .ne 18, 3) := by decide +kernel
theorem dX12_best_74 : decode cX12_best 74 = .ok (.aload_n 0, 1) := by decide +kernel
theorem dX12_best_75 : decode cX12_best 75 = .ok (.getfield 51, 3) := by decide +kernel
theorem dX12_best_78 : decode cX12_best 78 = .ok (.aload_n 0, 1) := by decide +kernel
theorem dX12_best_79 : decode cX12_best 79 = .ok (.getfield 67, 3) := by decide +kernel
theorem dX12_best_82 : decode cX12_best 82 = .ok (.iload 7, 2) := by decide +kernel
theorem dX12_best_84 : decode cX12_best 84 = .ok (.iaload, 1) := by decide +kernel
theorem dX12_best_85 : decode cX12_best 85 = .ok (.iaload, 1) := by decide +kernel
theorem dX12_best_86 : decode cX12_best 86 = .ok (.goto 4, 3) := by decide +kernel
theorem dX12_best_89 : decode cX12_best 89 = .ok (.iconst 0, 1) := by decide +kernel
theorem dX12_best_90 : decode cX12_best 90 = .ok (.iadd, 1) := by decide +kernel
theorem dX12_best_91 : decode cX12_best 91 = .ok (.istore 6, 2) := by decide +kernel
theorem dX12_best_93 : decode cX12_best 93 = .ok (.iinc 7 1, 3) := by decide +kernel
theorem dX12_best_96 : decode cX12_best 96 = .ok (.goto (-44), 3) := by decide +kernel
theorem dX12_best_99 : decode cX12_best 99 = .ok (.aload_n 0, 1) := by decide +kernel
theorem dX12_best_100 : decode cX12_best 100 = .ok (.getfield 73, 3) := by decide +kernel
theorem dX12_best_103 : decode cX12_best 103 = .ok (.iload 5, 2) := by decide +kernel
theorem dX12_best_105 : decode cX12_best 105 = .ok (.iaload, 1) := by decide +kernel
theorem dX12_best_106 : decode cX12_best 106 = .ok (.iload_n 2, 1) := by decide +kernel
theorem dX12_best_107 : decode cX12_best 107 = .ok (.if_icmp .gt 36, 3) := by decide +kernel
theorem dX12_best_110 : decode cX12_best 110 = .ok (.iload 6, 2) := by decide +kernel
theorem dX12_best_112 : decode cX12_best 112 = .ok (.iload 4, 2) := by decide +kernel
theorem dX12_best_114 : decode cX12_best 114 = .ok (.if_icmp .gt 22, 3) := by decide +kernel
theorem dX12_best_117 : decode cX12_best 117 = .ok (.iload 6, 2) := by decide +kernel
theorem dX12_best_119 : decode cX12_best 119 = .ok (.iload 4, 2) := by decide +kernel
theorem dX12_best_121 : decode cX12_best 121 = .ok (.if_icmp .ne 22, 3) := by decide +kernel
theorem dX12_best_124 : decode cX12_best 124 = .ok (.iload 5, 2) := by decide +kernel
theorem dX12_best_126 : decode cX12_best 126 = .ok (.invokestatic 274, 3) := by decide +kernel
theorem dX12_best_129 : decode cX12_best 129 = .ok (.iload_n 3, 1) := by decide +kernel
theorem dX12_best_130 : decode cX12_best 130 = .ok (.invokestatic 274, 3) := by decide +kernel
theorem dX12_best_133 : decode cX12_best 133 = .ok (.if_icmp .ge 10, 3) := by decide +kernel
theorem dX12_best_136 : decode cX12_best 136 = .ok (.iload 5, 2) := by decide +kernel
theorem dX12_best_138 : decode cX12_best 138 = .ok (.istore_n 3, 1) := by decide +kernel
theorem dX12_best_139 : decode cX12_best 139 = .ok (.iload 6, 2) := by decide +kernel
theorem dX12_best_141 : decode cX12_best 141 = .ok (.istore 4, 2) := by decide +kernel
theorem dX12_best_143 : decode cX12_best 143 = .ok (.iinc 5 1, 3) := by decide +kernel
theorem dX12_best_146 : decode cX12_best 146 = .ok (.goto (-111), 3) := by decide +kernel
theorem dX12_best_149 : decode cX12_best 149 = .ok (.aload_n 0, 1) := by decide +kernel
theorem dX12_best_150 : decode cX12_best 150 = .ok (.iload_n 3, 1) := by decide +kernel
theorem dX12_best_151 : decode cX12_best 151 = .ok (.invokevirtual 280, 3) := by decide +kernel
theorem dX12_best_154 : decode cX12_best 154 = .ok (.ireturn, 1) := by decide +kernel
theorem dX12_proof_0 : decode cX12_proof 0 = .ok (.aload_n 0, 1) := by decide +kernel
theorem dX12_proof_1 : decode cX12_proof 1 = .ok (.iload_n 1, 1) := by decide +kernel
theorem dX12_proof_2 : decode cX12_proof 2 = .ok (.invokevirtual 283, 3) := by decide +kernel
theorem dX12_proof_5 : decode cX12_proof 5 = .ok (.ifCond .eq 15, 3) := by decide +kernel
theorem dX12_proof_8 : decode cX12_proof 8 = .ok (.iload_n 2, 1) := by decide +kernel
theorem dX12_proof_9 : decode cX12_proof 9 = .ok (.i2l, 1) := by decide +kernel
theorem dX12_proof_10 : decode cX12_proof 10 = .ok (.lconst 1, 1) := by decide +kernel
theorem dX12_proof_11 : decode cX12_proof 11 = .ok (.ldc2_w 296, 3) := by decide +kernel
theorem dX12_proof_14 : decode cX12_proof 14 = .ok (.invokestatic 152, 3) := by decide +kernel
theorem dX12_proof_17 : decode cX12_proof 17 = .ok (.ifCond .ne 6, 3) := by decide +kernel
theorem dX12_proof_20 : decode cX12_proof 20 = .ok (.bipush (-2), 2) := by decide +kernel
theorem dX12_proof_22 : decode cX12_proof 22 = .ok (.ireturn, 1) := by decide +kernel
theorem dX12_proof_23 : decode cX12_proof 23 = .ok (.aload_n 0, 1) := by decide +kernel
theorem dX12_proof_24 : decode cX12_proof 24 = .ok (.invokevirtual 286, 3) := by decide +kernel
theorem dX12_proof_27 : decode cX12_proof 27 = .ok (.iconst 0, 1) := by decide +kernel
theorem dX12_proof_28 : decode cX12_proof 28 = .ok (.istore_n 3, 1) := by decide +kernel
theorem dX12_proof_29 : decode cX12_proof 29 = .ok (.iconst 1, 1) := by decide +kernel
theorem dX12_proof_30 : decode cX12_proof 30 = .ok (.istore 4, 2) := by decide +kernel
theorem dX12_proof_32 : decode cX12_proof 32 = .ok (.iload 4, 2) := by decide +kernel
theorem dX12_proof_34 : decode cX12_proof 34 = .ok (.iconst 1, 1) := by decide +kernel
theorem dX12_proof_35 : decode cX12_proof 35 = .ok (.aload_n 0, 1) := by decide +kernel
theorem dX12_proof_36 : decode cX12_proof 36 = .ok (.getfield 277, 3) := by decide +kernel
theorem dX12_proof_39 : decode cX12_proof 39 = .ok (.ishl, 1) := by decide +kernel
theorem dX12_proof_40 : decode cX12_proof 40 = .ok (.if_icmp .ge 39, 3) := by decide +kernel
theorem dX12_proof_43 : decode cX12_proof 43 = .ok (.aload_n 0, 1) := by decide +kernel
theorem dX12_proof_44 : decode cX12_proof 44 = .ok (.getfield 73, 3) := by decide +kernel
theorem dX12_proof_47 : decode cX12_proof 47 = .ok (.iload 4, 2) := by decide +kernel
theorem dX12_proof_49 : decode cX12_proof 49 = .ok (.iaload, 1) := by decide +kernel
theorem dX12_proof_50 : decode cX12_proof 50 = .ok (.iload_n 2, 1) := by decide +kernel
theorem dX12_proof_51 : decode cX12_proof 51 = .ok (.if_icmp .le 22, 3) := by decide +kernel
theorem dX12_proof_54 : decode cX12_proof 54 = .ok (.iload_n 3, 1) := by decide +kernel
theorem dX12_proof_55 : decode cX12_proof 55 = .ok (.ifCond .eq 15, 3) := by decide +kernel
theorem dX12_proof_58 : decode cX12_proof 58 = .ok (.iload 4, 2) := by decide +kernel
theorem dX12_proof_60 : decode cX12_proof 60 = .ok (.invokestatic 274, 3) := by decide +kernel
theorem dX12_proof_63 : decode cX12_proof 63 = .ok (.iload_n 3, 1) := by decide +kernel
theorem dX12_proof_64 : decode cX12_proof 64 = .ok (.invokestatic 274, 3) := by decide +kernel
theorem dX12_proof_67 : decode cX12_proof 67 = .ok (.if_icmp .ge 6, 3) := by decide +kernel
theorem dX12_proof_70 : decode cX12_proof 70 = .ok (.iload 4, 2) := by decide +kernel
theorem dX12_proof_72 : decode cX12_proof 72 = .ok (.istore_n 3, 1) := by decide +kernel
theorem dX12_proof_73 : decode cX12_proof 73 = .ok (.iinc 4 1, 3) := by decide +kernel
theorem dX12_proof_76 : decode cX12_proof 76 = .ok (.goto (-44), 3) := by decide +kernel
theorem dX12_proof_79 : decode cX12_proof 79 = .ok (.aload_n 0, 1) := by decide +kernel
theorem dX12_proof_80 : decode cX12_proof 80 = .ok (.iload_n 3, 1) := by decide +kernel
theorem dX12_proof_81 : decode cX12_proof 81 = .ok (.invokevirtual 280, 3) := by decide +kernel
theorem dX12_proof_84 : decode cX12_proof 84 = .ok (.ireturn, 1) := by decide +kernel
theorem dX12_assign_0 : decode cX12_assign 0 = .ok (.aload_n 0, 1) := by decide +kernel
theorem dX12_assign_1 : decode cX12_assign 1 = .ok (.iload_n 1, 1) := by decide +kernel
theorem dX12_assign_2 : decode cX12_assign 2 = .ok (.invokevirtual 283, 3) := by decide +kernel
theorem dX12_assign_5 : decode cX12_assign 5 = .ok (.ifCond .ne 6, 3) := by decide +kernel
theorem dX12_assign_8 : decode cX12_assign 8 = .ok (.bipush (-2), 2) := by decide +kernel
theorem dX12_assign_10 : decode cX12_assign 10 = .ok (.ireturn, 1) := by decide +kernel
theorem dX12_assign_11 : decode cX12_assign 11 = .ok (.aload_n 0, 1) := by decide +kernel
theorem dX12_assign_12 : decode cX12_assign 12 = .ok (.invokevirtual 286, 3) := by decide +kernel
theorem dX12_assign_15 : decode cX12_assign 15 = .ok (.aload_n 0, 1) := by decide +kernel
theorem dX12_assign_16 : decode cX12_assign 16 = .ok (.getfield 73, 3) := by decide +kernel
theorem dX12_assign_19 : decode cX12_assign 19 = .ok (.iconst 1, 1) := by decide +kernel
theorem dX12_assign_20 : decode cX12_assign 20 = .ok (.aload_n 0, 1) := by decide +kernel
theorem dX12_assign_21 : decode cX12_assign 21 = .ok (.getfield 277, 3) := by decide +kernel
theorem dX12_assign_24 : decode cX12_assign 24 = .ok (.ishl, 1) := by decide +kernel
theorem dX12_assign_25 : decode cX12_assign 25 = .ok (.iconst 1, 1) := by decide +kernel
theorem dX12_assign_26 : decode cX12_assign 26 = .ok (.isub, 1) := by decide +kernel
theorem dX12_assign_27 : decode cX12_assign 27 = .ok (.iaload, 1) := by decide +kernel
theorem dX12_assign_28 : decode cX12_assign 28 = .ok (.istore_n 2, 1) := by decide +kernel
theorem dX12_assign_29 : decode cX12_assign 29 = .ok (.iload_n 2, 1) := by decide +kernel
theorem dX12_assign_30 : decode cX12_assign 30 = .ok (.bipush 8, 2) := by decide +kernel
theorem dX12_assign_32 : decode cX12_assign 32 = .ok (.if_icmp .le 6, 3) := by decide +kernel
theorem dX12_assign_35 : decode cX12_assign 35 = .ok (.bipush (-3), 2) := by decide +kernel
theorem dX12_assign_37 : decode cX12_assign 37 = .ok (.ireturn, 1) := by decide +kernel
theorem dX12_assign_38 : decode cX12_assign 38 = .ok (.aload_n 0, 1) := by decide +kernel
theorem dX12_assign_39 : decode cX12_assign 39 = .ok (.iload_n 2, 1) := by decide +kernel
theorem dX12_assign_40 : decode cX12_assign 40 = .ok (.invokevirtual 292, 3) := by decide +kernel
theorem dX12_assign_43 : decode cX12_assign 43 = .ok (.iconst 0, 1) := by decide +kernel
theorem dX12_assign_44 : decode cX12_assign 44 = .ok (.istore_n 3, 1) := by decide +kernel
theorem dX12_assign_45 : decode cX12_assign 45 = .ok (.iload_n 3, 1) := by decide +kernel
theorem dX12_assign_46 : decode cX12_assign 46 = .ok (.aload_n 0, 1) := by decide +kernel
theorem dX12_assign_47 : decode cX12_assign 47 = .ok (.getfield 277, 3) := by decide +kernel
theorem dX12_assign_50 : decode cX12_assign 50 = .ok (.if_icmp .ge 26, 3) := by decide +kernel
theorem dX12_assign_53 : decode cX12_assign 53 = .ok (.aload_n 0, 1) := by decide +kernel
theorem dX12_assign_54 : decode cX12_assign 54 = .ok (.getfield 54, 3) := by decide +kernel
theorem dX12_assign_57 : decode cX12_assign 57 = .ok (.aload_n 0, 1) := by decide +kernel
theorem dX12_assign_58 : decode cX12_assign 58 = .ok (.getfield 67, 3) := by decide +kernel
theorem dX12_assign_61 : decode cX12_assign 61 = .ok (.iload_n 3, 1) := by decide +kernel
theorem dX12_assign_62 : decode cX12_assign 62 = .ok (.iaload, 1) := by decide +kernel
theorem dX12_assign_63 : decode cX12_assign 63 = .ok (.aload_n 0, 1) := by decide +kernel
theorem dX12_assign_64 : decode cX12_assign 64 = .ok (.getfield 76, 3) := by decide +kernel
theorem dX12_assign_67 : decode cX12_assign 67 = .ok (.iload_n 3, 1) := by decide +kernel
theorem dX12_assign_68 : decode cX12_assign 68 = .ok (.iaload, 1) := by decide +kernel
theorem dX12_assign_69 : decode cX12_assign 69 = .ok (.iastore, 1) := by decide +kernel
theorem dX12_assign_70 : decode cX12_assign 70 = .ok (.iinc 3 1, 3) := by decide +kernel
theorem dX12_assign_73 : decode cX12_assign 73 = .ok (.goto (-28), 3) := by decide +kernel
theorem dX12_assign_76 : decode cX12_assign 76 = .ok (.iload_n 2, 1) := by decide +kernel
theorem dX12_assign_77 : decode cX12_assign 77 = .ok (.ireturn, 1) := by decide +kernel
theorem dX12_over_0 : decode cX12_over 0 = .ok (.lconst 1, 1) := by decide +kernel
theorem dX12_over_1 : decode cX12_over 1 = .ok (.lstore_n 2, 1) := by decide +kernel
theorem dX12_over_2 : decode cX12_over 2 = .ok (.iconst 0, 1) := by decide +kernel
theorem dX12_over_3 : decode cX12_over 3 = .ok (.istore 4, 2) := by decide +kernel
theorem dX12_over_5 : decode cX12_over 5 = .ok (.iload 4, 2) := by decide +kernel
theorem dX12_over_7 : decode cX12_over 7 = .ok (.iload_n 1, 1) := by decide +kernel
theorem dX12_over_8 : decode cX12_over 8 = .ok (.if_icmp .ge 23, 3) := by decide +kernel
theorem dX12_over_11 : decode cX12_over 11 = .ok (.lload_n 2, 1) := by decide +kernel
theorem dX12_over_12 : decode cX12_over 12 = .ok (.iload_n 0, 1) := by decide +kernel
theorem dX12_over_13 : decode cX12_over 13 = .ok (.iload 4, 2) := by decide +kernel
theorem dX12_over_15 : decode cX12_over 15 = .ok (.isub, 1) := by decide +kernel
theorem dX12_over_16 : decode cX12_over 16 = .ok (.i2l, 1) := by decide +kernel
theorem dX12_over_17 : decode cX12_over 17 = .ok (.lmul, 1) := by decide +kernel
theorem dX12_over_18 : decode cX12_over 18 = .ok (.iload 4, 2) := by decide +kernel
theorem dX12_over_20 : decode cX12_over 20 = .ok (.iconst 1, 1) := by decide +kernel
theorem dX12_over_21 : decode cX12_over 21 = .ok (.iadd, 1) := by decide +kernel
theorem dX12_over_22 : decode cX12_over 22 = .ok (.i2l, 1) := by decide +kernel
theorem dX12_over_23 : decode cX12_over 23 = .ok (.ldiv, 1) := by decide +kernel
theorem dX12_over_24 : decode cX12_over 24 = .ok (.lstore_n 2, 1) := by decide +kernel
theorem dX12_over_25 : decode cX12_over 25 = .ok (.iinc 4 1, 3) := by decide +kernel
theorem dX12_over_28 : decode cX12_over 28 = .ok (.goto (-23), 3) := by decide +kernel
theorem dX12_over_31 : decode cX12_over 31 = .ok (.lload_n 2, 1) := by decide +kernel
theorem dX12_over_32 : decode cX12_over 32 = .ok (.lreturn, 1) := by decide +kernel
theorem dX12_raised_0 : decode cX12_raised 0 = .ok (.lconst 1, 1) := by decide +kernel
theorem dX12_raised_1 : decode cX12_raised 1 = .ok (.lstore_n 3, 1) := by decide +kernel
theorem dX12_raised_2 : decode cX12_raised 2 = .ok (.iconst 0, 1) := by decide +kernel
theorem dX12_raised_3 : decode cX12_raised 3 = .ok (.istore 5, 2) := by decide +kernel
theorem dX12_raised_5 : decode cX12_raised 5 = .ok (.iload 5, 2) := by decide +kernel
theorem dX12_raised_7 : decode cX12_raised 7 = .ok (.iload_n 2, 1) := by decide +kernel
theorem dX12_raised_8 : decode cX12_raised 8 = .ok (.if_icmp .ge 13, 3) := by decide +kernel
theorem dX12_raised_11 : decode cX12_raised 11 = .ok (.lload_n 3, 1) := by decide +kernel
theorem dX12_raised_12 : decode cX12_raised 12 = .ok (.lload_n 0, 1) := by decide +kernel
theorem dX12_raised_13 : decode cX12_raised 13 = .ok (.lmul, 1) := by decide +kernel
theorem dX12_raised_14 : decode cX12_raised 14 = .ok (.lstore_n 3, 1) := by decide +kernel
theorem dX12_raised_15 : decode cX12_raised 15 = .ok (.iinc 5 1, 3) := by decide +kernel
theorem dX12_raised_18 : decode cX12_raised 18 = .ok (.goto (-13), 3) := by decide +kernel
theorem dX12_raised_21 : decode cX12_raised 21 = .ok (.lload_n 3, 1) := by decide +kernel
theorem dX12_raised_22 : decode cX12_raised 22 = .ok (.lreturn, 1) := by decide +kernel
theorem dX12_millionths_0 : decode cX12_millionths 0 = .ok (.lconst 0, 1) := by decide +kernel
theorem dX12_millionths_1 : decode cX12_millionths 1 = .ok (.lstore 4, 2) := by decide +kernel
theorem dX12_millionths_3 : decode cX12_millionths 3 = .ok (.iload_n 1, 1) := by decide +kernel
theorem dX12_millionths_4 : decode cX12_millionths 4 = .ok (.istore 6, 2) := by decide +kernel
theorem dX12_millionths_6 : decode cX12_millionths 6 = .ok (.iload 6, 2) := by decide +kernel
theorem dX12_millionths_8 : decode cX12_millionths 8 = .ok (.iload_n 2, 1) := by decide +kernel
theorem dX12_millionths_9 : decode cX12_millionths 9 = .ok (.if_icmp .gt 41, 3) := by decide +kernel
theorem dX12_millionths_12 : decode cX12_millionths 12 = .ok (.lload 4, 2) := by decide +kernel
theorem dX12_millionths_14 : decode cX12_millionths 14 = .ok (.iload_n 0, 1) := by decide +kernel
theorem dX12_millionths_15 : decode cX12_millionths 15 = .ok (.iload 6, 2) := by decide +kernel
theorem dX12_millionths_17 : decode cX12_millionths 17 = .ok (.invokestatic 298, 3) := by decide +kernel
theorem dX12_millionths_20 : decode cX12_millionths 20 = .ok (.iload_n 3, 1) := by decide +kernel
theorem dX12_millionths_21 : decode cX12_millionths 21 = .ok (.i2l, 1) := by decide +kernel
theorem dX12_millionths_22 : decode cX12_millionths 22 = .ok (.iload 6, 2) := by decide +kernel
theorem dX12_millionths_24 : decode cX12_millionths 24 = .ok (.invokestatic 301, 3) := by decide +kernel
theorem dX12_millionths_27 : decode cX12_millionths 27 = .ok (.lmul, 1) := by decide +kernel
theorem dX12_millionths_28 : decode cX12_millionths 28 = .ok (.bipush 100, 2) := by decide +kernel
theorem dX12_millionths_30 : decode cX12_millionths 30 = .ok (.iload_n 3, 1) := by decide +kernel
theorem dX12_millionths_31 : decode cX12_millionths 31 = .ok (.isub, 1) := by decide +kernel
theorem dX12_millionths_32 : decode cX12_millionths 32 = .ok (.i2l, 1) := by decide +kernel
theorem dX12_millionths_33 : decode cX12_millionths 33 = .ok (.iload_n 0, 1) := by decide +kernel
theorem dX12_millionths_34 : decode cX12_millionths 34 = .ok (.iload 6, 2) := by decide +kernel
theorem dX12_millionths_36 : decode cX12_millionths 36 = .ok (.isub, 1) := by decide +kernel
theorem dX12_millionths_37 : decode cX12_millionths 37 = .ok (.invokestatic 301, 3) := by decide +kernel
theorem dX12_millionths_40 : decode cX12_millionths 40 = .ok (.lmul, 1) := by decide +kernel
theorem dX12_millionths_41 : decode cX12_millionths 41 = .ok (.ladd, 1) := by decide +kernel
theorem dX12_millionths_42 : decode cX12_millionths 42 = .ok (.lstore 4, 2) := by decide +kernel
theorem dX12_millionths_44 : decode cX12_millionths 44 = .ok (.iinc 6 1, 3) := by decide +kernel
theorem dX12_millionths_47 : decode cX12_millionths 47 = .ok (.goto (-41), 3) := by decide +kernel
theorem dX12_millionths_50 : decode cX12_millionths 50 = .ok (.iload_n 0, 1) := by decide +kernel
theorem dX12_millionths_51 : decode cX12_millionths 51 = .ok (.iconst 3, 1) := by decide +kernel
theorem dX12_millionths_52 : decode cX12_millionths 52 = .ok (.if_icmp .ge 18, 3) := by decide +kernel
theorem dX12_millionths_55 : decode cX12_millionths 55 = .ok (.lload 4, 2) := by decide +kernel
theorem dX12_millionths_57 : decode cX12_millionths 57 = .ok (.ldc2_w 257, 3) := by decide +kernel
theorem dX12_millionths_60 : decode cX12_millionths 60 = .ok (.iconst 3, 1) := by decide +kernel
theorem dX12_millionths_61 : decode cX12_millionths 61 = .ok (.iload_n 0, 1) := by decide +kernel
theorem dX12_millionths_62 : decode cX12_millionths 62 = .ok (.isub, 1) := by decide +kernel
theorem dX12_millionths_63 : decode cX12_millionths 63 = .ok (.invokestatic 301, 3) := by decide +kernel
theorem dX12_millionths_66 : decode cX12_millionths 66 = .ok (.lmul, 1) := by decide +kernel
theorem dX12_millionths_67 : decode cX12_millionths 67 = .ok (.goto 15, 3) := by decide +kernel
theorem dX12_millionths_70 : decode cX12_millionths 70 = .ok (.lload 4, 2) := by decide +kernel
theorem dX12_millionths_72 : decode cX12_millionths 72 = .ok (.ldc2_w 257, 3) := by decide +kernel
theorem dX12_millionths_75 : decode cX12_millionths 75 = .ok (.iload_n 0, 1) := by decide +kernel
theorem dX12_millionths_76 : decode cX12_millionths 76 = .ok (.iconst 3, 1) := by decide +kernel
theorem dX12_millionths_77 : decode cX12_millionths 77 = .ok (.isub, 1) := by decide +kernel
theorem dX12_millionths_78 : decode cX12_millionths 78 = .ok (.invokestatic 301, 3) := by decide +kernel
theorem dX12_millionths_81 : decode cX12_millionths 81 = .ok (.ldiv, 1) := by decide +kernel
theorem dX12_millionths_82 : decode cX12_millionths 82 = .ok (.l2i, 1) := by decide +kernel
theorem dX12_millionths_83 : decode cX12_millionths 83 = .ok (.ireturn, 1) := by decide +kernel
theorem dX12_isWord_0 : decode cX12_isWord 0 = .ok (.iload_n 0, 1) := by decide +kernel
theorem dX12_isWord_1 : decode cX12_isWord 1 = .ok (.i2l, 1) := by decide +kernel
theorem dX12_isWord_2 : decode cX12_isWord 2 = .ok (.lconst 1, 1) := by decide +kernel
theorem dX12_isWord_3 : decode cX12_isWord 3 = .ok (.ldc2_w 296, 3) := by decide +kernel
theorem dX12_isWord_6 : decode cX12_isWord 6 = .ok (.invokestatic 152, 3) := by decide +kernel
theorem dX12_isWord_9 : decode cX12_isWord 9 = .ok (.ifCond .eq 30, 3) := by decide +kernel
theorem dX12_isWord_12 : decode cX12_isWord 12 = .ok (.iload_n 1, 1) := by decide +kernel
theorem dX12_isWord_13 : decode cX12_isWord 13 = .ok (.i2l, 1) := by decide +kernel
theorem dX12_isWord_14 : decode cX12_isWord 14 = .ok (.lconst 0, 1) := by decide +kernel
theorem dX12_isWord_15 : decode cX12_isWord 15 = .ok (.iload_n 0, 1) := by decide +kernel
theorem dX12_isWord_16 : decode cX12_isWord 16 = .ok (.i2l, 1) := by decide +kernel
theorem dX12_isWord_17 : decode cX12_isWord 17 = .ok (.invokestatic 152, 3) := by decide +kernel
theorem dX12_isWord_20 : decode cX12_isWord 20 = .ok (.ifCond .eq 19, 3) := by decide +kernel
theorem dX12_isWord_23 : decode cX12_isWord 23 = .ok (.iload_n 2, 1) := by decide +kernel
theorem dX12_isWord_24 : decode cX12_isWord 24 = .ok (.i2l, 1) := by decide +kernel
theorem dX12_isWord_25 : decode cX12_isWord 25 = .ok (.lconst 0, 1) := by decide +kernel
theorem dX12_isWord_26 : decode cX12_isWord 26 = .ok (.ldc2_w 257, 3) := by decide +kernel
theorem dX12_isWord_29 : decode cX12_isWord 29 = .ok (.invokestatic 152, 3) := by decide +kernel
theorem dX12_isWord_32 : decode cX12_isWord 32 = .ok (.ifCond .eq 7, 3) := by decide +kernel
theorem dX12_isWord_35 : decode cX12_isWord 35 = .ok (.iconst 1, 1) := by decide +kernel
theorem dX12_isWord_36 : decode cX12_isWord 36 = .ok (.goto 4, 3) := by decide +kernel
theorem dX12_isWord_39 : decode cX12_isWord 39 = .ok (.iconst 0, 1) := by decide +kernel
theorem dX12_isWord_40 : decode cX12_isWord 40 = .ok (.ireturn, 1) := by decide +kernel
theorem dX12_odds_0 : decode cX12_odds 0 = .ok (.iload_n 1, 1) := by decide +kernel
theorem dX12_odds_1 : decode cX12_odds 1 = .ok (.iload_n 2, 1) := by decide +kernel
theorem dX12_odds_2 : decode cX12_odds 2 = .ok (.iload_n 3, 1) := by decide +kernel
theorem dX12_odds_3 : decode cX12_odds 3 = .ok (.invokestatic 305, 3) := by decide +kernel
theorem dX12_odds_6 : decode cX12_odds 6 = .ok (.ifCond .eq 13, 3) := by decide +kernel
theorem dX12_odds_9 : decode cX12_odds 9 = .ok (.iload_n 1, 1) := by decide +kernel
theorem dX12_odds_10 : decode cX12_odds 10 = .ok (.iconst 0, 1) := by decide +kernel
theorem dX12_odds_11 : decode cX12_odds 11 = .ok (.iload_n 2, 1) := by decide +kernel
theorem dX12_odds_12 : decode cX12_odds 12 = .ok (.iload_n 3, 1) := by decide +kernel
theorem dX12_odds_13 : decode cX12_odds 13 = .ok (.invokestatic 309, 3) := by decide +kernel
theorem dX12_odds_16 : decode cX12_odds 16 = .ok (.goto 5, 3) := by decide +kernel
theorem dX12_odds_19 : decode cX12_odds 19 = .ok (.bipush (-2), 2) := by decide +kernel
theorem dX12_odds_21 : decode cX12_odds 21 = .ok (.ireturn, 1) := by decide +kernel
theorem dX12_flow_0 : decode cX12_flow 0 = .ok (.iload_n 1, 1) := by decide +kernel
theorem dX12_flow_1 : decode cX12_flow 1 = .ok (.iload_n 2, 1) := by decide +kernel
theorem dX12_flow_2 : decode cX12_flow 2 = .ok (.iload_n 3, 1) := by decide +kernel
theorem dX12_flow_3 : decode cX12_flow 3 = .ok (.invokestatic 305, 3) := by decide +kernel
theorem dX12_flow_6 : decode cX12_flow 6 = .ok (.ifCond .eq 29, 3) := by decide +kernel
theorem dX12_flow_9 : decode cX12_flow 9 = .ok (.iload 4, 2) := by decide +kernel
theorem dX12_flow_11 : decode cX12_flow 11 = .ok (.i2l, 1) := by decide +kernel
theorem dX12_flow_12 : decode cX12_flow 12 = .ok (.lconst 1, 1) := by decide +kernel
theorem dX12_flow_13 : decode cX12_flow 13 = .ok (.ldc2_w 296, 3) := by decide +kernel
theorem dX12_flow_16 : decode cX12_flow 16 = .ok (.invokestatic 152, 3) := by decide +kernel
theorem dX12_flow_19 : decode cX12_flow 19 = .ok (.ifCond .eq 16, 3) := by decide +kernel
theorem dX12_flow_22 : decode cX12_flow 22 = .ok (.iload 5, 2) := by decide +kernel
theorem dX12_flow_24 : decode cX12_flow 24 = .ok (.i2l, 1) := by decide +kernel
theorem dX12_flow_25 : decode cX12_flow 25 = .ok (.lconst 0, 1) := by decide +kernel
theorem dX12_flow_26 : decode cX12_flow 26 = .ok (.iload 4, 2) := by decide +kernel
theorem dX12_flow_28 : decode cX12_flow 28 = .ok (.i2l, 1) := by decide +kernel
theorem dX12_flow_29 : decode cX12_flow 29 = .ok (.invokestatic 152, 3) := by decide +kernel
theorem dX12_flow_32 : decode cX12_flow 32 = .ok (.ifCond .ne 6, 3) := by decide +kernel
theorem dX12_flow_35 : decode cX12_flow 35 = .ok (.bipush (-2), 2) := by decide +kernel
theorem dX12_flow_37 : decode cX12_flow 37 = .ok (.ireturn, 1) := by decide +kernel
theorem dX12_flow_38 : decode cX12_flow 38 = .ok (.iload 4, 2) := by decide +kernel
theorem dX12_flow_40 : decode cX12_flow 40 = .ok (.iload 5, 2) := by decide +kernel
theorem dX12_flow_42 : decode cX12_flow 42 = .ok (.iload 4, 2) := by decide +kernel
theorem dX12_flow_44 : decode cX12_flow 44 = .ok (.iload_n 1, 1) := by decide +kernel
theorem dX12_flow_45 : decode cX12_flow 45 = .ok (.iconst 0, 1) := by decide +kernel
theorem dX12_flow_46 : decode cX12_flow 46 = .ok (.iload_n 2, 1) := by decide +kernel
theorem dX12_flow_47 : decode cX12_flow 47 = .ok (.iload_n 3, 1) := by decide +kernel
theorem dX12_flow_48 : decode cX12_flow 48 = .ok (.invokestatic 309, 3) := by decide +kernel
theorem dX12_flow_51 : decode cX12_flow 51 = .ok (.sipush 10000, 3) := by decide +kernel
theorem dX12_flow_54 : decode cX12_flow 54 = .ok (.idiv, 1) := by decide +kernel
theorem dX12_flow_55 : decode cX12_flow 55 = .ok (.invokestatic 309, 3) := by decide +kernel
theorem dX12_flow_58 : decode cX12_flow 58 = .ok (.ireturn, 1) := by decide +kernel
theorem dX12_areHops_0 : decode cX12_areHops 0 = .ok (.iload_n 0, 1) := by decide +kernel
theorem dX12_areHops_1 : decode cX12_areHops 1 = .ok (.iconst 2, 1) := by decide +kernel
theorem dX12_areHops_2 : decode cX12_areHops 2 = .ok (.if_icmp .eq 25, 3) := by decide +kernel
theorem dX12_areHops_5 : decode cX12_areHops 5 = .ok (.iload_n 0, 1) := by decide +kernel
theorem dX12_areHops_6 : decode cX12_areHops 6 = .ok (.iconst 3, 1) := by decide +kernel
theorem dX12_areHops_7 : decode cX12_areHops 7 = .ok (.if_icmp .eq 20, 3) := by decide +kernel
theorem dX12_areHops_10 : decode cX12_areHops 10 = .ok (.iload_n 0, 1) := by decide +kernel
theorem dX12_areHops_11 : decode cX12_areHops 11 = .ok (.iconst 5, 1) := by decide +kernel
theorem dX12_areHops_12 : decode cX12_areHops 12 = .ok (.if_icmp .eq 15, 3) := by decide +kernel
theorem dX12_areHops_15 : decode cX12_areHops 15 = .ok (.iload_n 0, 1) := by decide +kernel
theorem dX12_areHops_16 : decode cX12_areHops 16 = .ok (.bipush 7, 2) := by decide +kernel
theorem dX12_areHops_18 : decode cX12_areHops 18 = .ok (.if_icmp .eq 9, 3) := by decide +kernel
theorem dX12_areHops_21 : decode cX12_areHops 21 = .ok (.iload_n 0, 1) := by decide +kernel
theorem dX12_areHops_22 : decode cX12_areHops 22 = .ok (.bipush 11, 2) := by decide +kernel
theorem dX12_areHops_24 : decode cX12_areHops 24 = .ok (.if_icmp .ne 7, 3) := by decide +kernel
theorem dX12_areHops_27 : decode cX12_areHops 27 = .ok (.iconst 1, 1) := by decide +kernel
theorem dX12_areHops_28 : decode cX12_areHops 28 = .ok (.goto 4, 3) := by decide +kernel
theorem dX12_areHops_31 : decode cX12_areHops 31 = .ok (.iconst 0, 1) := by decide +kernel
theorem dX12_areHops_32 : decode cX12_areHops 32 = .ok (.istore_n 3, 1) := by decide +kernel
theorem dX12_areHops_33 : decode cX12_areHops 33 = .ok (.iload_n 3, 1) := by decide +kernel
theorem dX12_areHops_34 : decode cX12_areHops 34 = .ok (.ifCond .eq 33, 3) := by decide +kernel
theorem dX12_areHops_37 : decode cX12_areHops 37 = .ok (.iload_n 1, 1) := by decide +kernel
theorem dX12_areHops_38 : decode cX12_areHops 38 = .ok (.i2l, 1) := by decide +kernel
theorem dX12_areHops_39 : decode cX12_areHops 39 = .ok (.lconst 1, 1) := by decide +kernel
theorem dX12_areHops_40 : decode cX12_areHops 40 = .ok (.iload_n 0, 1) := by decide +kernel
theorem dX12_areHops_41 : decode cX12_areHops 41 = .ok (.iconst 1, 1) := by decide +kernel
theorem dX12_areHops_42 : decode cX12_areHops 42 = .ok (.isub, 1) := by decide +kernel
theorem dX12_areHops_43 : decode cX12_areHops 43 = .ok (.i2l, 1) := by decide +kernel
theorem dX12_areHops_44 : decode cX12_areHops 44 = .ok (.invokestatic 152, 3) := by decide +kernel
theorem dX12_areHops_47 : decode cX12_areHops 47 = .ok (.ifCond .eq 20, 3) := by decide +kernel
theorem dX12_areHops_50 : decode cX12_areHops 50 = .ok (.iload_n 2, 1) := by decide +kernel
theorem dX12_areHops_51 : decode cX12_areHops 51 = .ok (.i2l, 1) := by decide +kernel
theorem dX12_areHops_52 : decode cX12_areHops 52 = .ok (.lconst 1, 1) := by decide +kernel
theorem dX12_areHops_53 : decode cX12_areHops 53 = .ok (.iload_n 0, 1) := by decide +kernel
theorem dX12_areHops_54 : decode cX12_areHops 54 = .ok (.iconst 1, 1) := by decide +kernel
theorem dX12_areHops_55 : decode cX12_areHops 55 = .ok (.isub, 1) := by decide +kernel
theorem dX12_areHops_56 : decode cX12_areHops 56 = .ok (.i2l, 1) := by decide +kernel
theorem dX12_areHops_57 : decode cX12_areHops 57 = .ok (.invokestatic 152, 3) := by decide +kernel
theorem dX12_areHops_60 : decode cX12_areHops 60 = .ok (.ifCond .eq 7, 3) := by decide +kernel
theorem dX12_areHops_63 : decode cX12_areHops 63 = .ok (.iconst 1, 1) := by decide +kernel
theorem dX12_areHops_64 : decode cX12_areHops 64 = .ok (.goto 4, 3) := by decide +kernel
theorem dX12_areHops_67 : decode cX12_areHops 67 = .ok (.iconst 0, 1) := by decide +kernel
theorem dX12_areHops_68 : decode cX12_areHops 68 = .ok (.ireturn, 1) := by decide +kernel
theorem dX12_meets_0 : decode cX12_meets 0 = .ok (.iconst 0, 1) := by decide +kernel
theorem dX12_meets_1 : decode cX12_meets 1 = .ok (.istore 4, 2) := by decide +kernel
theorem dX12_meets_3 : decode cX12_meets 3 = .ok (.iconst 0, 1) := by decide +kernel
theorem dX12_meets_4 : decode cX12_meets 4 = .ok (.istore 5, 2) := by decide +kernel
theorem dX12_meets_6 : decode cX12_meets 6 = .ok (.iload 5, 2) := by decide +kernel
theorem dX12_meets_8 : decode cX12_meets 8 = .ok (.iload_n 0, 1) := by decide +kernel
theorem dX12_meets_9 : decode cX12_meets 9 = .ok (.if_icmp .ge 44, 3) := by decide +kernel
theorem dX12_meets_12 : decode cX12_meets 12 = .ok (.iload 4, 2) := by decide +kernel
theorem dX12_meets_14 : decode cX12_meets 14 = .ok (.iload_n 1, 1) := by decide +kernel
theorem dX12_meets_15 : decode cX12_meets 15 = .ok (.iload 5, 2) := by decide +kernel
theorem dX12_meets_17 : decode cX12_meets 17 = .ok (.imul, 1) := by decide +kernel
theorem dX12_meets_18 : decode cX12_meets 18 = .ok (.iload 5, 2) := by decide +kernel
theorem dX12_meets_20 : decode cX12_meets 20 = .ok (.imul, 1) := by decide +kernel
theorem dX12_meets_21 : decode cX12_meets 21 = .ok (.iload_n 0, 1) := by decide +kernel
theorem dX12_meets_22 : decode cX12_meets 22 = .ok (.irem, 1) := by decide +kernel
theorem dX12_meets_23 : decode cX12_meets 23 = .ok (.iload_n 2, 1) := by decide +kernel
theorem dX12_meets_24 : decode cX12_meets 24 = .ok (.iload 5, 2) := by decide +kernel
theorem dX12_meets_26 : decode cX12_meets 26 = .ok (.iload_n 3, 1) := by decide +kernel
theorem dX12_meets_27 : decode cX12_meets 27 = .ok (.iadd, 1) := by decide +kernel
theorem dX12_meets_28 : decode cX12_meets 28 = .ok (.imul, 1) := by decide +kernel
theorem dX12_meets_29 : decode cX12_meets 29 = .ok (.iload 5, 2) := by decide +kernel
theorem dX12_meets_31 : decode cX12_meets 31 = .ok (.iload_n 3, 1) := by decide +kernel
theorem dX12_meets_32 : decode cX12_meets 32 = .ok (.iadd, 1) := by decide +kernel
theorem dX12_meets_33 : decode cX12_meets 33 = .ok (.imul, 1) := by decide +kernel
theorem dX12_meets_34 : decode cX12_meets 34 = .ok (.iload_n 0, 1) := by decide +kernel
theorem dX12_meets_35 : decode cX12_meets 35 = .ok (.irem, 1) := by decide +kernel
theorem dX12_meets_36 : decode cX12_meets 36 = .ok (.if_icmp .ne 7, 3) := by decide +kernel
theorem dX12_meets_39 : decode cX12_meets 39 = .ok (.iconst 1, 1) := by decide +kernel
theorem dX12_meets_40 : decode cX12_meets 40 = .ok (.goto 4, 3) := by decide +kernel
theorem dX12_meets_43 : decode cX12_meets 43 = .ok (.iconst 0, 1) := by decide +kernel
theorem dX12_meets_44 : decode cX12_meets 44 = .ok (.iadd, 1) := by decide +kernel
theorem dX12_meets_45 : decode cX12_meets 45 = .ok (.istore 4, 2) := by decide +kernel
theorem dX12_meets_47 : decode cX12_meets 47 = .ok (.iinc 5 1, 3) := by decide +kernel
theorem dX12_meets_50 : decode cX12_meets 50 = .ok (.goto (-44), 3) := by decide +kernel
theorem dX12_meets_53 : decode cX12_meets 53 = .ok (.iload 4, 2) := by decide +kernel
theorem dX12_meets_55 : decode cX12_meets 55 = .ok (.ireturn, 1) := by decide +kernel
theorem dX12_hops_0 : decode cX12_hops 0 = .ok (.iload_n 1, 1) := by decide +kernel
theorem dX12_hops_1 : decode cX12_hops 1 = .ok (.iload_n 2, 1) := by decide +kernel
theorem dX12_hops_2 : decode cX12_hops 2 = .ok (.iload_n 3, 1) := by decide +kernel
theorem dX12_hops_3 : decode cX12_hops 3 = .ok (.invokestatic 313, 3) := by decide +kernel
theorem dX12_hops_6 : decode cX12_hops 6 = .ok (.ifCond .eq 28, 3) := by decide +kernel
theorem dX12_hops_9 : decode cX12_hops 9 = .ok (.iload 4, 2) := by decide +kernel
theorem dX12_hops_11 : decode cX12_hops 11 = .ok (.i2l, 1) := by decide +kernel
theorem dX12_hops_12 : decode cX12_hops 12 = .ok (.lconst 0, 1) := by decide +kernel
theorem dX12_hops_13 : decode cX12_hops 13 = .ok (.iload_n 1, 1) := by decide +kernel
theorem dX12_hops_14 : decode cX12_hops 14 = .ok (.iconst 1, 1) := by decide +kernel
theorem dX12_hops_15 : decode cX12_hops 15 = .ok (.isub, 1) := by decide +kernel
theorem dX12_hops_16 : decode cX12_hops 16 = .ok (.i2l, 1) := by decide +kernel
theorem dX12_hops_17 : decode cX12_hops 17 = .ok (.invokestatic 152, 3) := by decide +kernel
theorem dX12_hops_20 : decode cX12_hops 20 = .ok (.ifCond .eq 14, 3) := by decide +kernel
theorem dX12_hops_23 : decode cX12_hops 23 = .ok (.iload_n 1, 1) := by decide +kernel
theorem dX12_hops_24 : decode cX12_hops 24 = .ok (.iload_n 2, 1) := by decide +kernel
theorem dX12_hops_25 : decode cX12_hops 25 = .ok (.iload_n 3, 1) := by decide +kernel
theorem dX12_hops_26 : decode cX12_hops 26 = .ok (.iload 4, 2) := by decide +kernel
theorem dX12_hops_28 : decode cX12_hops 28 = .ok (.invokestatic 316, 3) := by decide +kernel
theorem dX12_hops_31 : decode cX12_hops 31 = .ok (.goto 5, 3) := by decide +kernel
theorem dX12_hops_34 : decode cX12_hops 34 = .ok (.bipush (-2), 2) := by decide +kernel
theorem dX12_hops_36 : decode cX12_hops 36 = .ok (.ireturn, 1) := by decide +kernel
theorem dX12_most_0 : decode cX12_most 0 = .ok (.iload_n 1, 1) := by decide +kernel
theorem dX12_most_1 : decode cX12_most 1 = .ok (.iload_n 2, 1) := by decide +kernel
theorem dX12_most_2 : decode cX12_most 2 = .ok (.iload_n 3, 1) := by decide +kernel
theorem dX12_most_3 : decode cX12_most 3 = .ok (.invokestatic 313, 3) := by decide +kernel
theorem dX12_most_6 : decode cX12_most 6 = .ok (.ifCond .ne 6, 3) := by decide +kernel
theorem dX12_most_9 : decode cX12_most 9 = .ok (.bipush (-2), 2) := by decide +kernel
theorem dX12_most_11 : decode cX12_most 11 = .ok (.ireturn, 1) := by decide +kernel
theorem dX12_most_12 : decode cX12_most 12 = .ok (.iconst 0, 1) := by decide +kernel
theorem dX12_most_13 : decode cX12_most 13 = .ok (.istore 4, 2) := by decide +kernel
theorem dX12_most_15 : decode cX12_most 15 = .ok (.iload_n 2, 1) := by decide +kernel
theorem dX12_most_16 : decode cX12_most 16 = .ok (.iload_n 3, 1) := by decide +kernel
theorem dX12_most_17 : decode cX12_most 17 = .ok (.if_icmp .ne 7, 3) := by decide +kernel
theorem dX12_most_20 : decode cX12_most 20 = .ok (.iconst 1, 1) := by decide +kernel
theorem dX12_most_21 : decode cX12_most 21 = .ok (.goto 4, 3) := by decide +kernel
theorem dX12_most_24 : decode cX12_most 24 = .ok (.iconst 0, 1) := by decide +kernel
theorem dX12_most_25 : decode cX12_most 25 = .ok (.istore 5, 2) := by decide +kernel
theorem dX12_most_27 : decode cX12_most 27 = .ok (.iload 5, 2) := by decide +kernel
theorem dX12_most_29 : decode cX12_most 29 = .ok (.iload_n 1, 1) := by decide +kernel
theorem dX12_most_30 : decode cX12_most 30 = .ok (.if_icmp .ge 35, 3) := by decide +kernel
theorem dX12_most_33 : decode cX12_most 33 = .ok (.iload_n 1, 1) := by decide +kernel
theorem dX12_most_34 : decode cX12_most 34 = .ok (.iload_n 2, 1) := by decide +kernel
theorem dX12_most_35 : decode cX12_most 35 = .ok (.iload_n 3, 1) := by decide +kernel
theorem dX12_most_36 : decode cX12_most 36 = .ok (.iload 5, 2) := by decide +kernel
theorem dX12_most_38 : decode cX12_most 38 = .ok (.invokestatic 316, 3) := by decide +kernel
theorem dX12_most_41 : decode cX12_most 41 = .ok (.istore 6, 2) := by decide +kernel
theorem dX12_most_43 : decode cX12_most 43 = .ok (.iload 6, 2) := by decide +kernel
theorem dX12_most_45 : decode cX12_most 45 = .ok (.iload 4, 2) := by decide +kernel
theorem dX12_most_47 : decode cX12_most 47 = .ok (.if_icmp .le 8, 3) := by decide +kernel
theorem dX12_most_50 : decode cX12_most 50 = .ok (.iload 6, 2) := by decide +kernel
theorem dX12_most_52 : decode cX12_most 52 = .ok (.goto 5, 3) := by decide +kernel
theorem dX12_most_55 : decode cX12_most 55 = .ok (.iload 4, 2) := by decide +kernel
theorem dX12_most_57 : decode cX12_most 57 = .ok (.istore 4, 2) := by decide +kernel
theorem dX12_most_59 : decode cX12_most 59 = .ok (.iinc 5 1, 3) := by decide +kernel
theorem dX12_most_62 : decode cX12_most 62 = .ok (.goto (-35), 3) := by decide +kernel
theorem dX12_most_65 : decode cX12_most 65 = .ok (.iload 4, 2) := by decide +kernel
theorem dX12_most_67 : decode cX12_most 67 = .ok (.ireturn, 1) := by decide +kernel
theorem dX12_listeners_0 : decode cX12_listeners 0 = .ok (.iconst 0, 1) := by decide +kernel
theorem dX12_listeners_1 : decode cX12_listeners 1 = .ok (.istore_n 2, 1) := by decide +kernel
theorem dX12_listeners_2 : decode cX12_listeners 2 = .ok (.iconst 0, 1) := by decide +kernel
theorem dX12_listeners_3 : decode cX12_listeners 3 = .ok (.istore_n 3, 1) := by decide +kernel
theorem dX12_listeners_4 : decode cX12_listeners 4 = .ok (.iload_n 3, 1) := by decide +kernel
theorem dX12_listeners_5 : decode cX12_listeners 5 = .ok (.aload_n 0, 1) := by decide +kernel
theorem dX12_listeners_6 : decode cX12_listeners 6 = .ok (.getfield 176, 3) := by decide +kernel
theorem dX12_listeners_9 : decode cX12_listeners 9 = .ok (.if_icmp .ge 48, 3) := by decide +kernel
theorem dX12_listeners_12 : decode cX12_listeners 12 = .ok (.iload_n 2, 1) := by decide +kernel
theorem dX12_listeners_13 : decode cX12_listeners 13 = .ok (.aload_n 0, 1) := by decide +kernel
theorem dX12_listeners_14 : decode cX12_listeners 14 = .ok (.getfield 33, 3) := by decide +kernel
theorem dX12_listeners_17 : decode cX12_listeners 17 = .ok (.iload_n 3, 1) := by decide +kernel
theorem dX12_listeners_18 : decode cX12_listeners 18 = .ok (.iaload, 1) := by decide +kernel
theorem dX12_listeners_19 : decode cX12_listeners 19 = .ok (.iconst 3, 1) := by decide +kernel
theorem dX12_listeners_20 : decode cX12_listeners 20 = .ok (.if_icmp .ne 28, 3) := by decide +kernel
theorem dX12_listeners_23 : decode cX12_listeners 23 = .ok (.aload_n 0, 1) := by decide +kernel
theorem dX12_listeners_24 : decode cX12_listeners 24 = .ok (.getfield 63, 3) := by decide +kernel
theorem dX12_listeners_27 : decode cX12_listeners 27 = .ok (.iload_n 3, 1) := by decide +kernel
theorem dX12_listeners_28 : decode cX12_listeners 28 = .ok (.baload, 1) := by decide +kernel
theorem dX12_listeners_29 : decode cX12_listeners 29 = .ok (.ifCond .eq 19, 3) := by decide +kernel
theorem dX12_listeners_32 : decode cX12_listeners 32 = .ok (.aload_n 0, 1) := by decide +kernel
theorem dX12_listeners_33 : decode cX12_listeners 33 = .ok (.getfield 54, 3) := by decide +kernel
theorem dX12_listeners_36 : decode cX12_listeners 36 = .ok (.iload_n 3, 1) := by decide +kernel
theorem dX12_listeners_37 : decode cX12_listeners 37 = .ok (.iaload, 1) := by decide +kernel
theorem dX12_listeners_38 : decode cX12_listeners 38 = .ok (.iload_n 1, 1) := by decide +kernel
theorem dX12_listeners_39 : decode cX12_listeners 39 = .ok (.if_icmp .ne 9, 3) := by decide +kernel
theorem dX12_listeners_42 : decode cX12_listeners 42 = .ok (.iconst 1, 1) := by decide +kernel
theorem dX12_listeners_43 : decode cX12_listeners 43 = .ok (.iload_n 3, 1) := by decide +kernel
theorem dX12_listeners_44 : decode cX12_listeners 44 = .ok (.ishl, 1) := by decide +kernel
theorem dX12_listeners_45 : decode cX12_listeners 45 = .ok (.goto 4, 3) := by decide +kernel
theorem dX12_listeners_48 : decode cX12_listeners 48 = .ok (.iconst 0, 1) := by decide +kernel
theorem dX12_listeners_49 : decode cX12_listeners 49 = .ok (.ior, 1) := by decide +kernel
theorem dX12_listeners_50 : decode cX12_listeners 50 = .ok (.istore_n 2, 1) := by decide +kernel
theorem dX12_listeners_51 : decode cX12_listeners 51 = .ok (.iinc 3 1, 3) := by decide +kernel
theorem dX12_listeners_54 : decode cX12_listeners 54 = .ok (.goto (-50), 3) := by decide +kernel
theorem dX12_listeners_57 : decode cX12_listeners 57 = .ok (.iload_n 2, 1) := by decide +kernel
theorem dX12_listeners_58 : decode cX12_listeners 58 = .ok (.ireturn, 1) := by decide +kernel
theorem dX12_hears_0 : decode cX12_hears 0 = .ok (.lconst 0, 1) := by decide +kernel
theorem dX12_hears_1 : decode cX12_hears 1 = .ok (.lstore_n 3, 1) := by decide +kernel
theorem dX12_hears_2 : decode cX12_hears 2 = .ok (.iconst 0, 1) := by decide +kernel
theorem dX12_hears_3 : decode cX12_hears 3 = .ok (.istore 5, 2) := by decide +kernel
theorem dX12_hears_5 : decode cX12_hears 5 = .ok (.iload 5, 2) := by decide +kernel
theorem dX12_hears_7 : decode cX12_hears 7 = .ok (.aload_n 0, 1) := by decide +kernel
theorem dX12_hears_8 : decode cX12_hears 8 = .ok (.getfield 176, 3) := by decide +kernel
theorem dX12_hears_11 : decode cX12_hears 11 = .ok (.if_icmp .ge 46, 3) := by decide +kernel
theorem dX12_hears_14 : decode cX12_hears 14 = .ok (.lload_n 3, 1) := by decide +kernel
theorem dX12_hears_15 : decode cX12_hears 15 = .ok (.iload 5, 2) := by decide +kernel
theorem dX12_hears_17 : decode cX12_hears 17 = .ok (.iload_n 1, 1) := by decide +kernel
theorem dX12_hears_18 : decode cX12_hears 18 = .ok (.if_icmp .eq 30, 3) := by decide +kernel
theorem dX12_hears_21 : decode cX12_hears 21 = .ok (.iload_n 2, 1) := by decide +kernel
theorem dX12_hears_22 : decode cX12_hears 22 = .ok (.iload 5, 2) := by decide +kernel
theorem dX12_hears_24 : decode cX12_hears 24 = .ok (.ishr, 1) := by decide +kernel
theorem dX12_hears_25 : decode cX12_hears 25 = .ok (.iconst 1, 1) := by decide +kernel
theorem dX12_hears_26 : decode cX12_hears 26 = .ok (.iand, 1) := by decide +kernel
theorem dX12_hears_27 : decode cX12_hears 27 = .ok (.iconst 1, 1) := by decide +kernel
theorem dX12_hears_28 : decode cX12_hears 28 = .ok (.if_icmp .ne 20, 3) := by decide +kernel
theorem dX12_hears_31 : decode cX12_hears 31 = .ok (.aload_n 0, 1) := by decide +kernel
theorem dX12_hears_32 : decode cX12_hears 32 = .ok (.iload 5, 2) := by decide +kernel
theorem dX12_hears_34 : decode cX12_hears 34 = .ok (.aload_n 0, 1) := by decide +kernel
theorem dX12_hears_35 : decode cX12_hears 35 = .ok (.getfield 36, 3) := by decide +kernel
theorem dX12_hears_38 : decode cX12_hears 38 = .ok (.iload_n 1, 1) := by decide +kernel
theorem dX12_hears_39 : decode cX12_hears 39 = .ok (.iaload, 1) := by decide +kernel
theorem dX12_hears_40 : decode cX12_hears 40 = .ok (.iconst 0, 1) := by decide +kernel
theorem dX12_hears_41 : decode cX12_hears 41 = .ok (.invokevirtual 251, 3) := by decide +kernel
theorem dX12_hears_44 : decode cX12_hears 44 = .ok (.i2l, 1) := by decide +kernel
theorem dX12_hears_45 : decode cX12_hears 45 = .ok (.goto 4, 3) := by decide +kernel
theorem dX12_hears_48 : decode cX12_hears 48 = .ok (.lconst 0, 1) := by decide +kernel
theorem dX12_hears_49 : decode cX12_hears 49 = .ok (.ladd, 1) := by decide +kernel
theorem dX12_hears_50 : decode cX12_hears 50 = .ok (.lstore_n 3, 1) := by decide +kernel
theorem dX12_hears_51 : decode cX12_hears 51 = .ok (.iinc 5 1, 3) := by decide +kernel
theorem dX12_hears_54 : decode cX12_hears 54 = .ok (.goto (-49), 3) := by decide +kernel
theorem dX12_hears_57 : decode cX12_hears 57 = .ok (.lload_n 3, 1) := by decide +kernel
theorem dX12_hears_58 : decode cX12_hears 58 = .ok (.lreturn, 1) := by decide +kernel
theorem dX12_listen_0 : decode cX12_listen 0 = .ok (.iload_n 1, 1) := by decide +kernel
theorem dX12_listen_1 : decode cX12_listen 1 = .ok (.i2l, 1) := by decide +kernel
theorem dX12_listen_2 : decode cX12_listen 2 = .ok (.lconst 0, 1) := by decide +kernel
theorem dX12_listen_3 : decode cX12_listen 3 = .ok (.ldc2_w 247, 3) := by decide +kernel
theorem dX12_listen_6 : decode cX12_listen 6 = .ok (.invokestatic 152, 3) := by decide +kernel
theorem dX12_listen_9 : decode cX12_listen 9 = .ok (.ifCond .eq 15, 3) := by decide +kernel
theorem dX12_listen_12 : decode cX12_listen 12 = .ok (.iload_n 3, 1) := by decide +kernel
theorem dX12_listen_13 : decode cX12_listen 13 = .ok (.i2l, 1) := by decide +kernel
theorem dX12_listen_14 : decode cX12_listen 14 = .ok (.lconst 1, 1) := by decide +kernel
theorem dX12_listen_15 : decode cX12_listen 15 = .ok (.ldc2_w 202, 3) := by decide +kernel
theorem dX12_listen_18 : decode cX12_listen 18 = .ok (.invokestatic 152, 3) := by decide +kernel
theorem dX12_listen_21 : decode cX12_listen 21 = .ok (.ifCond .ne 6, 3) := by decide +kernel
theorem dX12_listen_24 : decode cX12_listen 24 = .ok (.bipush (-2), 2) := by decide +kernel
theorem dX12_listen_26 : decode cX12_listen 26 = .ok (.ireturn, 1) := by decide +kernel
theorem dX12_listen_27 : decode cX12_listen 27 = .ok (.aload_n 0, 1) := by decide +kernel
theorem dX12_listen_28 : decode cX12_listen 28 = .ok (.iload_n 1, 1) := by decide +kernel
theorem dX12_listen_29 : decode cX12_listen 29 = .ok (.invokevirtual 319, 3) := by decide +kernel
theorem dX12_listen_32 : decode cX12_listen 32 = .ok (.istore 4, 2) := by decide +kernel
theorem dX12_listen_34 : decode cX12_listen 34 = .ok (.iload 4, 2) := by decide +kernel
theorem dX12_listen_36 : decode cX12_listen 36 = .ok (.ifCond .ne 6, 3) := by decide +kernel
theorem dX12_listen_39 : decode cX12_listen 39 = .ok (.bipush (-3), 2) := by decide +kernel
theorem dX12_listen_41 : decode cX12_listen 41 = .ok (.ireturn, 1) := by decide +kernel
theorem dX12_listen_42 : decode cX12_listen 42 = .ok (.iconst 0, 1) := by decide +kernel
theorem dX12_listen_43 : decode cX12_listen 43 = .ok (.istore 5, 2) := by decide +kernel
theorem dX12_listen_45 : decode cX12_listen 45 = .ok (.iload 5, 2) := by decide +kernel
theorem dX12_listen_47 : decode cX12_listen 47 = .ok (.bipush 20, 2) := by decide +kernel
theorem dX12_listen_49 : decode cX12_listen 49 = .ok (.if_icmp .ge 41, 3) := by decide +kernel
theorem dX12_listen_52 : decode cX12_listen 52 = .ok (.aload_n 0, 1) := by decide +kernel
theorem dX12_listen_53 : decode cX12_listen 53 = .ok (.getfield 79, 3) := by decide +kernel
theorem dX12_listen_56 : decode cX12_listen 56 = .ok (.iload 5, 2) := by decide +kernel
theorem dX12_listen_58 : decode cX12_listen 58 = .ok (.iconst 0, 1) := by decide +kernel
theorem dX12_listen_59 : decode cX12_listen 59 = .ok (.iastore, 1) := by decide +kernel
theorem dX12_listen_60 : decode cX12_listen 60 = .ok (.aload_n 0, 1) := by decide +kernel
theorem dX12_listen_61 : decode cX12_listen 61 = .ok (.getfield 82, 3) := by decide +kernel
theorem dX12_listen_64 : decode cX12_listen 64 = .ok (.iload 5, 2) := by decide +kernel
theorem dX12_listen_66 : decode cX12_listen 66 = .ok (.iconst 0, 1) := by decide +kernel
theorem dX12_listen_67 : decode cX12_listen 67 = .ok (.iastore, 1) := by decide +kernel
theorem dX12_listen_68 : decode cX12_listen 68 = .ok (.aload_n 0, 1) := by decide +kernel
theorem dX12_listen_69 : decode cX12_listen 69 = .ok (.getfield 85, 3) := by decide +kernel
theorem dX12_listen_72 : decode cX12_listen 72 = .ok (.iload 5, 2) := by decide +kernel
theorem dX12_listen_74 : decode cX12_listen 74 = .ok (.iconst 0, 1) := by decide +kernel
theorem dX12_listen_75 : decode cX12_listen 75 = .ok (.iastore, 1) := by decide +kernel
theorem dX12_listen_76 : decode cX12_listen 76 = .ok (.aload_n 0, 1) := by decide +kernel
theorem dX12_listen_77 : decode cX12_listen 77 = .ok (.getfield 88, 3) := by decide +kernel
theorem dX12_listen_80 : decode cX12_listen 80 = .ok (.iload 5, 2) := by decide +kernel
theorem dX12_listen_82 : decode cX12_listen 82 = .ok (.iconst 0, 1) := by decide +kernel
theorem dX12_listen_83 : decode cX12_listen 83 = .ok (.iastore, 1) := by decide +kernel
theorem dX12_listen_84 : decode cX12_listen 84 = .ok (.iinc 5 1, 3) := by decide +kernel
theorem dX12_listen_87 : decode cX12_listen 87 = .ok (.goto (-42), 3) := by decide +kernel
theorem dX12_listen_90 : decode cX12_listen 90 = .ok (.iload_n 2, 1) := by decide +kernel
theorem dX12_listen_91 : decode cX12_listen 91 = .ok (.istore 5, 2) := by decide +kernel
theorem dX12_listen_93 : decode cX12_listen 93 = .ok (.iconst 0, 1) := by decide +kernel
theorem dX12_listen_94 : decode cX12_listen 94 = .ok (.istore 6, 2) := by decide +kernel
theorem dX12_listen_96 : decode cX12_listen 96 = .ok (.iconst 0, 1) := by decide +kernel
theorem dX12_listen_97 : decode cX12_listen 97 = .ok (.istore 7, 2) := by decide +kernel
theorem dX12_listen_99 : decode cX12_listen 99 = .ok (.iconst 0, 1) := by decide +kernel
theorem dX12_listen_100 : decode cX12_listen 100 = .ok (.istore 8, 2) := by decide +kernel
theorem dX12_listen_102 : decode cX12_listen 102 = .ok (.iload 8, 2) := by decide +kernel
theorem dX12_listen_104 : decode cX12_listen 104 = .ok (.iload_n 3, 1) := by decide +kernel
theorem dX12_listen_105 : decode cX12_listen 105 = .ok (.if_icmp .ge 295, 3) := by decide +kernel
theorem dX12_listen_108 : decode cX12_listen 108 = .ok (.iconst 0, 1) := by decide +kernel
theorem dX12_listen_109 : decode cX12_listen 109 = .ok (.istore 9, 2) := by decide +kernel
theorem dX12_listen_111 : decode cX12_listen 111 = .ok (.iconst 0, 1) := by decide +kernel
theorem dX12_listen_112 : decode cX12_listen 112 = .ok (.istore 10, 2) := by decide +kernel
theorem dX12_listen_114 : decode cX12_listen 114 = .ok (.iload 10, 2) := by decide +kernel
theorem dX12_listen_116 : decode cX12_listen 116 = .ok (.aload_n 0, 1) := by decide +kernel
theorem dX12_listen_117 : decode cX12_listen 117 = .ok (.getfield 176, 3) := by decide +kernel
theorem dX12_listen_120 : decode cX12_listen 120 = .ok (.if_icmp .ge 85, 3) := by decide +kernel
theorem dX12_listen_123 : decode cX12_listen 123 = .ok (.iload 4, 2) := by decide +kernel
theorem dX12_listen_125 : decode cX12_listen 125 = .ok (.iload 10, 2) := by decide +kernel
theorem dX12_listen_127 : decode cX12_listen 127 = .ok (.ishr, 1) := by decide +kernel
theorem dX12_listen_128 : decode cX12_listen 128 = .ok (.iconst 1, 1) := by decide +kernel
theorem dX12_listen_129 : decode cX12_listen 129 = .ok (.iand, 1) := by decide +kernel
theorem dX12_listen_130 : decode cX12_listen 130 = .ok (.iconst 1, 1) := by decide +kernel
theorem dX12_listen_131 : decode cX12_listen 131 = .ok (.if_icmp .ne 68, 3) := by decide +kernel
theorem dX12_listen_134 : decode cX12_listen 134 = .ok (.ldc_w 322, 3) := by decide +kernel
theorem dX12_listen_137 : decode cX12_listen 137 = .ok (.iload 5, 2) := by decide +kernel
theorem dX12_listen_139 : decode cX12_listen 139 = .ok (.imul, 1) := by decide +kernel
theorem dX12_listen_140 : decode cX12_listen 140 = .ok (.sipush 12345, 3) := by decide +kernel
theorem dX12_listen_143 : decode cX12_listen 143 = .ok (.iadd, 1) := by decide +kernel
theorem dX12_listen_144 : decode cX12_listen 144 = .ok (.istore 5, 2) := by decide +kernel
theorem dX12_listen_146 : decode cX12_listen 146 = .ok (.iload 5, 2) := by decide +kernel
theorem dX12_listen_148 : decode cX12_listen 148 = .ok (.bipush 16, 2) := by decide +kernel
theorem dX12_listen_150 : decode cX12_listen 150 = .ok (.iushr, 1) := by decide +kernel
theorem dX12_listen_151 : decode cX12_listen 151 = .ok (.bipush 100, 2) := by decide +kernel
theorem dX12_listen_153 : decode cX12_listen 153 = .ok (.irem, 1) := by decide +kernel
theorem dX12_listen_154 : decode cX12_listen 154 = .ok (.istore 11, 2) := by decide +kernel
theorem dX12_listen_156 : decode cX12_listen 156 = .ok (.aload_n 0, 1) := by decide +kernel
theorem dX12_listen_157 : decode cX12_listen 157 = .ok (.iload 10, 2) := by decide +kernel
theorem dX12_listen_159 : decode cX12_listen 159 = .ok (.iload 6, 2) := by decide +kernel
theorem dX12_listen_161 : decode cX12_listen 161 = .ok (.invokevirtual 323, 3) := by decide +kernel
theorem dX12_listen_164 : decode cX12_listen 164 = .ok (.aload_n 0, 1) := by decide +kernel
theorem dX12_listen_165 : decode cX12_listen 165 = .ok (.getfield 30, 3) := by decide +kernel
theorem dX12_listen_168 : decode cX12_listen 168 = .ok (.iconst 3, 1) := by decide +kernel
theorem dX12_listen_169 : decode cX12_listen 169 = .ok (.iaload, 1) := by decide +kernel
theorem dX12_listen_170 : decode cX12_listen 170 = .ok (.i2l, 1) := by decide +kernel
theorem dX12_listen_171 : decode cX12_listen 171 = .ok (.lcmp, 1) := by decide +kernel
theorem dX12_listen_172 : decode cX12_listen 172 = .ok (.ifCond .ge 27, 3) := by decide +kernel
theorem dX12_listen_175 : decode cX12_listen 175 = .ok (.iload 11, 2) := by decide +kernel
theorem dX12_listen_177 : decode cX12_listen 177 = .ok (.aload_n 0, 1) := by decide +kernel
theorem dX12_listen_178 : decode cX12_listen 178 = .ok (.getfield 51, 3) := by decide +kernel
theorem dX12_listen_181 : decode cX12_listen 181 = .ok (.iload 10, 2) := by decide +kernel
theorem dX12_listen_183 : decode cX12_listen 183 = .ok (.iaload, 1) := by decide +kernel
theorem dX12_listen_184 : decode cX12_listen 184 = .ok (.bipush 100, 2) := by decide +kernel
theorem dX12_listen_186 : decode cX12_listen 186 = .ok (.irem, 1) := by decide +kernel
theorem dX12_listen_187 : decode cX12_listen 187 = .ok (.if_icmp .ge 12, 3) := by decide +kernel
theorem dX12_listen_190 : decode cX12_listen 190 = .ok (.iload 9, 2) := by decide +kernel
theorem dX12_listen_192 : decode cX12_listen 192 = .ok (.iconst 1, 1) := by decide +kernel
theorem dX12_listen_193 : decode cX12_listen 193 = .ok (.iload 10, 2) := by decide +kernel
theorem dX12_listen_195 : decode cX12_listen 195 = .ok (.ishl, 1) := by decide +kernel
theorem dX12_listen_196 : decode cX12_listen 196 = .ok (.ior, 1) := by decide +kernel
theorem dX12_listen_197 : decode cX12_listen 197 = .ok (.istore 9, 2) := by decide +kernel
theorem dX12_listen_199 : decode cX12_listen 199 = .ok (.iinc 10 1, 3) := by decide +kernel
theorem dX12_listen_202 : decode cX12_listen 202 = .ok (.goto (-88), 3) := by decide +kernel
theorem dX12_listen_205 : decode cX12_listen 205 = .ok (.iconst 0, 1) := by decide +kernel
theorem dX12_listen_206 : decode cX12_listen 206 = .ok (.istore 10, 2) := by decide +kernel
theorem dX12_listen_208 : decode cX12_listen 208 = .ok (.iload 10, 2) := by decide +kernel
theorem dX12_listen_210 : decode cX12_listen 210 = .ok (.aload_n 0, 1) := by decide +kernel
theorem dX12_listen_211 : decode cX12_listen 211 = .ok (.getfield 176, 3) := by decide +kernel
theorem dX12_listen_214 : decode cX12_listen 214 = .ok (.if_icmp .ge 176, 3) := by decide +kernel
theorem dX12_listen_217 : decode cX12_listen 217 = .ok (.iload 4, 2) := by decide +kernel
theorem dX12_listen_219 : decode cX12_listen 219 = .ok (.iload 10, 2) := by decide +kernel
theorem dX12_listen_221 : decode cX12_listen 221 = .ok (.ishr, 1) := by decide +kernel
theorem dX12_listen_222 : decode cX12_listen 222 = .ok (.iconst 1, 1) := by decide +kernel
theorem dX12_listen_223 : decode cX12_listen 223 = .ok (.iand, 1) := by decide +kernel
theorem dX12_listen_224 : decode cX12_listen 224 = .ok (.iconst 1, 1) := by decide +kernel
theorem dX12_listen_225 : decode cX12_listen 225 = .ok (.if_icmp .ne 159, 3) := by decide +kernel
theorem dX12_listen_228 : decode cX12_listen 228 = .ok (.iload 9, 2) := by decide +kernel
theorem dX12_listen_230 : decode cX12_listen 230 = .ok (.iload 10, 2) := by decide +kernel
theorem dX12_listen_232 : decode cX12_listen 232 = .ok (.ishr, 1) := by decide +kernel
theorem dX12_listen_233 : decode cX12_listen 233 = .ok (.iconst 1, 1) := by decide +kernel
theorem dX12_listen_234 : decode cX12_listen 234 = .ok (.iand, 1) := by decide +kernel
theorem dX12_listen_235 : decode cX12_listen 235 = .ok (.iconst 1, 1) := by decide +kernel
theorem dX12_listen_236 : decode cX12_listen 236 = .ok (.if_icmp .ne 7, 3) := by decide +kernel
theorem dX12_listen_239 : decode cX12_listen 239 = .ok (.iconst 1, 1) := by decide +kernel
theorem dX12_listen_240 : decode cX12_listen 240 = .ok (.goto 4, 3) := by decide +kernel
theorem dX12_listen_243 : decode cX12_listen 243 = .ok (.iconst 0, 1) := by decide +kernel
theorem dX12_listen_244 : decode cX12_listen 244 = .ok (.istore 11, 2) := by decide +kernel
theorem dX12_listen_246 : decode cX12_listen 246 = .ok (.iload 7, 2) := by decide +kernel
theorem dX12_listen_248 : decode cX12_listen 248 = .ok (.iload 11, 2) := by decide +kernel
theorem dX12_listen_250 : decode cX12_listen 250 = .ok (.ifCond .eq 7, 3) := by decide +kernel
theorem dX12_listen_253 : decode cX12_listen 253 = .ok (.iconst 1, 1) := by decide +kernel
theorem dX12_listen_254 : decode cX12_listen 254 = .ok (.goto 4, 3) := by decide +kernel
theorem dX12_listen_257 : decode cX12_listen 257 = .ok (.iconst 0, 1) := by decide +kernel
theorem dX12_listen_258 : decode cX12_listen 258 = .ok (.iadd, 1) := by decide +kernel
theorem dX12_listen_259 : decode cX12_listen 259 = .ok (.istore 7, 2) := by decide +kernel
theorem dX12_listen_261 : decode cX12_listen 261 = .ok (.aload_n 0, 1) := by decide +kernel
theorem dX12_listen_262 : decode cX12_listen 262 = .ok (.getfield 79, 3) := by decide +kernel
theorem dX12_listen_265 : decode cX12_listen 265 = .ok (.iload 10, 2) := by decide +kernel
theorem dX12_listen_267 : decode cX12_listen 267 = .ok (.dup2, 1) := by decide +kernel
theorem dX12_listen_268 : decode cX12_listen 268 = .ok (.iaload, 1) := by decide +kernel
theorem dX12_listen_269 : decode cX12_listen 269 = .ok (.iload 11, 2) := by decide +kernel
theorem dX12_listen_271 : decode cX12_listen 271 = .ok (.ifCond .eq 7, 3) := by decide +kernel
theorem dX12_listen_274 : decode cX12_listen 274 = .ok (.iconst 1, 1) := by decide +kernel
theorem dX12_listen_275 : decode cX12_listen 275 = .ok (.goto 4, 3) := by decide +kernel
theorem dX12_listen_278 : decode cX12_listen 278 = .ok (.iconst 0, 1) := by decide +kernel
theorem dX12_listen_279 : decode cX12_listen 279 = .ok (.iadd, 1) := by decide +kernel
theorem dX12_listen_280 : decode cX12_listen 280 = .ok (.iastore, 1) := by decide +kernel
theorem dX12_listen_281 : decode cX12_listen 281 = .ok (.aload_n 0, 1) := by decide +kernel
theorem dX12_listen_282 : decode cX12_listen 282 = .ok (.getfield 82, 3) := by decide +kernel
theorem dX12_listen_285 : decode cX12_listen 285 = .ok (.iload 10, 2) := by decide +kernel
theorem dX12_listen_287 : decode cX12_listen 287 = .ok (.dup2, 1) := by decide +kernel
theorem dX12_listen_288 : decode cX12_listen 288 = .ok (.iaload, 1) := by decide +kernel
theorem dX12_listen_289 : decode cX12_listen 289 = .ok (.iload 11, 2) := by decide +kernel
theorem dX12_listen_291 : decode cX12_listen 291 = .ok (.ifCond .eq 24, 3) := by decide +kernel
theorem dX12_listen_294 : decode cX12_listen 294 = .ok (.aload_n 0, 1) := by decide +kernel
theorem dX12_listen_295 : decode cX12_listen 295 = .ok (.iload 10, 2) := by decide +kernel
theorem dX12_listen_297 : decode cX12_listen 297 = .ok (.aload_n 0, 1) := by decide +kernel
theorem dX12_listen_298 : decode cX12_listen 298 = .ok (.iload 10, 2) := by decide +kernel
theorem dX12_listen_300 : decode cX12_listen 300 = .ok (.iload 9, 2) := by decide +kernel
theorem dX12_listen_302 : decode cX12_listen 302 = .ok (.invokevirtual 262, 3) := by decide +kernel
theorem dX12_listen_305 : decode cX12_listen 305 = .ok (.invokevirtual 266, 3) := by decide +kernel
theorem dX12_listen_308 : decode cX12_listen 308 = .ok (.ifCond .eq 7, 3) := by decide +kernel
theorem dX12_listen_311 : decode cX12_listen 311 = .ok (.iconst 1, 1) := by decide +kernel
theorem dX12_listen_312 : decode cX12_listen 312 = .ok (.goto 4, 3) := by decide +kernel
theorem dX12_listen_315 : decode cX12_listen 315 = .ok (.iconst 0, 1) := by decide +kernel
theorem dX12_listen_316 : decode cX12_listen 316 = .ok (.iadd, 1) := by decide +kernel
theorem dX12_listen_317 : decode cX12_listen 317 = .ok (.iastore, 1) := by decide +kernel
theorem dX12_listen_318 : decode cX12_listen 318 = .ok (.aload_n 0, 1) := by decide +kernel
theorem dX12_listen_319 : decode cX12_listen 319 = .ok (.getfield 88, 3) := by decide +kernel
theorem dX12_listen_322 : decode cX12_listen 322 = .ok (.iload 10, 2) := by decide +kernel
theorem dX12_listen_324 : decode cX12_listen 324 = .ok (.iload 11, 2) := by decide +kernel
theorem dX12_listen_326 : decode cX12_listen 326 = .ok (.ifCond .eq 7, 3) := by decide +kernel
theorem dX12_listen_329 : decode cX12_listen 329 = .ok (.iconst 0, 1) := by decide +kernel
theorem dX12_listen_330 : decode cX12_listen 330 = .ok (.goto 12, 3) := by decide +kernel
theorem dX12_listen_333 : decode cX12_listen 333 = .ok (.aload_n 0, 1) := by decide +kernel
theorem dX12_listen_334 : decode cX12_listen 334 = .ok (.getfield 88, 3) := by decide +kernel
theorem dX12_listen_337 : decode cX12_listen 337 = .ok (.iload 10, 2) := by decide +kernel
theorem dX12_listen_339 : decode cX12_listen 339 = .ok (.iaload, 1) := by decide +kernel
theorem dX12_listen_340 : decode cX12_listen 340 = .ok (.iconst 1, 1) := by decide +kernel
theorem dX12_listen_341 : decode cX12_listen 341 = .ok (.iadd, 1) := by decide +kernel
theorem dX12_listen_342 : decode cX12_listen 342 = .ok (.iastore, 1) := by decide +kernel
theorem dX12_listen_343 : decode cX12_listen 343 = .ok (.aload_n 0, 1) := by decide +kernel
theorem dX12_listen_344 : decode cX12_listen 344 = .ok (.getfield 85, 3) := by decide +kernel
theorem dX12_listen_347 : decode cX12_listen 347 = .ok (.iload 10, 2) := by decide +kernel
theorem dX12_listen_349 : decode cX12_listen 349 = .ok (.aload_n 0, 1) := by decide +kernel
theorem dX12_listen_350 : decode cX12_listen 350 = .ok (.getfield 88, 3) := by decide +kernel
theorem dX12_listen_353 : decode cX12_listen 353 = .ok (.iload 10, 2) := by decide +kernel
theorem dX12_listen_355 : decode cX12_listen 355 = .ok (.iaload, 1) := by decide +kernel
theorem dX12_listen_356 : decode cX12_listen 356 = .ok (.aload_n 0, 1) := by decide +kernel
theorem dX12_listen_357 : decode cX12_listen 357 = .ok (.getfield 85, 3) := by decide +kernel
theorem dX12_listen_360 : decode cX12_listen 360 = .ok (.iload 10, 2) := by decide +kernel
theorem dX12_listen_362 : decode cX12_listen 362 = .ok (.iaload, 1) := by decide +kernel
theorem dX12_listen_363 : decode cX12_listen 363 = .ok (.if_icmp .le 13, 3) := by decide +kernel
theorem dX12_listen_366 : decode cX12_listen 366 = .ok (.aload_n 0, 1) := by decide +kernel
theorem dX12_listen_367 : decode cX12_listen 367 = .ok (.getfield 88, 3) := by decide +kernel
theorem dX12_listen_370 : decode cX12_listen 370 = .ok (.iload 10, 2) := by decide +kernel
theorem dX12_listen_372 : decode cX12_listen 372 = .ok (.iaload, 1) := by decide +kernel
theorem dX12_listen_373 : decode cX12_listen 373 = .ok (.goto 10, 3) := by decide +kernel
theorem dX12_listen_376 : decode cX12_listen 376 = .ok (.aload_n 0, 1) := by decide +kernel
theorem dX12_listen_377 : decode cX12_listen 377 = .ok (.getfield 85, 3) := by decide +kernel
theorem dX12_listen_380 : decode cX12_listen 380 = .ok (.iload 10, 2) := by decide +kernel
theorem dX12_listen_382 : decode cX12_listen 382 = .ok (.iaload, 1) := by decide +kernel
theorem dX12_listen_383 : decode cX12_listen 383 = .ok (.iastore, 1) := by decide +kernel
theorem dX12_listen_384 : decode cX12_listen 384 = .ok (.iinc 10 1, 3) := by decide +kernel
theorem dX12_listen_387 : decode cX12_listen 387 = .ok (.goto (-179), 3) := by decide +kernel
theorem dX12_listen_390 : decode cX12_listen 390 = .ok (.iload 9, 2) := by decide +kernel
theorem dX12_listen_392 : decode cX12_listen 392 = .ok (.istore 6, 2) := by decide +kernel
theorem dX12_listen_394 : decode cX12_listen 394 = .ok (.iinc 8 1, 3) := by decide +kernel
theorem dX12_listen_397 : decode cX12_listen 397 = .ok (.goto (-295), 3) := by decide +kernel
theorem dX12_listen_400 : decode cX12_listen 400 = .ok (.iload 7, 2) := by decide +kernel
theorem dX12_listen_402 : decode cX12_listen 402 = .ok (.ireturn, 1) := by decide +kernel
theorem dX12_spoke_0 : decode cX12_spoke 0 = .ok (.aload_n 0, 1) := by decide +kernel
theorem dX12_spoke_1 : decode cX12_spoke 1 = .ok (.iload_n 1, 1) := by decide +kernel
theorem dX12_spoke_2 : decode cX12_spoke 2 = .ok (.invokevirtual 237, 3) := by decide +kernel
theorem dX12_spoke_5 : decode cX12_spoke 5 = .ok (.ifCond .eq 15, 3) := by decide +kernel
theorem dX12_spoke_8 : decode cX12_spoke 8 = .ok (.iload_n 2, 1) := by decide +kernel
theorem dX12_spoke_9 : decode cX12_spoke 9 = .ok (.i2l, 1) := by decide +kernel
theorem dX12_spoke_10 : decode cX12_spoke 10 = .ok (.lconst 0, 1) := by decide +kernel
theorem dX12_spoke_11 : decode cX12_spoke 11 = .ok (.ldc2_w 326, 3) := by decide +kernel
theorem dX12_spoke_14 : decode cX12_spoke 14 = .ok (.invokestatic 152, 3) := by decide +kernel
theorem dX12_spoke_17 : decode cX12_spoke 17 = .ok (.ifCond .ne 6, 3) := by decide +kernel
theorem dX12_spoke_20 : decode cX12_spoke 20 = .ok (.bipush (-2), 2) := by decide +kernel
theorem dX12_spoke_22 : decode cX12_spoke 22 = .ok (.ireturn, 1) := by decide +kernel
theorem dX12_spoke_23 : decode cX12_spoke 23 = .ok (.iload_n 2, 1) := by decide +kernel
theorem dX12_spoke_24 : decode cX12_spoke 24 = .ok (.ifCond .ne 12, 3) := by decide +kernel
theorem dX12_spoke_27 : decode cX12_spoke 27 = .ok (.aload_n 0, 1) := by decide +kernel
theorem dX12_spoke_28 : decode cX12_spoke 28 = .ok (.getfield 79, 3) := by decide +kernel
theorem dX12_spoke_31 : decode cX12_spoke 31 = .ok (.iload_n 1, 1) := by decide +kernel
theorem dX12_spoke_32 : decode cX12_spoke 32 = .ok (.iaload, 1) := by decide +kernel
theorem dX12_spoke_33 : decode cX12_spoke 33 = .ok (.goto 23, 3) := by decide +kernel
theorem dX12_spoke_36 : decode cX12_spoke 36 = .ok (.iload_n 2, 1) := by decide +kernel
theorem dX12_spoke_37 : decode cX12_spoke 37 = .ok (.iconst 1, 1) := by decide +kernel
theorem dX12_spoke_38 : decode cX12_spoke 38 = .ok (.if_icmp .ne 12, 3) := by decide +kernel
theorem dX12_spoke_41 : decode cX12_spoke 41 = .ok (.aload_n 0, 1) := by decide +kernel
theorem dX12_spoke_42 : decode cX12_spoke 42 = .ok (.getfield 82, 3) := by decide +kernel
theorem dX12_spoke_45 : decode cX12_spoke 45 = .ok (.iload_n 1, 1) := by decide +kernel
theorem dX12_spoke_46 : decode cX12_spoke 46 = .ok (.iaload, 1) := by decide +kernel
theorem dX12_spoke_47 : decode cX12_spoke 47 = .ok (.goto 9, 3) := by decide +kernel
theorem dX12_spoke_50 : decode cX12_spoke 50 = .ok (.aload_n 0, 1) := by decide +kernel
theorem dX12_spoke_51 : decode cX12_spoke 51 = .ok (.getfield 85, 3) := by decide +kernel
theorem dX12_spoke_54 : decode cX12_spoke 54 = .ok (.iload_n 1, 1) := by decide +kernel
theorem dX12_spoke_55 : decode cX12_spoke 55 = .ok (.iaload, 1) := by decide +kernel
theorem dX12_spoke_56 : decode cX12_spoke 56 = .ok (.ireturn, 1) := by decide +kernel
theorem dX12_isDrowned_0 : decode cX12_isDrowned 0 = .ok (.aload_n 0, 1) := by decide +kernel
theorem dX12_isDrowned_1 : decode cX12_isDrowned 1 = .ok (.iload_n 1, 1) := by decide +kernel
theorem dX12_isDrowned_2 : decode cX12_isDrowned 2 = .ok (.aload_n 0, 1) := by decide +kernel
theorem dX12_isDrowned_3 : decode cX12_isDrowned 3 = .ok (.getfield 30, 3) := by decide +kernel
theorem dX12_isDrowned_6 : decode cX12_isDrowned 6 = .ok (.iconst 2, 1) := by decide +kernel
theorem dX12_isDrowned_7 : decode cX12_isDrowned 7 = .ok (.iaload, 1) := by decide +kernel
theorem dX12_isDrowned_8 : decode cX12_isDrowned 8 = .ok (.i2l, 1) := by decide +kernel
theorem dX12_isDrowned_9 : decode cX12_isDrowned 9 = .ok (.invokevirtual 266, 3) := by decide +kernel
theorem dX12_isDrowned_12 : decode cX12_isDrowned 12 = .ok (.ifCond .eq 23, 3) := by decide +kernel
theorem dX12_isDrowned_15 : decode cX12_isDrowned 15 = .ok (.aload_n 0, 1) := by decide +kernel
theorem dX12_isDrowned_16 : decode cX12_isDrowned 16 = .ok (.iload_n 1, 1) := by decide +kernel
theorem dX12_isDrowned_17 : decode cX12_isDrowned 17 = .ok (.aload_n 0, 1) := by decide +kernel
theorem dX12_isDrowned_18 : decode cX12_isDrowned 18 = .ok (.iload_n 1, 1) := by decide +kernel
theorem dX12_isDrowned_19 : decode cX12_isDrowned 19 = .ok (.iconst 1, 1) := by decide +kernel
theorem dX12_isDrowned_20 : decode cX12_isDrowned 20 = .ok (.iload_n 2, 1) := by decide +kernel
theorem dX12_isDrowned_21 : decode cX12_isDrowned 21 = .ok (.ishl, 1) := by decide +kernel
theorem dX12_isDrowned_22 : decode cX12_isDrowned 22 = .ok (.invokevirtual 262, 3) := by decide +kernel
theorem dX12_isDrowned_25 : decode cX12_isDrowned 25 = .ok (.invokevirtual 266, 3) := by decide +kernel
theorem dX12_isDrowned_28 : decode cX12_isDrowned 28 = .ok (.ifCond .ne 7, 3) := by decide +kernel
theorem dX12_isDrowned_31 : decode cX12_isDrowned 31 = .ok (.iconst 1, 1) := by decide +kernel
theorem dX12_isDrowned_32 : decode cX12_isDrowned 32 = .ok (.goto 4, 3) := by decide +kernel
theorem dX12_isDrowned_35 : decode cX12_isDrowned 35 = .ok (.iconst 0, 1) := by decide +kernel
theorem dX12_isDrowned_36 : decode cX12_isDrowned 36 = .ok (.ireturn, 1) := by decide +kernel
theorem dX12_hidden_0 : decode cX12_hidden 0 = .ok (.iload_n 1, 1) := by decide +kernel
theorem dX12_hidden_1 : decode cX12_hidden 1 = .ok (.i2l, 1) := by decide +kernel
theorem dX12_hidden_2 : decode cX12_hidden 2 = .ok (.lconst 0, 1) := by decide +kernel
theorem dX12_hidden_3 : decode cX12_hidden 3 = .ok (.ldc2_w 247, 3) := by decide +kernel
theorem dX12_hidden_6 : decode cX12_hidden 6 = .ok (.invokestatic 152, 3) := by decide +kernel
theorem dX12_hidden_9 : decode cX12_hidden 9 = .ok (.ifCond .ne 6, 3) := by decide +kernel
theorem dX12_hidden_12 : decode cX12_hidden 12 = .ok (.bipush (-2), 2) := by decide +kernel
theorem dX12_hidden_14 : decode cX12_hidden 14 = .ok (.ireturn, 1) := by decide +kernel
theorem dX12_hidden_15 : decode cX12_hidden 15 = .ok (.aload_n 0, 1) := by decide +kernel
theorem dX12_hidden_16 : decode cX12_hidden 16 = .ok (.iload_n 1, 1) := by decide +kernel
theorem dX12_hidden_17 : decode cX12_hidden 17 = .ok (.invokevirtual 319, 3) := by decide +kernel
theorem dX12_hidden_20 : decode cX12_hidden 20 = .ok (.istore_n 2, 1) := by decide +kernel
theorem dX12_hidden_21 : decode cX12_hidden 21 = .ok (.iconst 0, 1) := by decide +kernel
theorem dX12_hidden_22 : decode cX12_hidden 22 = .ok (.istore_n 3, 1) := by decide +kernel
theorem dX12_hidden_23 : decode cX12_hidden 23 = .ok (.iconst 0, 1) := by decide +kernel
theorem dX12_hidden_24 : decode cX12_hidden 24 = .ok (.istore 4, 2) := by decide +kernel
theorem dX12_hidden_26 : decode cX12_hidden 26 = .ok (.iload 4, 2) := by decide +kernel
theorem dX12_hidden_28 : decode cX12_hidden 28 = .ok (.aload_n 0, 1) := by decide +kernel
theorem dX12_hidden_29 : decode cX12_hidden 29 = .ok (.getfield 176, 3) := by decide +kernel
theorem dX12_hidden_32 : decode cX12_hidden 32 = .ok (.if_icmp .ge 129, 3) := by decide +kernel
theorem dX12_hidden_35 : decode cX12_hidden 35 = .ok (.iload 4, 2) := by decide +kernel
theorem dX12_hidden_37 : decode cX12_hidden 37 = .ok (.iconst 1, 1) := by decide +kernel
theorem dX12_hidden_38 : decode cX12_hidden 38 = .ok (.iadd, 1) := by decide +kernel
theorem dX12_hidden_39 : decode cX12_hidden 39 = .ok (.istore 5, 2) := by decide +kernel
theorem dX12_hidden_41 : decode cX12_hidden 41 = .ok (.iload 5, 2) := by decide +kernel
theorem dX12_hidden_43 : decode cX12_hidden 43 = .ok (.aload_n 0, 1) := by decide +kernel
theorem dX12_hidden_44 : decode cX12_hidden 44 = .ok (.getfield 176, 3) := by decide +kernel
theorem dX12_hidden_47 : decode cX12_hidden 47 = .ok (.if_icmp .ge 108, 3) := by decide +kernel
theorem dX12_hidden_50 : decode cX12_hidden 50 = .ok (.iload_n 2, 1) := by decide +kernel
theorem dX12_hidden_51 : decode cX12_hidden 51 = .ok (.iload 4, 2) := by decide +kernel
theorem dX12_hidden_53 : decode cX12_hidden 53 = .ok (.ishr, 1) := by decide +kernel
theorem dX12_hidden_54 : decode cX12_hidden 54 = .ok (.iload_n 2, 1) := by decide +kernel
theorem dX12_hidden_55 : decode cX12_hidden 55 = .ok (.iload 5, 2) := by decide +kernel
theorem dX12_hidden_57 : decode cX12_hidden 57 = .ok (.ishr, 1) := by decide +kernel
theorem dX12_hidden_58 : decode cX12_hidden 58 = .ok (.iand, 1) := by decide +kernel
theorem dX12_hidden_59 : decode cX12_hidden 59 = .ok (.iconst 1, 1) := by decide +kernel
theorem dX12_hidden_60 : decode cX12_hidden 60 = .ok (.iand, 1) := by decide +kernel
theorem dX12_hidden_61 : decode cX12_hidden 61 = .ok (.iconst 1, 1) := by decide +kernel
theorem dX12_hidden_62 : decode cX12_hidden 62 = .ok (.if_icmp .ne 7, 3) := by decide +kernel
theorem dX12_hidden_65 : decode cX12_hidden 65 = .ok (.iconst 1, 1) := by decide +kernel
theorem dX12_hidden_66 : decode cX12_hidden 66 = .ok (.goto 4, 3) := by decide +kernel
theorem dX12_hidden_69 : decode cX12_hidden 69 = .ok (.iconst 0, 1) := by decide +kernel
theorem dX12_hidden_70 : decode cX12_hidden 70 = .ok (.istore 6, 2) := by decide +kernel
theorem dX12_hidden_72 : decode cX12_hidden 72 = .ok (.iload 6, 2) := by decide +kernel
theorem dX12_hidden_74 : decode cX12_hidden 74 = .ok (.ifCond .eq 75, 3) := by decide +kernel
theorem dX12_hidden_77 : decode cX12_hidden 77 = .ok (.aload_n 0, 1) := by decide +kernel
theorem dX12_hidden_78 : decode cX12_hidden 78 = .ok (.iload 4, 2) := by decide +kernel
theorem dX12_hidden_80 : decode cX12_hidden 80 = .ok (.iconst 1, 1) := by decide +kernel
theorem dX12_hidden_81 : decode cX12_hidden 81 = .ok (.iload 5, 2) := by decide +kernel
theorem dX12_hidden_83 : decode cX12_hidden 83 = .ok (.ishl, 1) := by decide +kernel
theorem dX12_hidden_84 : decode cX12_hidden 84 = .ok (.invokevirtual 323, 3) := by decide +kernel
theorem dX12_hidden_87 : decode cX12_hidden 87 = .ok (.aload_n 0, 1) := by decide +kernel
theorem dX12_hidden_88 : decode cX12_hidden 88 = .ok (.getfield 30, 3) := by decide +kernel
theorem dX12_hidden_91 : decode cX12_hidden 91 = .ok (.iconst 3, 1) := by decide +kernel
theorem dX12_hidden_92 : decode cX12_hidden 92 = .ok (.iaload, 1) := by decide +kernel
theorem dX12_hidden_93 : decode cX12_hidden 93 = .ok (.i2l, 1) := by decide +kernel
theorem dX12_hidden_94 : decode cX12_hidden 94 = .ok (.lcmp, 1) := by decide +kernel
theorem dX12_hidden_95 : decode cX12_hidden 95 = .ok (.ifCond .ge 54, 3) := by decide +kernel
theorem dX12_hidden_98 : decode cX12_hidden 98 = .ok (.aload_n 0, 1) := by decide +kernel
theorem dX12_hidden_99 : decode cX12_hidden 99 = .ok (.iload 5, 2) := by decide +kernel
theorem dX12_hidden_101 : decode cX12_hidden 101 = .ok (.iconst 1, 1) := by decide +kernel
theorem dX12_hidden_102 : decode cX12_hidden 102 = .ok (.iload 4, 2) := by decide +kernel
theorem dX12_hidden_104 : decode cX12_hidden 104 = .ok (.ishl, 1) := by decide +kernel
theorem dX12_hidden_105 : decode cX12_hidden 105 = .ok (.invokevirtual 323, 3) := by decide +kernel
theorem dX12_hidden_108 : decode cX12_hidden 108 = .ok (.aload_n 0, 1) := by decide +kernel
theorem dX12_hidden_109 : decode cX12_hidden 109 = .ok (.getfield 30, 3) := by decide +kernel
theorem dX12_hidden_112 : decode cX12_hidden 112 = .ok (.iconst 3, 1) := by decide +kernel
theorem dX12_hidden_113 : decode cX12_hidden 113 = .ok (.iaload, 1) := by decide +kernel
theorem dX12_hidden_114 : decode cX12_hidden 114 = .ok (.i2l, 1) := by decide +kernel
theorem dX12_hidden_115 : decode cX12_hidden 115 = .ok (.lcmp, 1) := by decide +kernel
theorem dX12_hidden_116 : decode cX12_hidden 116 = .ok (.ifCond .ge 33, 3) := by decide +kernel
theorem dX12_hidden_119 : decode cX12_hidden 119 = .ok (.iload_n 3, 1) := by decide +kernel
theorem dX12_hidden_120 : decode cX12_hidden 120 = .ok (.aload_n 0, 1) := by decide +kernel
theorem dX12_hidden_121 : decode cX12_hidden 121 = .ok (.iload 4, 2) := by decide +kernel
theorem dX12_hidden_123 : decode cX12_hidden 123 = .ok (.iload 5, 2) := by decide +kernel
theorem dX12_hidden_125 : decode cX12_hidden 125 = .ok (.invokevirtual 328, 3) := by decide +kernel
theorem dX12_hidden_128 : decode cX12_hidden 128 = .ok (.ifCond .ne 14, 3) := by decide +kernel
theorem dX12_hidden_131 : decode cX12_hidden 131 = .ok (.aload_n 0, 1) := by decide +kernel
