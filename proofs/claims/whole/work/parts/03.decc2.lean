theorem dX12_hidden_132 : decode cX12_hidden 132 = .ok (.iload 5, 2) := by decide +kernel
theorem dX12_hidden_134 : decode cX12_hidden 134 = .ok (.iload 4, 2) := by decide +kernel
theorem dX12_hidden_136 : decode cX12_hidden 136 = .ok (.invokevirtual 328, 3) := by decide +kernel
theorem dX12_hidden_139 : decode cX12_hidden 139 = .ok (.ifCond .eq 7, 3) := by decide +kernel
theorem dX12_hidden_142 : decode cX12_hidden 142 = .ok (.iconst 1, 1) := by decide +kernel
theorem dX12_hidden_143 : decode cX12_hidden 143 = .ok (.goto 4, 3) := by decide +kernel
theorem dX12_hidden_146 : decode cX12_hidden 146 = .ok (.iconst 0, 1) := by decide +kernel
theorem dX12_hidden_147 : decode cX12_hidden 147 = .ok (.iadd, 1) := by decide +kernel
theorem dX12_hidden_148 : decode cX12_hidden 148 = .ok (.istore_n 3, 1) := by decide +kernel
theorem dX12_hidden_149 : decode cX12_hidden 149 = .ok (.iinc 5 1, 3) := by decide +kernel
theorem dX12_hidden_152 : decode cX12_hidden 152 = .ok (.goto (-111), 3) := by decide +kernel
theorem dX12_hidden_155 : decode cX12_hidden 155 = .ok (.iinc 4 1, 3) := by decide +kernel
theorem dX12_hidden_158 : decode cX12_hidden 158 = .ok (.goto (-132), 3) := by decide +kernel
theorem dX12_hidden_161 : decode cX12_hidden 161 = .ok (.iload_n 3, 1) := by decide +kernel
theorem dX12_hidden_162 : decode cX12_hidden 162 = .ok (.ireturn, 1) := by decide +kernel
theorem dX12_bid_0 : decode cX12_bid 0 = .ok (.aload_n 0, 1) := by decide +kernel
theorem dX12_bid_1 : decode cX12_bid 1 = .ok (.iload_n 1, 1) := by decide +kernel
theorem dX12_bid_2 : decode cX12_bid 2 = .ok (.invokevirtual 237, 3) := by decide +kernel
theorem dX12_bid_5 : decode cX12_bid 5 = .ok (.ifCond .eq 27, 3) := by decide +kernel
theorem dX12_bid_8 : decode cX12_bid 8 = .ok (.iload_n 2, 1) := by decide +kernel
theorem dX12_bid_9 : decode cX12_bid 9 = .ok (.i2l, 1) := by decide +kernel
theorem dX12_bid_10 : decode cX12_bid 10 = .ok (.lconst 1, 1) := by decide +kernel
theorem dX12_bid_11 : decode cX12_bid 11 = .ok (.ldc2_w 332, 3) := by decide +kernel
theorem dX12_bid_14 : decode cX12_bid 14 = .ok (.invokestatic 152, 3) := by decide +kernel
theorem dX12_bid_17 : decode cX12_bid 17 = .ok (.ifCond .eq 15, 3) := by decide +kernel
theorem dX12_bid_20 : decode cX12_bid 20 = .ok (.iload_n 3, 1) := by decide +kernel
theorem dX12_bid_21 : decode cX12_bid 21 = .ok (.i2l, 1) := by decide +kernel
theorem dX12_bid_22 : decode cX12_bid 22 = .ok (.lconst 1, 1) := by decide +kernel
theorem dX12_bid_23 : decode cX12_bid 23 = .ok (.ldc2_w 204, 3) := by decide +kernel
theorem dX12_bid_26 : decode cX12_bid 26 = .ok (.invokestatic 152, 3) := by decide +kernel
theorem dX12_bid_29 : decode cX12_bid 29 = .ok (.ifCond .ne 6, 3) := by decide +kernel
theorem dX12_bid_32 : decode cX12_bid 32 = .ok (.bipush (-2), 2) := by decide +kernel
theorem dX12_bid_34 : decode cX12_bid 34 = .ok (.ireturn, 1) := by decide +kernel
theorem dX12_bid_35 : decode cX12_bid 35 = .ok (.aload_n 0, 1) := by decide +kernel
theorem dX12_bid_36 : decode cX12_bid 36 = .ok (.getfield 334, 3) := by decide +kernel
theorem dX12_bid_39 : decode cX12_bid 39 = .ok (.bipush 8, 2) := by decide +kernel
theorem dX12_bid_41 : decode cX12_bid 41 = .ok (.if_icmp .ne 6, 3) := by decide +kernel
theorem dX12_bid_44 : decode cX12_bid 44 = .ok (.bipush (-4), 2) := by decide +kernel
theorem dX12_bid_46 : decode cX12_bid 46 = .ok (.ireturn, 1) := by decide +kernel
theorem dX12_bid_47 : decode cX12_bid 47 = .ok (.aload_n 0, 1) := by decide +kernel
theorem dX12_bid_48 : decode cX12_bid 48 = .ok (.getfield 91, 3) := by decide +kernel
theorem dX12_bid_51 : decode cX12_bid 51 = .ok (.aload_n 0, 1) := by decide +kernel
theorem dX12_bid_52 : decode cX12_bid 52 = .ok (.getfield 334, 3) := by decide +kernel
theorem dX12_bid_55 : decode cX12_bid 55 = .ok (.iload_n 2, 1) := by decide +kernel
theorem dX12_bid_56 : decode cX12_bid 56 = .ok (.iastore, 1) := by decide +kernel
theorem dX12_bid_57 : decode cX12_bid 57 = .ok (.aload_n 0, 1) := by decide +kernel
theorem dX12_bid_58 : decode cX12_bid 58 = .ok (.getfield 94, 3) := by decide +kernel
theorem dX12_bid_61 : decode cX12_bid 61 = .ok (.aload_n 0, 1) := by decide +kernel
theorem dX12_bid_62 : decode cX12_bid 62 = .ok (.getfield 334, 3) := by decide +kernel
theorem dX12_bid_65 : decode cX12_bid 65 = .ok (.iload_n 3, 1) := by decide +kernel
theorem dX12_bid_66 : decode cX12_bid 66 = .ok (.iastore, 1) := by decide +kernel
theorem dX12_bid_67 : decode cX12_bid 67 = .ok (.aload_n 0, 1) := by decide +kernel
theorem dX12_bid_68 : decode cX12_bid 68 = .ok (.dup, 1) := by decide +kernel
theorem dX12_bid_69 : decode cX12_bid 69 = .ok (.getfield 334, 3) := by decide +kernel
theorem dX12_bid_72 : decode cX12_bid 72 = .ok (.iconst 1, 1) := by decide +kernel
theorem dX12_bid_73 : decode cX12_bid 73 = .ok (.iadd, 1) := by decide +kernel
theorem dX12_bid_74 : decode cX12_bid 74 = .ok (.putfield 334, 3) := by decide +kernel
theorem dX12_bid_77 : decode cX12_bid 77 = .ok (.aload_n 0, 1) := by decide +kernel
theorem dX12_bid_78 : decode cX12_bid 78 = .ok (.getfield 334, 3) := by decide +kernel
theorem dX12_bid_81 : decode cX12_bid 81 = .ok (.iconst 1, 1) := by decide +kernel
theorem dX12_bid_82 : decode cX12_bid 82 = .ok (.isub, 1) := by decide +kernel
theorem dX12_bid_83 : decode cX12_bid 83 = .ok (.ireturn, 1) := by decide +kernel
theorem dX12_call_0 : decode cX12_call 0 = .ok (.aload_n 0, 1) := by decide +kernel
theorem dX12_call_1 : decode cX12_call 1 = .ok (.getfield 334, 3) := by decide +kernel
theorem dX12_call_4 : decode cX12_call 4 = .ok (.istore_n 1, 1) := by decide +kernel
theorem dX12_call_5 : decode cX12_call 5 = .ok (.aload_n 0, 1) := by decide +kernel
theorem dX12_call_6 : decode cX12_call 6 = .ok (.iconst 0, 1) := by decide +kernel
theorem dX12_call_7 : decode cX12_call 7 = .ok (.putfield 334, 3) := by decide +kernel
theorem dX12_call_10 : decode cX12_call 10 = .ok (.iload_n 1, 1) := by decide +kernel
theorem dX12_call_11 : decode cX12_call 11 = .ok (.ireturn, 1) := by decide +kernel
theorem dX12_priceOf_0 : decode cX12_priceOf 0 = .ok (.iconst 0, 1) := by decide +kernel
theorem dX12_priceOf_1 : decode cX12_priceOf 1 = .ok (.istore_n 2, 1) := by decide +kernel
theorem dX12_priceOf_2 : decode cX12_priceOf 2 = .ok (.iconst 0, 1) := by decide +kernel
theorem dX12_priceOf_3 : decode cX12_priceOf 3 = .ok (.istore_n 3, 1) := by decide +kernel
theorem dX12_priceOf_4 : decode cX12_priceOf 4 = .ok (.iconst 0, 1) := by decide +kernel
theorem dX12_priceOf_5 : decode cX12_priceOf 5 = .ok (.istore 4, 2) := by decide +kernel
theorem dX12_priceOf_7 : decode cX12_priceOf 7 = .ok (.iload 4, 2) := by decide +kernel
theorem dX12_priceOf_9 : decode cX12_priceOf 9 = .ok (.aload_n 0, 1) := by decide +kernel
theorem dX12_priceOf_10 : decode cX12_priceOf 10 = .ok (.getfield 334, 3) := by decide +kernel
theorem dX12_priceOf_13 : decode cX12_priceOf 13 = .ok (.if_icmp .ge 53, 3) := by decide +kernel
theorem dX12_priceOf_16 : decode cX12_priceOf 16 = .ok (.iload_n 1, 1) := by decide +kernel
theorem dX12_priceOf_17 : decode cX12_priceOf 17 = .ok (.iload 4, 2) := by decide +kernel
theorem dX12_priceOf_19 : decode cX12_priceOf 19 = .ok (.ishr, 1) := by decide +kernel
theorem dX12_priceOf_20 : decode cX12_priceOf 20 = .ok (.iconst 1, 1) := by decide +kernel
theorem dX12_priceOf_21 : decode cX12_priceOf 21 = .ok (.iand, 1) := by decide +kernel
theorem dX12_priceOf_22 : decode cX12_priceOf 22 = .ok (.iconst 1, 1) := by decide +kernel
theorem dX12_priceOf_23 : decode cX12_priceOf 23 = .ok (.if_icmp .ne 37, 3) := by decide +kernel
theorem dX12_priceOf_26 : decode cX12_priceOf 26 = .ok (.iload_n 2, 1) := by decide +kernel
theorem dX12_priceOf_27 : decode cX12_priceOf 27 = .ok (.aload_n 0, 1) := by decide +kernel
theorem dX12_priceOf_28 : decode cX12_priceOf 28 = .ok (.getfield 91, 3) := by decide +kernel
theorem dX12_priceOf_31 : decode cX12_priceOf 31 = .ok (.iload 4, 2) := by decide +kernel
theorem dX12_priceOf_33 : decode cX12_priceOf 33 = .ok (.iaload, 1) := by decide +kernel
theorem dX12_priceOf_34 : decode cX12_priceOf 34 = .ok (.iand, 1) := by decide +kernel
theorem dX12_priceOf_35 : decode cX12_priceOf 35 = .ok (.ifCond .eq 5, 3) := by decide +kernel
theorem dX12_priceOf_38 : decode cX12_priceOf 38 = .ok (.iconst (-1), 1) := by decide +kernel
theorem dX12_priceOf_39 : decode cX12_priceOf 39 = .ok (.ireturn, 1) := by decide +kernel
theorem dX12_priceOf_40 : decode cX12_priceOf 40 = .ok (.iload_n 2, 1) := by decide +kernel
theorem dX12_priceOf_41 : decode cX12_priceOf 41 = .ok (.aload_n 0, 1) := by decide +kernel
theorem dX12_priceOf_42 : decode cX12_priceOf 42 = .ok (.getfield 91, 3) := by decide +kernel
theorem dX12_priceOf_45 : decode cX12_priceOf 45 = .ok (.iload 4, 2) := by decide +kernel
theorem dX12_priceOf_47 : decode cX12_priceOf 47 = .ok (.iaload, 1) := by decide +kernel
theorem dX12_priceOf_48 : decode cX12_priceOf 48 = .ok (.ior, 1) := by decide +kernel
theorem dX12_priceOf_49 : decode cX12_priceOf 49 = .ok (.istore_n 2, 1) := by decide +kernel
theorem dX12_priceOf_50 : decode cX12_priceOf 50 = .ok (.iload_n 3, 1) := by decide +kernel
theorem dX12_priceOf_51 : decode cX12_priceOf 51 = .ok (.aload_n 0, 1) := by decide +kernel
theorem dX12_priceOf_52 : decode cX12_priceOf 52 = .ok (.getfield 94, 3) := by decide +kernel
theorem dX12_priceOf_55 : decode cX12_priceOf 55 = .ok (.iload 4, 2) := by decide +kernel
theorem dX12_priceOf_57 : decode cX12_priceOf 57 = .ok (.iaload, 1) := by decide +kernel
theorem dX12_priceOf_58 : decode cX12_priceOf 58 = .ok (.iadd, 1) := by decide +kernel
theorem dX12_priceOf_59 : decode cX12_priceOf 59 = .ok (.istore_n 3, 1) := by decide +kernel
theorem dX12_priceOf_60 : decode cX12_priceOf 60 = .ok (.iinc 4 1, 3) := by decide +kernel
theorem dX12_priceOf_63 : decode cX12_priceOf 63 = .ok (.goto (-56), 3) := by decide +kernel
theorem dX12_priceOf_66 : decode cX12_priceOf 66 = .ok (.iload_n 3, 1) := by decide +kernel
theorem dX12_priceOf_67 : decode cX12_priceOf 67 = .ok (.ireturn, 1) := by decide +kernel
theorem dX12_bestBids_0 : decode cX12_bestBids 0 = .ok (.iconst 0, 1) := by decide +kernel
theorem dX12_bestBids_1 : decode cX12_bestBids 1 = .ok (.istore_n 2, 1) := by decide +kernel
theorem dX12_bestBids_2 : decode cX12_bestBids 2 = .ok (.iconst 1, 1) := by decide +kernel
theorem dX12_bestBids_3 : decode cX12_bestBids 3 = .ok (.istore_n 3, 1) := by decide +kernel
theorem dX12_bestBids_4 : decode cX12_bestBids 4 = .ok (.iload_n 3, 1) := by decide +kernel
theorem dX12_bestBids_5 : decode cX12_bestBids 5 = .ok (.iconst 1, 1) := by decide +kernel
theorem dX12_bestBids_6 : decode cX12_bestBids 6 = .ok (.aload_n 0, 1) := by decide +kernel
theorem dX12_bestBids_7 : decode cX12_bestBids 7 = .ok (.getfield 334, 3) := by decide +kernel
theorem dX12_bestBids_10 : decode cX12_bestBids 10 = .ok (.ishl, 1) := by decide +kernel
theorem dX12_bestBids_11 : decode cX12_bestBids 11 = .ok (.if_icmp .ge 55, 3) := by decide +kernel
theorem dX12_bestBids_14 : decode cX12_bestBids 14 = .ok (.iload_n 3, 1) := by decide +kernel
theorem dX12_bestBids_15 : decode cX12_bestBids 15 = .ok (.iload_n 1, 1) := by decide +kernel
theorem dX12_bestBids_16 : decode cX12_bestBids 16 = .ok (.iand, 1) := by decide +kernel
theorem dX12_bestBids_17 : decode cX12_bestBids 17 = .ok (.ifCond .eq 7, 3) := by decide +kernel
theorem dX12_bestBids_20 : decode cX12_bestBids 20 = .ok (.iconst (-1), 1) := by decide +kernel
theorem dX12_bestBids_21 : decode cX12_bestBids 21 = .ok (.goto 14, 3) := by decide +kernel
theorem dX12_bestBids_24 : decode cX12_bestBids 24 = .ok (.aload_n 0, 1) := by decide +kernel
theorem dX12_bestBids_25 : decode cX12_bestBids 25 = .ok (.iload_n 3, 1) := by decide +kernel
theorem dX12_bestBids_26 : decode cX12_bestBids 26 = .ok (.invokevirtual 337, 3) := by decide +kernel
theorem dX12_bestBids_29 : decode cX12_bestBids 29 = .ok (.aload_n 0, 1) := by decide +kernel
theorem dX12_bestBids_30 : decode cX12_bestBids 30 = .ok (.iload_n 2, 1) := by decide +kernel
theorem dX12_bestBids_31 : decode cX12_bestBids 31 = .ok (.invokevirtual 337, 3) := by decide +kernel
theorem dX12_bestBids_34 : decode cX12_bestBids 34 = .ok (.isub, 1) := by decide +kernel
theorem dX12_bestBids_35 : decode cX12_bestBids 35 = .ok (.istore 4, 2) := by decide +kernel
theorem dX12_bestBids_37 : decode cX12_bestBids 37 = .ok (.iload 4, 2) := by decide +kernel
theorem dX12_bestBids_39 : decode cX12_bestBids 39 = .ok (.ifCond .gt 19, 3) := by decide +kernel
theorem dX12_bestBids_42 : decode cX12_bestBids 42 = .ok (.iload 4, 2) := by decide +kernel
theorem dX12_bestBids_44 : decode cX12_bestBids 44 = .ok (.ifCond .ne 16, 3) := by decide +kernel
theorem dX12_bestBids_47 : decode cX12_bestBids 47 = .ok (.iload_n 3, 1) := by decide +kernel
theorem dX12_bestBids_48 : decode cX12_bestBids 48 = .ok (.invokestatic 274, 3) := by decide +kernel
theorem dX12_bestBids_51 : decode cX12_bestBids 51 = .ok (.iload_n 2, 1) := by decide +kernel
theorem dX12_bestBids_52 : decode cX12_bestBids 52 = .ok (.invokestatic 274, 3) := by decide +kernel
theorem dX12_bestBids_55 : decode cX12_bestBids 55 = .ok (.if_icmp .ge 5, 3) := by decide +kernel
theorem dX12_bestBids_58 : decode cX12_bestBids 58 = .ok (.iload_n 3, 1) := by decide +kernel
theorem dX12_bestBids_59 : decode cX12_bestBids 59 = .ok (.istore_n 2, 1) := by decide +kernel
theorem dX12_bestBids_60 : decode cX12_bestBids 60 = .ok (.iinc 3 1, 3) := by decide +kernel
theorem dX12_bestBids_63 : decode cX12_bestBids 63 = .ok (.goto (-59), 3) := by decide +kernel
theorem dX12_bestBids_66 : decode cX12_bestBids 66 = .ok (.iload_n 2, 1) := by decide +kernel
theorem dX12_bestBids_67 : decode cX12_bestBids 67 = .ok (.ireturn, 1) := by decide +kernel
theorem dX12_won_0 : decode cX12_won 0 = .ok (.aload_n 0, 1) := by decide +kernel
theorem dX12_won_1 : decode cX12_won 1 = .ok (.iconst 0, 1) := by decide +kernel
theorem dX12_won_2 : decode cX12_won 2 = .ok (.invokevirtual 340, 3) := by decide +kernel
theorem dX12_won_5 : decode cX12_won 5 = .ok (.ireturn, 1) := by decide +kernel
theorem dX12_pays_0 : decode cX12_pays 0 = .ok (.iload_n 1, 1) := by decide +kernel
theorem dX12_pays_1 : decode cX12_pays 1 = .ok (.i2l, 1) := by decide +kernel
theorem dX12_pays_2 : decode cX12_pays 2 = .ok (.lconst 0, 1) := by decide +kernel
theorem dX12_pays_3 : decode cX12_pays 3 = .ok (.aload_n 0, 1) := by decide +kernel
theorem dX12_pays_4 : decode cX12_pays 4 = .ok (.getfield 334, 3) := by decide +kernel
theorem dX12_pays_7 : decode cX12_pays 7 = .ok (.iconst 1, 1) := by decide +kernel
theorem dX12_pays_8 : decode cX12_pays 8 = .ok (.isub, 1) := by decide +kernel
theorem dX12_pays_9 : decode cX12_pays 9 = .ok (.i2l, 1) := by decide +kernel
theorem dX12_pays_10 : decode cX12_pays 10 = .ok (.invokestatic 152, 3) := by decide +kernel
theorem dX12_pays_13 : decode cX12_pays 13 = .ok (.ifCond .ne 6, 3) := by decide +kernel
theorem dX12_pays_16 : decode cX12_pays 16 = .ok (.bipush (-2), 2) := by decide +kernel
theorem dX12_pays_18 : decode cX12_pays 18 = .ok (.ireturn, 1) := by decide +kernel
theorem dX12_pays_19 : decode cX12_pays 19 = .ok (.aload_n 0, 1) := by decide +kernel
theorem dX12_pays_20 : decode cX12_pays 20 = .ok (.iconst 0, 1) := by decide +kernel
theorem dX12_pays_21 : decode cX12_pays 21 = .ok (.invokevirtual 340, 3) := by decide +kernel
theorem dX12_pays_24 : decode cX12_pays 24 = .ok (.istore_n 2, 1) := by decide +kernel
theorem dX12_pays_25 : decode cX12_pays 25 = .ok (.iload_n 2, 1) := by decide +kernel
theorem dX12_pays_26 : decode cX12_pays 26 = .ok (.iload_n 1, 1) := by decide +kernel
theorem dX12_pays_27 : decode cX12_pays 27 = .ok (.ishr, 1) := by decide +kernel
theorem dX12_pays_28 : decode cX12_pays 28 = .ok (.iconst 1, 1) := by decide +kernel
theorem dX12_pays_29 : decode cX12_pays 29 = .ok (.iand, 1) := by decide +kernel
theorem dX12_pays_30 : decode cX12_pays 30 = .ok (.ifCond .ne 5, 3) := by decide +kernel
theorem dX12_pays_33 : decode cX12_pays 33 = .ok (.iconst 0, 1) := by decide +kernel
theorem dX12_pays_34 : decode cX12_pays 34 = .ok (.ireturn, 1) := by decide +kernel
theorem dX12_pays_35 : decode cX12_pays 35 = .ok (.aload_n 0, 1) := by decide +kernel
theorem dX12_pays_36 : decode cX12_pays 36 = .ok (.aload_n 0, 1) := by decide +kernel
theorem dX12_pays_37 : decode cX12_pays 37 = .ok (.iconst 1, 1) := by decide +kernel
theorem dX12_pays_38 : decode cX12_pays 38 = .ok (.iload_n 1, 1) := by decide +kernel
theorem dX12_pays_39 : decode cX12_pays 39 = .ok (.ishl, 1) := by decide +kernel
theorem dX12_pays_40 : decode cX12_pays 40 = .ok (.invokevirtual 340, 3) := by decide +kernel
theorem dX12_pays_43 : decode cX12_pays 43 = .ok (.invokevirtual 337, 3) := by decide +kernel
theorem dX12_pays_46 : decode cX12_pays 46 = .ok (.aload_n 0, 1) := by decide +kernel
theorem dX12_pays_47 : decode cX12_pays 47 = .ok (.iload_n 2, 1) := by decide +kernel
theorem dX12_pays_48 : decode cX12_pays 48 = .ok (.invokevirtual 337, 3) := by decide +kernel
theorem dX12_pays_51 : decode cX12_pays 51 = .ok (.aload_n 0, 1) := by decide +kernel
theorem dX12_pays_52 : decode cX12_pays 52 = .ok (.getfield 94, 3) := by decide +kernel
theorem dX12_pays_55 : decode cX12_pays 55 = .ok (.iload_n 1, 1) := by decide +kernel
theorem dX12_pays_56 : decode cX12_pays 56 = .ok (.iaload, 1) := by decide +kernel
theorem dX12_pays_57 : decode cX12_pays 57 = .ok (.isub, 1) := by decide +kernel
theorem dX12_pays_58 : decode cX12_pays 58 = .ok (.isub, 1) := by decide +kernel
theorem dX12_pays_59 : decode cX12_pays 59 = .ok (.ireturn, 1) := by decide +kernel
theorem dX12_type_0 : decode cX12_type 0 = .ok (.iload_n 1, 1) := by decide +kernel
theorem dX12_type_1 : decode cX12_type 1 = .ok (.i2l, 1) := by decide +kernel
theorem dX12_type_2 : decode cX12_type 2 = .ok (.lconst 0, 1) := by decide +kernel
theorem dX12_type_3 : decode cX12_type 3 = .ok (.ldc2_w 343, 3) := by decide +kernel
theorem dX12_type_6 : decode cX12_type 6 = .ok (.invokestatic 152, 3) := by decide +kernel
theorem dX12_type_9 : decode cX12_type 9 = .ok (.ifCond .ne 6, 3) := by decide +kernel
theorem dX12_type_12 : decode cX12_type 12 = .ok (.bipush (-2), 2) := by decide +kernel
theorem dX12_type_14 : decode cX12_type 14 = .ok (.ireturn, 1) := by decide +kernel
theorem dX12_type_15 : decode cX12_type 15 = .ok (.aload_n 0, 1) := by decide +kernel
theorem dX12_type_16 : decode cX12_type 16 = .ok (.getfield 345, 3) := by decide +kernel
theorem dX12_type_19 : decode cX12_type 19 = .ok (.bipush 120, 2) := by decide +kernel
theorem dX12_type_21 : decode cX12_type 21 = .ok (.if_icmp .ne 6, 3) := by decide +kernel
theorem dX12_type_24 : decode cX12_type 24 = .ok (.bipush (-4), 2) := by decide +kernel
theorem dX12_type_26 : decode cX12_type 26 = .ok (.ireturn, 1) := by decide +kernel
theorem dX12_type_27 : decode cX12_type 27 = .ok (.aload_n 0, 1) := by decide +kernel
theorem dX12_type_28 : decode cX12_type 28 = .ok (.getfield 97, 3) := by decide +kernel
theorem dX12_type_31 : decode cX12_type 31 = .ok (.aload_n 0, 1) := by decide +kernel
theorem dX12_type_32 : decode cX12_type 32 = .ok (.getfield 345, 3) := by decide +kernel
theorem dX12_type_35 : decode cX12_type 35 = .ok (.iload_n 1, 1) := by decide +kernel
theorem dX12_type_36 : decode cX12_type 36 = .ok (.iastore, 1) := by decide +kernel
theorem dX12_type_37 : decode cX12_type 37 = .ok (.aload_n 0, 1) := by decide +kernel
theorem dX12_type_38 : decode cX12_type 38 = .ok (.dup, 1) := by decide +kernel
theorem dX12_type_39 : decode cX12_type 39 = .ok (.getfield 345, 3) := by decide +kernel
theorem dX12_type_42 : decode cX12_type 42 = .ok (.iconst 1, 1) := by decide +kernel
theorem dX12_type_43 : decode cX12_type 43 = .ok (.iadd, 1) := by decide +kernel
theorem dX12_type_44 : decode cX12_type 44 = .ok (.putfield 345, 3) := by decide +kernel
theorem dX12_type_47 : decode cX12_type 47 = .ok (.aload_n 0, 1) := by decide +kernel
theorem dX12_type_48 : decode cX12_type 48 = .ok (.getfield 345, 3) := by decide +kernel
theorem dX12_type_51 : decode cX12_type 51 = .ok (.ireturn, 1) := by decide +kernel
theorem dX12_wipe_0 : decode cX12_wipe 0 = .ok (.aload_n 0, 1) := by decide +kernel
theorem dX12_wipe_1 : decode cX12_wipe 1 = .ok (.getfield 345, 3) := by decide +kernel
theorem dX12_wipe_4 : decode cX12_wipe 4 = .ok (.istore_n 1, 1) := by decide +kernel
theorem dX12_wipe_5 : decode cX12_wipe 5 = .ok (.aload_n 0, 1) := by decide +kernel
theorem dX12_wipe_6 : decode cX12_wipe 6 = .ok (.iconst 0, 1) := by decide +kernel
theorem dX12_wipe_7 : decode cX12_wipe 7 = .ok (.putfield 345, 3) := by decide +kernel
theorem dX12_wipe_10 : decode cX12_wipe 10 = .ok (.iload_n 1, 1) := by decide +kernel
theorem dX12_wipe_11 : decode cX12_wipe 11 = .ok (.ireturn, 1) := by decide +kernel
theorem dX12_is_0 : decode cX12_is 0 = .ok (.aload_n 0, 1) := by decide +kernel
theorem dX12_is_1 : decode cX12_is 1 = .ok (.getfield 348, 3) := by decide +kernel
theorem dX12_is_4 : decode cX12_is 4 = .ok (.aload_n 0, 1) := by decide +kernel
theorem dX12_is_5 : decode cX12_is 5 = .ok (.getfield 345, 3) := by decide +kernel
theorem dX12_is_8 : decode cX12_is 8 = .ok (.if_icmp .ge 20, 3) := by decide +kernel
theorem dX12_is_11 : decode cX12_is 11 = .ok (.aload_n 0, 1) := by decide +kernel
theorem dX12_is_12 : decode cX12_is 12 = .ok (.getfield 97, 3) := by decide +kernel
theorem dX12_is_15 : decode cX12_is 15 = .ok (.aload_n 0, 1) := by decide +kernel
theorem dX12_is_16 : decode cX12_is 16 = .ok (.getfield 348, 3) := by decide +kernel
theorem dX12_is_19 : decode cX12_is 19 = .ok (.iaload, 1) := by decide +kernel
theorem dX12_is_20 : decode cX12_is 20 = .ok (.iload_n 1, 1) := by decide +kernel
theorem dX12_is_21 : decode cX12_is 21 = .ok (.if_icmp .ne 7, 3) := by decide +kernel
theorem dX12_is_24 : decode cX12_is 24 = .ok (.iconst 1, 1) := by decide +kernel
theorem dX12_is_25 : decode cX12_is 25 = .ok (.goto 4, 3) := by decide +kernel
theorem dX12_is_28 : decode cX12_is 28 = .ok (.iconst 0, 1) := by decide +kernel
theorem dX12_is_29 : decode cX12_is 29 = .ok (.ireturn, 1) := by decide +kernel
theorem dX12_isFigure_0 : decode cX12_isFigure 0 = .ok (.aload_n 0, 1) := by decide +kernel
theorem dX12_isFigure_1 : decode cX12_isFigure 1 = .ok (.getfield 348, 3) := by decide +kernel
theorem dX12_isFigure_4 : decode cX12_isFigure 4 = .ok (.aload_n 0, 1) := by decide +kernel
theorem dX12_isFigure_5 : decode cX12_isFigure 5 = .ok (.getfield 345, 3) := by decide +kernel
theorem dX12_isFigure_8 : decode cX12_isFigure 8 = .ok (.if_icmp .ge 29, 3) := by decide +kernel
theorem dX12_isFigure_11 : decode cX12_isFigure 11 = .ok (.aload_n 0, 1) := by decide +kernel
theorem dX12_isFigure_12 : decode cX12_isFigure 12 = .ok (.getfield 97, 3) := by decide +kernel
theorem dX12_isFigure_15 : decode cX12_isFigure 15 = .ok (.aload_n 0, 1) := by decide +kernel
theorem dX12_isFigure_16 : decode cX12_isFigure 16 = .ok (.getfield 348, 3) := by decide +kernel
theorem dX12_isFigure_19 : decode cX12_isFigure 19 = .ok (.iaload, 1) := by decide +kernel
theorem dX12_isFigure_20 : decode cX12_isFigure 20 = .ok (.i2l, 1) := by decide +kernel
theorem dX12_isFigure_21 : decode cX12_isFigure 21 = .ok (.ldc2_w 351, 3) := by decide +kernel
theorem dX12_isFigure_24 : decode cX12_isFigure 24 = .ok (.ldc2_w 353, 3) := by decide +kernel
theorem dX12_isFigure_27 : decode cX12_isFigure 27 = .ok (.invokestatic 152, 3) := by decide +kernel
theorem dX12_isFigure_30 : decode cX12_isFigure 30 = .ok (.ifCond .eq 7, 3) := by decide +kernel
theorem dX12_isFigure_33 : decode cX12_isFigure 33 = .ok (.iconst 1, 1) := by decide +kernel
theorem dX12_isFigure_34 : decode cX12_isFigure 34 = .ok (.goto 4, 3) := by decide +kernel
theorem dX12_isFigure_37 : decode cX12_isFigure 37 = .ok (.iconst 0, 1) := by decide +kernel
theorem dX12_isFigure_38 : decode cX12_isFigure 38 = .ok (.ireturn, 1) := by decide +kernel
theorem dX12_number_0 : decode cX12_number 0 = .ok (.aload_n 0, 1) := by decide +kernel
theorem dX12_number_1 : decode cX12_number 1 = .ok (.getfield 348, 3) := by decide +kernel
theorem dX12_number_4 : decode cX12_number 4 = .ok (.istore_n 3, 1) := by decide +kernel
theorem dX12_number_5 : decode cX12_number 5 = .ok (.iconst 0, 1) := by decide +kernel
theorem dX12_number_6 : decode cX12_number 6 = .ok (.istore 4, 2) := by decide +kernel
theorem dX12_number_8 : decode cX12_number 8 = .ok (.aload_n 0, 1) := by decide +kernel
theorem dX12_number_9 : decode cX12_number 9 = .ok (.getfield 348, 3) := by decide +kernel
theorem dX12_number_12 : decode cX12_number 12 = .ok (.iload_n 3, 1) := by decide +kernel
theorem dX12_number_13 : decode cX12_number 13 = .ok (.iconst 2, 1) := by decide +kernel
theorem dX12_number_14 : decode cX12_number 14 = .ok (.iadd, 1) := by decide +kernel
theorem dX12_number_15 : decode cX12_number 15 = .ok (.if_icmp .ge 43, 3) := by decide +kernel
theorem dX12_number_18 : decode cX12_number 18 = .ok (.aload_n 0, 1) := by decide +kernel
theorem dX12_number_19 : decode cX12_number 19 = .ok (.invokevirtual 355, 3) := by decide +kernel
theorem dX12_number_22 : decode cX12_number 22 = .ok (.ifCond .eq 36, 3) := by decide +kernel
theorem dX12_number_25 : decode cX12_number 25 = .ok (.bipush 10, 2) := by decide +kernel
theorem dX12_number_27 : decode cX12_number 27 = .ok (.iload 4, 2) := by decide +kernel
theorem dX12_number_29 : decode cX12_number 29 = .ok (.imul, 1) := by decide +kernel
theorem dX12_number_30 : decode cX12_number 30 = .ok (.aload_n 0, 1) := by decide +kernel
theorem dX12_number_31 : decode cX12_number 31 = .ok (.getfield 97, 3) := by decide +kernel
theorem dX12_number_34 : decode cX12_number 34 = .ok (.aload_n 0, 1) := by decide +kernel
theorem dX12_number_35 : decode cX12_number 35 = .ok (.getfield 348, 3) := by decide +kernel
theorem dX12_number_38 : decode cX12_number 38 = .ok (.iaload, 1) := by decide +kernel
theorem dX12_number_39 : decode cX12_number 39 = .ok (.iadd, 1) := by decide +kernel
theorem dX12_number_40 : decode cX12_number 40 = .ok (.bipush 48, 2) := by decide +kernel
theorem dX12_number_42 : decode cX12_number 42 = .ok (.isub, 1) := by decide +kernel
theorem dX12_number_43 : decode cX12_number 43 = .ok (.istore 4, 2) := by decide +kernel
theorem dX12_number_45 : decode cX12_number 45 = .ok (.aload_n 0, 1) := by decide +kernel
theorem dX12_number_46 : decode cX12_number 46 = .ok (.dup, 1) := by decide +kernel
theorem dX12_number_47 : decode cX12_number 47 = .ok (.getfield 348, 3) := by decide +kernel
theorem dX12_number_50 : decode cX12_number 50 = .ok (.iconst 1, 1) := by decide +kernel
theorem dX12_number_51 : decode cX12_number 51 = .ok (.iadd, 1) := by decide +kernel
theorem dX12_number_52 : decode cX12_number 52 = .ok (.putfield 348, 3) := by decide +kernel
theorem dX12_number_55 : decode cX12_number 55 = .ok (.goto (-47), 3) := by decide +kernel
theorem dX12_number_58 : decode cX12_number 58 = .ok (.aload_n 0, 1) := by decide +kernel
theorem dX12_number_59 : decode cX12_number 59 = .ok (.getfield 348, 3) := by decide +kernel
theorem dX12_number_62 : decode cX12_number 62 = .ok (.iload_n 3, 1) := by decide +kernel
theorem dX12_number_63 : decode cX12_number 63 = .ok (.if_icmp .eq 16, 3) := by decide +kernel
theorem dX12_number_66 : decode cX12_number 66 = .ok (.iload 4, 2) := by decide +kernel
theorem dX12_number_68 : decode cX12_number 68 = .ok (.i2l, 1) := by decide +kernel
theorem dX12_number_69 : decode cX12_number 69 = .ok (.iload_n 1, 1) := by decide +kernel
theorem dX12_number_70 : decode cX12_number 70 = .ok (.i2l, 1) := by decide +kernel
theorem dX12_number_71 : decode cX12_number 71 = .ok (.iload_n 2, 1) := by decide +kernel
theorem dX12_number_72 : decode cX12_number 72 = .ok (.i2l, 1) := by decide +kernel
theorem dX12_number_73 : decode cX12_number 73 = .ok (.invokestatic 152, 3) := by decide +kernel
theorem dX12_number_76 : decode cX12_number 76 = .ok (.ifCond .ne 10, 3) := by decide +kernel
theorem dX12_number_79 : decode cX12_number 79 = .ok (.aload_n 0, 1) := by decide +kernel
theorem dX12_number_80 : decode cX12_number 80 = .ok (.iload_n 3, 1) := by decide +kernel
theorem dX12_number_81 : decode cX12_number 81 = .ok (.putfield 348, 3) := by decide +kernel
theorem dX12_number_84 : decode cX12_number 84 = .ok (.iconst (-1), 1) := by decide +kernel
theorem dX12_number_85 : decode cX12_number 85 = .ok (.ireturn, 1) := by decide +kernel
theorem dX12_number_86 : decode cX12_number 86 = .ok (.iload 4, 2) := by decide +kernel
theorem dX12_number_88 : decode cX12_number 88 = .ok (.ireturn, 1) := by decide +kernel
theorem dX12_readsRule_0 : decode cX12_readsRule 0 = .ok (.aload_n 0, 1) := by decide +kernel
theorem dX12_readsRule_1 : decode cX12_readsRule 1 = .ok (.bipush 43, 2) := by decide +kernel
theorem dX12_readsRule_3 : decode cX12_readsRule 3 = .ok (.invokevirtual 359, 3) := by decide +kernel
theorem dX12_readsRule_6 : decode cX12_readsRule 6 = .ok (.ifCond .ne 14, 3) := by decide +kernel
theorem dX12_readsRule_9 : decode cX12_readsRule 9 = .ok (.aload_n 0, 1) := by decide +kernel
theorem dX12_readsRule_10 : decode cX12_readsRule 10 = .ok (.bipush 45, 2) := by decide +kernel
theorem dX12_readsRule_12 : decode cX12_readsRule 12 = .ok (.invokevirtual 359, 3) := by decide +kernel
theorem dX12_readsRule_15 : decode cX12_readsRule 15 = .ok (.ifCond .ne 5, 3) := by decide +kernel
theorem dX12_readsRule_18 : decode cX12_readsRule 18 = .ok (.iconst 0, 1) := by decide +kernel
theorem dX12_readsRule_19 : decode cX12_readsRule 19 = .ok (.ireturn, 1) := by decide +kernel
theorem dX12_readsRule_20 : decode cX12_readsRule 20 = .ok (.aload_n 0, 1) := by decide +kernel
theorem dX12_readsRule_21 : decode cX12_readsRule 21 = .ok (.getfield 100, 3) := by decide +kernel
theorem dX12_readsRule_24 : decode cX12_readsRule 24 = .ok (.aload_n 0, 1) := by decide +kernel
theorem dX12_readsRule_25 : decode cX12_readsRule 25 = .ok (.getfield 362, 3) := by decide +kernel
theorem dX12_readsRule_28 : decode cX12_readsRule 28 = .ok (.aload_n 0, 1) := by decide +kernel
theorem dX12_readsRule_29 : decode cX12_readsRule 29 = .ok (.bipush 43, 2) := by decide +kernel
theorem dX12_readsRule_31 : decode cX12_readsRule 31 = .ok (.invokevirtual 359, 3) := by decide +kernel
theorem dX12_readsRule_34 : decode cX12_readsRule 34 = .ok (.bastore, 1) := by decide +kernel
theorem dX12_readsRule_35 : decode cX12_readsRule 35 = .ok (.aload_n 0, 1) := by decide +kernel
theorem dX12_readsRule_36 : decode cX12_readsRule 36 = .ok (.dup, 1) := by decide +kernel
theorem dX12_readsRule_37 : decode cX12_readsRule 37 = .ok (.getfield 348, 3) := by decide +kernel
theorem dX12_readsRule_40 : decode cX12_readsRule 40 = .ok (.iconst 1, 1) := by decide +kernel
theorem dX12_readsRule_41 : decode cX12_readsRule 41 = .ok (.iadd, 1) := by decide +kernel
theorem dX12_readsRule_42 : decode cX12_readsRule 42 = .ok (.putfield 348, 3) := by decide +kernel
theorem dX12_readsRule_45 : decode cX12_readsRule 45 = .ok (.aload_n 0, 1) := by decide +kernel
theorem dX12_readsRule_46 : decode cX12_readsRule 46 = .ok (.bipush 42, 2) := by decide +kernel
theorem dX12_readsRule_48 : decode cX12_readsRule 48 = .ok (.invokevirtual 359, 3) := by decide +kernel
theorem dX12_readsRule_51 : decode cX12_readsRule 51 = .ok (.ifCond .eq 16, 3) := by decide +kernel
theorem dX12_readsRule_54 : decode cX12_readsRule 54 = .ok (.aload_n 0, 1) := by decide +kernel
theorem dX12_readsRule_55 : decode cX12_readsRule 55 = .ok (.getfield 103, 3) := by decide +kernel
theorem dX12_readsRule_58 : decode cX12_readsRule 58 = .ok (.aload_n 0, 1) := by decide +kernel
theorem dX12_readsRule_59 : decode cX12_readsRule 59 = .ok (.getfield 362, 3) := by decide +kernel
theorem dX12_readsRule_62 : decode cX12_readsRule 62 = .ok (.iconst (-1), 1) := by decide +kernel
theorem dX12_readsRule_63 : decode cX12_readsRule 63 = .ok (.iastore, 1) := by decide +kernel
theorem dX12_readsRule_64 : decode cX12_readsRule 64 = .ok (.goto 62, 3) := by decide +kernel
theorem dX12_readsRule_67 : decode cX12_readsRule 67 = .ok (.aload_n 0, 1) := by decide +kernel
theorem dX12_readsRule_68 : decode cX12_readsRule 68 = .ok (.getfield 348, 3) := by decide +kernel
theorem dX12_readsRule_71 : decode cX12_readsRule 71 = .ok (.aload_n 0, 1) := by decide +kernel
theorem dX12_readsRule_72 : decode cX12_readsRule 72 = .ok (.getfield 345, 3) := by decide +kernel
theorem dX12_readsRule_75 : decode cX12_readsRule 75 = .ok (.if_icmp .ge 49, 3) := by decide +kernel
theorem dX12_readsRule_78 : decode cX12_readsRule 78 = .ok (.aload_n 0, 1) := by decide +kernel
theorem dX12_readsRule_79 : decode cX12_readsRule 79 = .ok (.getfield 97, 3) := by decide +kernel
theorem dX12_readsRule_82 : decode cX12_readsRule 82 = .ok (.aload_n 0, 1) := by decide +kernel
theorem dX12_readsRule_83 : decode cX12_readsRule 83 = .ok (.getfield 348, 3) := by decide +kernel
theorem dX12_readsRule_86 : decode cX12_readsRule 86 = .ok (.iaload, 1) := by decide +kernel
theorem dX12_readsRule_87 : decode cX12_readsRule 87 = .ok (.i2l, 1) := by decide +kernel
theorem dX12_readsRule_88 : decode cX12_readsRule 88 = .ok (.ldc2_w 351, 3) := by decide +kernel
theorem dX12_readsRule_91 : decode cX12_readsRule 91 = .ok (.ldc2_w 365, 3) := by decide +kernel
theorem dX12_readsRule_94 : decode cX12_readsRule 94 = .ok (.invokestatic 152, 3) := by decide +kernel
theorem dX12_readsRule_97 : decode cX12_readsRule 97 = .ok (.ifCond .eq 27, 3) := by decide +kernel
theorem dX12_readsRule_100 : decode cX12_readsRule 100 = .ok (.aload_n 0, 1) := by decide +kernel
theorem dX12_readsRule_101 : decode cX12_readsRule 101 = .ok (.getfield 103, 3) := by decide +kernel
theorem dX12_readsRule_104 : decode cX12_readsRule 104 = .ok (.aload_n 0, 1) := by decide +kernel
theorem dX12_readsRule_105 : decode cX12_readsRule 105 = .ok (.getfield 362, 3) := by decide +kernel
theorem dX12_readsRule_108 : decode cX12_readsRule 108 = .ok (.aload_n 0, 1) := by decide +kernel
theorem dX12_readsRule_109 : decode cX12_readsRule 109 = .ok (.getfield 97, 3) := by decide +kernel
theorem dX12_readsRule_112 : decode cX12_readsRule 112 = .ok (.aload_n 0, 1) := by decide +kernel
theorem dX12_readsRule_113 : decode cX12_readsRule 113 = .ok (.getfield 348, 3) := by decide +kernel
theorem dX12_readsRule_116 : decode cX12_readsRule 116 = .ok (.iaload, 1) := by decide +kernel
theorem dX12_readsRule_117 : decode cX12_readsRule 117 = .ok (.bipush 48, 2) := by decide +kernel
theorem dX12_readsRule_119 : decode cX12_readsRule 119 = .ok (.isub, 1) := by decide +kernel
theorem dX12_readsRule_120 : decode cX12_readsRule 120 = .ok (.iastore, 1) := by decide +kernel
theorem dX12_readsRule_121 : decode cX12_readsRule 121 = .ok (.goto 5, 3) := by decide +kernel
theorem dX12_readsRule_124 : decode cX12_readsRule 124 = .ok (.iconst 0, 1) := by decide +kernel
theorem dX12_readsRule_125 : decode cX12_readsRule 125 = .ok (.ireturn, 1) := by decide +kernel
theorem dX12_readsRule_126 : decode cX12_readsRule 126 = .ok (.aload_n 0, 1) := by decide +kernel
theorem dX12_readsRule_127 : decode cX12_readsRule 127 = .ok (.dup, 1) := by decide +kernel
theorem dX12_readsRule_128 : decode cX12_readsRule 128 = .ok (.getfield 348, 3) := by decide +kernel
theorem dX12_readsRule_131 : decode cX12_readsRule 131 = .ok (.iconst 1, 1) := by decide +kernel
theorem dX12_readsRule_132 : decode cX12_readsRule 132 = .ok (.iadd, 1) := by decide +kernel
theorem dX12_readsRule_133 : decode cX12_readsRule 133 = .ok (.putfield 348, 3) := by decide +kernel
theorem dX12_readsRule_136 : decode cX12_readsRule 136 = .ok (.aload_n 0, 1) := by decide +kernel
theorem dX12_readsRule_137 : decode cX12_readsRule 137 = .ok (.bipush 58, 2) := by decide +kernel
theorem dX12_readsRule_139 : decode cX12_readsRule 139 = .ok (.invokevirtual 359, 3) := by decide +kernel
theorem dX12_readsRule_142 : decode cX12_readsRule 142 = .ok (.ifCond .ne 5, 3) := by decide +kernel
theorem dX12_readsRule_145 : decode cX12_readsRule 145 = .ok (.iconst 0, 1) := by decide +kernel
theorem dX12_readsRule_146 : decode cX12_readsRule 146 = .ok (.ireturn, 1) := by decide +kernel
theorem dX12_readsRule_147 : decode cX12_readsRule 147 = .ok (.aload_n 0, 1) := by decide +kernel
theorem dX12_readsRule_148 : decode cX12_readsRule 148 = .ok (.dup, 1) := by decide +kernel
theorem dX12_readsRule_149 : decode cX12_readsRule 149 = .ok (.getfield 348, 3) := by decide +kernel
theorem dX12_readsRule_152 : decode cX12_readsRule 152 = .ok (.iconst 1, 1) := by decide +kernel
theorem dX12_readsRule_153 : decode cX12_readsRule 153 = .ok (.iadd, 1) := by decide +kernel
theorem dX12_readsRule_154 : decode cX12_readsRule 154 = .ok (.putfield 348, 3) := by decide +kernel
theorem dX12_readsRule_157 : decode cX12_readsRule 157 = .ok (.aload_n 0, 1) := by decide +kernel
theorem dX12_readsRule_158 : decode cX12_readsRule 158 = .ok (.getfield 106, 3) := by decide +kernel
theorem dX12_readsRule_161 : decode cX12_readsRule 161 = .ok (.aload_n 0, 1) := by decide +kernel
theorem dX12_readsRule_162 : decode cX12_readsRule 162 = .ok (.getfield 362, 3) := by decide +kernel
theorem dX12_readsRule_165 : decode cX12_readsRule 165 = .ok (.aload_n 0, 1) := by decide +kernel
theorem dX12_readsRule_166 : decode cX12_readsRule 166 = .ok (.iconst 0, 1) := by decide +kernel
theorem dX12_readsRule_167 : decode cX12_readsRule 167 = .ok (.bipush 11, 2) := by decide +kernel
theorem dX12_readsRule_169 : decode cX12_readsRule 169 = .ok (.invokevirtual 367, 3) := by decide +kernel
theorem dX12_readsRule_172 : decode cX12_readsRule 172 = .ok (.iastore, 1) := by decide +kernel
theorem dX12_readsRule_173 : decode cX12_readsRule 173 = .ok (.aload_n 0, 1) := by decide +kernel
theorem dX12_readsRule_174 : decode cX12_readsRule 174 = .ok (.getfield 106, 3) := by decide +kernel
theorem dX12_readsRule_177 : decode cX12_readsRule 177 = .ok (.aload_n 0, 1) := by decide +kernel
theorem dX12_readsRule_178 : decode cX12_readsRule 178 = .ok (.getfield 362, 3) := by decide +kernel
theorem dX12_readsRule_181 : decode cX12_readsRule 181 = .ok (.iaload, 1) := by decide +kernel
theorem dX12_readsRule_182 : decode cX12_readsRule 182 = .ok (.ifCond .ge 5, 3) := by decide +kernel
theorem dX12_readsRule_185 : decode cX12_readsRule 185 = .ok (.iconst 0, 1) := by decide +kernel
theorem dX12_readsRule_186 : decode cX12_readsRule 186 = .ok (.ireturn, 1) := by decide +kernel
theorem dX12_readsRule_187 : decode cX12_readsRule 187 = .ok (.aload_n 0, 1) := by decide +kernel
theorem dX12_readsRule_188 : decode cX12_readsRule 188 = .ok (.getfield 109, 3) := by decide +kernel
theorem dX12_readsRule_191 : decode cX12_readsRule 191 = .ok (.aload_n 0, 1) := by decide +kernel
theorem dX12_readsRule_192 : decode cX12_readsRule 192 = .ok (.getfield 362, 3) := by decide +kernel
theorem dX12_readsRule_195 : decode cX12_readsRule 195 = .ok (.aload_n 0, 1) := by decide +kernel
theorem dX12_readsRule_196 : decode cX12_readsRule 196 = .ok (.getfield 106, 3) := by decide +kernel
theorem dX12_readsRule_199 : decode cX12_readsRule 199 = .ok (.aload_n 0, 1) := by decide +kernel
theorem dX12_readsRule_200 : decode cX12_readsRule 200 = .ok (.getfield 362, 3) := by decide +kernel
theorem dX12_readsRule_203 : decode cX12_readsRule 203 = .ok (.iaload, 1) := by decide +kernel
theorem dX12_readsRule_204 : decode cX12_readsRule 204 = .ok (.iastore, 1) := by decide +kernel
theorem dX12_readsRule_205 : decode cX12_readsRule 205 = .ok (.aload_n 0, 1) := by decide +kernel
theorem dX12_readsRule_206 : decode cX12_readsRule 206 = .ok (.bipush 45, 2) := by decide +kernel
theorem dX12_readsRule_208 : decode cX12_readsRule 208 = .ok (.invokevirtual 359, 3) := by decide +kernel
theorem dX12_readsRule_211 : decode cX12_readsRule 211 = .ok (.ifCond .eq 51, 3) := by decide +kernel
theorem dX12_readsRule_214 : decode cX12_readsRule 214 = .ok (.aload_n 0, 1) := by decide +kernel
theorem dX12_readsRule_215 : decode cX12_readsRule 215 = .ok (.dup, 1) := by decide +kernel
theorem dX12_readsRule_216 : decode cX12_readsRule 216 = .ok (.getfield 348, 3) := by decide +kernel
theorem dX12_readsRule_219 : decode cX12_readsRule 219 = .ok (.iconst 1, 1) := by decide +kernel
theorem dX12_readsRule_220 : decode cX12_readsRule 220 = .ok (.iadd, 1) := by decide +kernel
theorem dX12_readsRule_221 : decode cX12_readsRule 221 = .ok (.putfield 348, 3) := by decide +kernel
theorem dX12_readsRule_224 : decode cX12_readsRule 224 = .ok (.aload_n 0, 1) := by decide +kernel
theorem dX12_readsRule_225 : decode cX12_readsRule 225 = .ok (.getfield 109, 3) := by decide +kernel
theorem dX12_readsRule_228 : decode cX12_readsRule 228 = .ok (.aload_n 0, 1) := by decide +kernel
theorem dX12_readsRule_229 : decode cX12_readsRule 229 = .ok (.getfield 362, 3) := by decide +kernel
theorem dX12_readsRule_232 : decode cX12_readsRule 232 = .ok (.aload_n 0, 1) := by decide +kernel
theorem dX12_readsRule_233 : decode cX12_readsRule 233 = .ok (.aload_n 0, 1) := by decide +kernel
theorem dX12_readsRule_234 : decode cX12_readsRule 234 = .ok (.getfield 106, 3) := by decide +kernel
theorem dX12_readsRule_237 : decode cX12_readsRule 237 = .ok (.aload_n 0, 1) := by decide +kernel
theorem dX12_readsRule_238 : decode cX12_readsRule 238 = .ok (.getfield 362, 3) := by decide +kernel
theorem dX12_readsRule_241 : decode cX12_readsRule 241 = .ok (.iaload, 1) := by decide +kernel
theorem dX12_readsRule_242 : decode cX12_readsRule 242 = .ok (.bipush 11, 2) := by decide +kernel
theorem dX12_readsRule_244 : decode cX12_readsRule 244 = .ok (.invokevirtual 367, 3) := by decide +kernel
theorem dX12_readsRule_247 : decode cX12_readsRule 247 = .ok (.iastore, 1) := by decide +kernel
theorem dX12_readsRule_248 : decode cX12_readsRule 248 = .ok (.aload_n 0, 1) := by decide +kernel
theorem dX12_readsRule_249 : decode cX12_readsRule 249 = .ok (.getfield 109, 3) := by decide +kernel
theorem dX12_readsRule_252 : decode cX12_readsRule 252 = .ok (.aload_n 0, 1) := by decide +kernel
theorem dX12_readsRule_253 : decode cX12_readsRule 253 = .ok (.getfield 362, 3) := by decide +kernel
theorem dX12_readsRule_256 : decode cX12_readsRule 256 = .ok (.iaload, 1) := by decide +kernel
theorem dX12_readsRule_257 : decode cX12_readsRule 257 = .ok (.ifCond .ge 5, 3) := by decide +kernel
theorem dX12_readsRule_260 : decode cX12_readsRule 260 = .ok (.iconst 0, 1) := by decide +kernel
theorem dX12_readsRule_261 : decode cX12_readsRule 261 = .ok (.ireturn, 1) := by decide +kernel
theorem dX12_readsRule_262 : decode cX12_readsRule 262 = .ok (.aload_n 0, 1) := by decide +kernel
theorem dX12_readsRule_263 : decode cX12_readsRule 263 = .ok (.getfield 112, 3) := by decide +kernel
theorem dX12_readsRule_266 : decode cX12_readsRule 266 = .ok (.aload_n 0, 1) := by decide +kernel
theorem dX12_readsRule_267 : decode cX12_readsRule 267 = .ok (.getfield 362, 3) := by decide +kernel
theorem dX12_readsRule_270 : decode cX12_readsRule 270 = .ok (.iconst 0, 1) := by decide +kernel
theorem dX12_readsRule_271 : decode cX12_readsRule 271 = .ok (.iastore, 1) := by decide +kernel
theorem dX12_readsRule_272 : decode cX12_readsRule 272 = .ok (.aload_n 0, 1) := by decide +kernel
theorem dX12_readsRule_273 : decode cX12_readsRule 273 = .ok (.getfield 115, 3) := by decide +kernel
theorem dX12_readsRule_276 : decode cX12_readsRule 276 = .ok (.aload_n 0, 1) := by decide +kernel
theorem dX12_readsRule_277 : decode cX12_readsRule 277 = .ok (.getfield 362, 3) := by decide +kernel
theorem dX12_readsRule_280 : decode cX12_readsRule 280 = .ok (.bipush 99, 2) := by decide +kernel
theorem dX12_readsRule_282 : decode cX12_readsRule 282 = .ok (.iastore, 1) := by decide +kernel
theorem dX12_readsRule_283 : decode cX12_readsRule 283 = .ok (.aload_n 0, 1) := by decide +kernel
theorem dX12_readsRule_284 : decode cX12_readsRule 284 = .ok (.bipush 64, 2) := by decide +kernel
theorem dX12_readsRule_286 : decode cX12_readsRule 286 = .ok (.invokevirtual 359, 3) := by decide +kernel
theorem dX12_readsRule_289 : decode cX12_readsRule 289 = .ok (.ifCond .eq 118, 3) := by decide +kernel
theorem dX12_readsRule_292 : decode cX12_readsRule 292 = .ok (.aload_n 0, 1) := by decide +kernel
theorem dX12_readsRule_293 : decode cX12_readsRule 293 = .ok (.dup, 1) := by decide +kernel
theorem dX12_readsRule_294 : decode cX12_readsRule 294 = .ok (.getfield 348, 3) := by decide +kernel
theorem dX12_readsRule_297 : decode cX12_readsRule 297 = .ok (.iconst 1, 1) := by decide +kernel
theorem dX12_readsRule_298 : decode cX12_readsRule 298 = .ok (.iadd, 1) := by decide +kernel
theorem dX12_readsRule_299 : decode cX12_readsRule 299 = .ok (.putfield 348, 3) := by decide +kernel
theorem dX12_readsRule_302 : decode cX12_readsRule 302 = .ok (.aload_n 0, 1) := by decide +kernel
theorem dX12_readsRule_303 : decode cX12_readsRule 303 = .ok (.getfield 112, 3) := by decide +kernel
theorem dX12_readsRule_306 : decode cX12_readsRule 306 = .ok (.aload_n 0, 1) := by decide +kernel
theorem dX12_readsRule_307 : decode cX12_readsRule 307 = .ok (.getfield 362, 3) := by decide +kernel
theorem dX12_readsRule_310 : decode cX12_readsRule 310 = .ok (.aload_n 0, 1) := by decide +kernel
theorem dX12_readsRule_311 : decode cX12_readsRule 311 = .ok (.iconst 0, 1) := by decide +kernel
theorem dX12_readsRule_312 : decode cX12_readsRule 312 = .ok (.bipush 99, 2) := by decide +kernel
theorem dX12_readsRule_314 : decode cX12_readsRule 314 = .ok (.invokevirtual 367, 3) := by decide +kernel
theorem dX12_readsRule_317 : decode cX12_readsRule 317 = .ok (.iastore, 1) := by decide +kernel
theorem dX12_readsRule_318 : decode cX12_readsRule 318 = .ok (.aload_n 0, 1) := by decide +kernel
theorem dX12_readsRule_319 : decode cX12_readsRule 319 = .ok (.getfield 112, 3) := by decide +kernel
theorem dX12_readsRule_322 : decode cX12_readsRule 322 = .ok (.aload_n 0, 1) := by decide +kernel
theorem dX12_readsRule_323 : decode cX12_readsRule 323 = .ok (.getfield 362, 3) := by decide +kernel
theorem dX12_readsRule_326 : decode cX12_readsRule 326 = .ok (.iaload, 1) := by decide +kernel
theorem dX12_readsRule_327 : decode cX12_readsRule 327 = .ok (.ifCond .ge 5, 3) := by decide +kernel
theorem dX12_readsRule_330 : decode cX12_readsRule 330 = .ok (.iconst 0, 1) := by decide +kernel
theorem dX12_readsRule_331 : decode cX12_readsRule 331 = .ok (.ireturn, 1) := by decide +kernel
theorem dX12_readsRule_332 : decode cX12_readsRule 332 = .ok (.aload_n 0, 1) := by decide +kernel
theorem dX12_readsRule_333 : decode cX12_readsRule 333 = .ok (.getfield 115, 3) := by decide +kernel
theorem dX12_readsRule_336 : decode cX12_readsRule 336 = .ok (.aload_n 0, 1) := by decide +kernel
theorem dX12_readsRule_337 : decode cX12_readsRule 337 = .ok (.getfield 362, 3) := by decide +kernel
theorem dX12_readsRule_340 : decode cX12_readsRule 340 = .ok (.aload_n 0, 1) := by decide +kernel
theorem dX12_readsRule_341 : decode cX12_readsRule 341 = .ok (.getfield 112, 3) := by decide +kernel
theorem dX12_readsRule_344 : decode cX12_readsRule 344 = .ok (.aload_n 0, 1) := by decide +kernel
theorem dX12_readsRule_345 : decode cX12_readsRule 345 = .ok (.getfield 362, 3) := by decide +kernel
theorem dX12_readsRule_348 : decode cX12_readsRule 348 = .ok (.iaload, 1) := by decide +kernel
theorem dX12_readsRule_349 : decode cX12_readsRule 349 = .ok (.iastore, 1) := by decide +kernel
theorem dX12_readsRule_350 : decode cX12_readsRule 350 = .ok (.aload_n 0, 1) := by decide +kernel
theorem dX12_readsRule_351 : decode cX12_readsRule 351 = .ok (.bipush 45, 2) := by decide +kernel
theorem dX12_readsRule_353 : decode cX12_readsRule 353 = .ok (.invokevirtual 359, 3) := by decide +kernel
theorem dX12_readsRule_356 : decode cX12_readsRule 356 = .ok (.ifCond .eq 51, 3) := by decide +kernel
theorem dX12_readsRule_359 : decode cX12_readsRule 359 = .ok (.aload_n 0, 1) := by decide +kernel
theorem dX12_readsRule_360 : decode cX12_readsRule 360 = .ok (.dup, 1) := by decide +kernel
theorem dX12_readsRule_361 : decode cX12_readsRule 361 = .ok (.getfield 348, 3) := by decide +kernel
theorem dX12_readsRule_364 : decode cX12_readsRule 364 = .ok (.iconst 1, 1) := by decide +kernel
theorem dX12_readsRule_365 : decode cX12_readsRule 365 = .ok (.iadd, 1) := by decide +kernel
theorem dX12_readsRule_366 : decode cX12_readsRule 366 = .ok (.putfield 348, 3) := by decide +kernel
theorem dX12_readsRule_369 : decode cX12_readsRule 369 = .ok (.aload_n 0, 1) := by decide +kernel
theorem dX12_readsRule_370 : decode cX12_readsRule 370 = .ok (.getfield 115, 3) := by decide +kernel
theorem dX12_readsRule_373 : decode cX12_readsRule 373 = .ok (.aload_n 0, 1) := by decide +kernel
theorem dX12_readsRule_374 : decode cX12_readsRule 374 = .ok (.getfield 362, 3) := by decide +kernel
theorem dX12_readsRule_377 : decode cX12_readsRule 377 = .ok (.aload_n 0, 1) := by decide +kernel
theorem dX12_readsRule_378 : decode cX12_readsRule 378 = .ok (.aload_n 0, 1) := by decide +kernel
theorem dX12_readsRule_379 : decode cX12_readsRule 379 = .ok (.getfield 112, 3) := by decide +kernel
theorem dX12_readsRule_382 : decode cX12_readsRule 382 = .ok (.aload_n 0, 1) := by decide +kernel
theorem dX12_readsRule_383 : decode cX12_readsRule 383 = .ok (.getfield 362, 3) := by decide +kernel
theorem dX12_readsRule_386 : decode cX12_readsRule 386 = .ok (.iaload, 1) := by decide +kernel
theorem dX12_readsRule_387 : decode cX12_readsRule 387 = .ok (.bipush 99, 2) := by decide +kernel
theorem dX12_readsRule_389 : decode cX12_readsRule 389 = .ok (.invokevirtual 367, 3) := by decide +kernel
theorem dX12_readsRule_392 : decode cX12_readsRule 392 = .ok (.iastore, 1) := by decide +kernel
theorem dX12_readsRule_393 : decode cX12_readsRule 393 = .ok (.aload_n 0, 1) := by decide +kernel
theorem dX12_readsRule_394 : decode cX12_readsRule 394 = .ok (.getfield 115, 3) := by decide +kernel
theorem dX12_readsRule_397 : decode cX12_readsRule 397 = .ok (.aload_n 0, 1) := by decide +kernel
theorem dX12_readsRule_398 : decode cX12_readsRule 398 = .ok (.getfield 362, 3) := by decide +kernel
theorem dX12_readsRule_401 : decode cX12_readsRule 401 = .ok (.iaload, 1) := by decide +kernel
theorem dX12_readsRule_402 : decode cX12_readsRule 402 = .ok (.ifCond .ge 5, 3) := by decide +kernel
theorem dX12_readsRule_405 : decode cX12_readsRule 405 = .ok (.iconst 0, 1) := by decide +kernel
theorem dX12_readsRule_406 : decode cX12_readsRule 406 = .ok (.ireturn, 1) := by decide +kernel
theorem dX12_readsRule_407 : decode cX12_readsRule 407 = .ok (.aload_n 0, 1) := by decide +kernel
theorem dX12_readsRule_408 : decode cX12_readsRule 408 = .ok (.dup, 1) := by decide +kernel
theorem dX12_readsRule_409 : decode cX12_readsRule 409 = .ok (.getfield 362, 3) := by decide +kernel
theorem dX12_readsRule_412 : decode cX12_readsRule 412 = .ok (.iconst 1, 1) := by decide +kernel
theorem dX12_readsRule_413 : decode cX12_readsRule 413 = .ok (.iadd, 1) := by decide +kernel
theorem dX12_readsRule_414 : decode cX12_readsRule 414 = .ok (.putfield 362, 3) := by decide +kernel
theorem dX12_readsRule_417 : decode cX12_readsRule 417 = .ok (.iconst 1, 1) := by decide +kernel
theorem dX12_readsRule_418 : decode cX12_readsRule 418 = .ok (.ireturn, 1) := by decide +kernel
theorem dX12_reads_0 : decode cX12_reads 0 = .ok (.aload_n 0, 1) := by decide +kernel
theorem dX12_reads_1 : decode cX12_reads 1 = .ok (.iconst 0, 1) := by decide +kernel
theorem dX12_reads_2 : decode cX12_reads 2 = .ok (.putfield 348, 3) := by decide +kernel
theorem dX12_reads_5 : decode cX12_reads 5 = .ok (.aload_n 0, 1) := by decide +kernel
theorem dX12_reads_6 : decode cX12_reads 6 = .ok (.iconst 0, 1) := by decide +kernel
theorem dX12_reads_7 : decode cX12_reads 7 = .ok (.putfield 362, 3) := by decide +kernel
theorem dX12_reads_10 : decode cX12_reads 10 = .ok (.iconst 1, 1) := by decide +kernel
theorem dX12_reads_11 : decode cX12_reads 11 = .ok (.istore_n 1, 1) := by decide +kernel
theorem dX12_reads_12 : decode cX12_reads 12 = .ok (.iload_n 1, 1) := by decide +kernel
theorem dX12_reads_13 : decode cX12_reads 13 = .ok (.ifCond .eq 63, 3) := by decide +kernel
theorem dX12_reads_16 : decode cX12_reads 16 = .ok (.aload_n 0, 1) := by decide +kernel
theorem dX12_reads_17 : decode cX12_reads 17 = .ok (.invokevirtual 370, 3) := by decide +kernel
theorem dX12_reads_20 : decode cX12_reads 20 = .ok (.ifCond .ne 8, 3) := by decide +kernel
theorem dX12_reads_23 : decode cX12_reads 23 = .ok (.aload_n 0, 1) := by decide +kernel
theorem dX12_reads_24 : decode cX12_reads 24 = .ok (.getfield 348, 3) := by decide +kernel
theorem dX12_reads_27 : decode cX12_reads 27 = .ok (.ireturn, 1) := by decide +kernel
theorem dX12_reads_28 : decode cX12_reads 28 = .ok (.aload_n 0, 1) := by decide +kernel
theorem dX12_reads_29 : decode cX12_reads 29 = .ok (.getfield 348, 3) := by decide +kernel
theorem dX12_reads_32 : decode cX12_reads 32 = .ok (.aload_n 0, 1) := by decide +kernel
theorem dX12_reads_33 : decode cX12_reads 33 = .ok (.getfield 345, 3) := by decide +kernel
theorem dX12_reads_36 : decode cX12_reads 36 = .ok (.if_icmp .ge 7, 3) := by decide +kernel
theorem dX12_reads_39 : decode cX12_reads 39 = .ok (.iconst 1, 1) := by decide +kernel
theorem dX12_reads_40 : decode cX12_reads 40 = .ok (.goto 4, 3) := by decide +kernel
theorem dX12_reads_43 : decode cX12_reads 43 = .ok (.iconst 0, 1) := by decide +kernel
theorem dX12_reads_44 : decode cX12_reads 44 = .ok (.istore_n 1, 1) := by decide +kernel
theorem dX12_reads_45 : decode cX12_reads 45 = .ok (.iload_n 1, 1) := by decide +kernel
theorem dX12_reads_46 : decode cX12_reads 46 = .ok (.ifCond .eq (-34), 3) := by decide +kernel
theorem dX12_reads_49 : decode cX12_reads 49 = .ok (.aload_n 0, 1) := by decide +kernel
theorem dX12_reads_50 : decode cX12_reads 50 = .ok (.bipush 59, 2) := by decide +kernel
theorem dX12_reads_52 : decode cX12_reads 52 = .ok (.invokevirtual 359, 3) := by decide +kernel
theorem dX12_reads_55 : decode cX12_reads 55 = .ok (.ifCond .ne 8, 3) := by decide +kernel
theorem dX12_reads_58 : decode cX12_reads 58 = .ok (.aload_n 0, 1) := by decide +kernel
theorem dX12_reads_59 : decode cX12_reads 59 = .ok (.getfield 348, 3) := by decide +kernel
theorem dX12_reads_62 : decode cX12_reads 62 = .ok (.ireturn, 1) := by decide +kernel
theorem dX12_reads_63 : decode cX12_reads 63 = .ok (.aload_n 0, 1) := by decide +kernel
theorem dX12_reads_64 : decode cX12_reads 64 = .ok (.dup, 1) := by decide +kernel
theorem dX12_reads_65 : decode cX12_reads 65 = .ok (.getfield 348, 3) := by decide +kernel
theorem dX12_reads_68 : decode cX12_reads 68 = .ok (.iconst 1, 1) := by decide +kernel
theorem dX12_reads_69 : decode cX12_reads 69 = .ok (.iadd, 1) := by decide +kernel
theorem dX12_reads_70 : decode cX12_reads 70 = .ok (.putfield 348, 3) := by decide +kernel
theorem dX12_reads_73 : decode cX12_reads 73 = .ok (.goto (-61), 3) := by decide +kernel
theorem dX12_reads_76 : decode cX12_reads 76 = .ok (.iconst (-1), 1) := by decide +kernel
theorem dX12_reads_77 : decode cX12_reads 77 = .ok (.ireturn, 1) := by decide +kernel
theorem dX12_fault_0 : decode cX12_fault 0 = .ok (.aload_n 0, 1) := by decide +kernel
theorem dX12_fault_1 : decode cX12_fault 1 = .ok (.invokevirtual 373, 3) := by decide +kernel
theorem dX12_fault_4 : decode cX12_fault 4 = .ok (.ireturn, 1) := by decide +kernel
theorem dX12_ruleOf_0 : decode cX12_ruleOf 0 = .ok (.iconst (-1), 1) := by decide +kernel
theorem dX12_ruleOf_1 : decode cX12_ruleOf 1 = .ok (.istore 4, 2) := by decide +kernel
theorem dX12_ruleOf_3 : decode cX12_ruleOf 3 = .ok (.aload_n 0, 1) := by decide +kernel
theorem dX12_ruleOf_4 : decode cX12_ruleOf 4 = .ok (.invokevirtual 373, 3) := by decide +kernel
theorem dX12_ruleOf_7 : decode cX12_ruleOf 7 = .ok (.iconst (-1), 1) := by decide +kernel
theorem dX12_ruleOf_8 : decode cX12_ruleOf 8 = .ok (.if_icmp .ne 112, 3) := by decide +kernel
theorem dX12_ruleOf_11 : decode cX12_ruleOf 11 = .ok (.iconst 0, 1) := by decide +kernel
theorem dX12_ruleOf_12 : decode cX12_ruleOf 12 = .ok (.istore 5, 2) := by decide +kernel
theorem dX12_ruleOf_14 : decode cX12_ruleOf 14 = .ok (.iload 5, 2) := by decide +kernel
theorem dX12_ruleOf_16 : decode cX12_ruleOf 16 = .ok (.aload_n 0, 1) := by decide +kernel
theorem dX12_ruleOf_17 : decode cX12_ruleOf 17 = .ok (.getfield 362, 3) := by decide +kernel
theorem dX12_ruleOf_20 : decode cX12_ruleOf 20 = .ok (.if_icmp .ge 100, 3) := by decide +kernel
theorem dX12_ruleOf_23 : decode cX12_ruleOf 23 = .ok (.aload_n 0, 1) := by decide +kernel
theorem dX12_ruleOf_24 : decode cX12_ruleOf 24 = .ok (.getfield 103, 3) := by decide +kernel
theorem dX12_ruleOf_27 : decode cX12_ruleOf 27 = .ok (.iload 5, 2) := by decide +kernel
theorem dX12_ruleOf_29 : decode cX12_ruleOf 29 = .ok (.iaload, 1) := by decide +kernel
theorem dX12_ruleOf_30 : decode cX12_ruleOf 30 = .ok (.iconst (-1), 1) := by decide +kernel
theorem dX12_ruleOf_31 : decode cX12_ruleOf 31 = .ok (.if_icmp .eq 14, 3) := by decide +kernel
theorem dX12_ruleOf_34 : decode cX12_ruleOf 34 = .ok (.aload_n 0, 1) := by decide +kernel
theorem dX12_ruleOf_35 : decode cX12_ruleOf 35 = .ok (.getfield 103, 3) := by decide +kernel
theorem dX12_ruleOf_38 : decode cX12_ruleOf 38 = .ok (.iload 5, 2) := by decide +kernel
theorem dX12_ruleOf_40 : decode cX12_ruleOf 40 = .ok (.iaload, 1) := by decide +kernel
theorem dX12_ruleOf_41 : decode cX12_ruleOf 41 = .ok (.iload_n 1, 1) := by decide +kernel
theorem dX12_ruleOf_42 : decode cX12_ruleOf 42 = .ok (.if_icmp .ne 55, 3) := by decide +kernel
theorem dX12_ruleOf_45 : decode cX12_ruleOf 45 = .ok (.iload_n 2, 1) := by decide +kernel
theorem dX12_ruleOf_46 : decode cX12_ruleOf 46 = .ok (.i2l, 1) := by decide +kernel
theorem dX12_ruleOf_47 : decode cX12_ruleOf 47 = .ok (.aload_n 0, 1) := by decide +kernel
theorem dX12_ruleOf_48 : decode cX12_ruleOf 48 = .ok (.getfield 106, 3) := by decide +kernel
theorem dX12_ruleOf_51 : decode cX12_ruleOf 51 = .ok (.iload 5, 2) := by decide +kernel
theorem dX12_ruleOf_53 : decode cX12_ruleOf 53 = .ok (.iaload, 1) := by decide +kernel
theorem dX12_ruleOf_54 : decode cX12_ruleOf 54 = .ok (.i2l, 1) := by decide +kernel
theorem dX12_ruleOf_55 : decode cX12_ruleOf 55 = .ok (.aload_n 0, 1) := by decide +kernel
theorem dX12_ruleOf_56 : decode cX12_ruleOf 56 = .ok (.getfield 109, 3) := by decide +kernel
theorem dX12_ruleOf_59 : decode cX12_ruleOf 59 = .ok (.iload 5, 2) := by decide +kernel
theorem dX12_ruleOf_61 : decode cX12_ruleOf 61 = .ok (.iaload, 1) := by decide +kernel
theorem dX12_ruleOf_62 : decode cX12_ruleOf 62 = .ok (.i2l, 1) := by decide +kernel
theorem dX12_ruleOf_63 : decode cX12_ruleOf 63 = .ok (.invokestatic 152, 3) := by decide +kernel
theorem dX12_ruleOf_66 : decode cX12_ruleOf 66 = .ok (.ifCond .eq 31, 3) := by decide +kernel
theorem dX12_ruleOf_69 : decode cX12_ruleOf 69 = .ok (.iload_n 3, 1) := by decide +kernel
theorem dX12_ruleOf_70 : decode cX12_ruleOf 70 = .ok (.i2l, 1) := by decide +kernel
theorem dX12_ruleOf_71 : decode cX12_ruleOf 71 = .ok (.aload_n 0, 1) := by decide +kernel
theorem dX12_ruleOf_72 : decode cX12_ruleOf 72 = .ok (.getfield 112, 3) := by decide +kernel
theorem dX12_ruleOf_75 : decode cX12_ruleOf 75 = .ok (.iload 5, 2) := by decide +kernel
theorem dX12_ruleOf_77 : decode cX12_ruleOf 77 = .ok (.iaload, 1) := by decide +kernel
theorem dX12_ruleOf_78 : decode cX12_ruleOf 78 = .ok (.i2l, 1) := by decide +kernel
theorem dX12_ruleOf_79 : decode cX12_ruleOf 79 = .ok (.aload_n 0, 1) := by decide +kernel
theorem dX12_ruleOf_80 : decode cX12_ruleOf 80 = .ok (.getfield 115, 3) := by decide +kernel
theorem dX12_ruleOf_83 : decode cX12_ruleOf 83 = .ok (.iload 5, 2) := by decide +kernel
theorem dX12_ruleOf_85 : decode cX12_ruleOf 85 = .ok (.iaload, 1) := by decide +kernel
theorem dX12_ruleOf_86 : decode cX12_ruleOf 86 = .ok (.i2l, 1) := by decide +kernel
theorem dX12_ruleOf_87 : decode cX12_ruleOf 87 = .ok (.invokestatic 152, 3) := by decide +kernel
theorem dX12_ruleOf_90 : decode cX12_ruleOf 90 = .ok (.ifCond .eq 7, 3) := by decide +kernel
theorem dX12_ruleOf_93 : decode cX12_ruleOf 93 = .ok (.iconst 1, 1) := by decide +kernel
theorem dX12_ruleOf_94 : decode cX12_ruleOf 94 = .ok (.goto 4, 3) := by decide +kernel
theorem dX12_ruleOf_97 : decode cX12_ruleOf 97 = .ok (.iconst 0, 1) := by decide +kernel
theorem dX12_ruleOf_98 : decode cX12_ruleOf 98 = .ok (.istore 6, 2) := by decide +kernel
theorem dX12_ruleOf_100 : decode cX12_ruleOf 100 = .ok (.iload 6, 2) := by decide +kernel
theorem dX12_ruleOf_102 : decode cX12_ruleOf 102 = .ok (.ifCond .eq 8, 3) := by decide +kernel
theorem dX12_ruleOf_105 : decode cX12_ruleOf 105 = .ok (.iload 5, 2) := by decide +kernel
theorem dX12_ruleOf_107 : decode cX12_ruleOf 107 = .ok (.goto 5, 3) := by decide +kernel
theorem dX12_ruleOf_110 : decode cX12_ruleOf 110 = .ok (.iload 4, 2) := by decide +kernel
theorem dX12_ruleOf_112 : decode cX12_ruleOf 112 = .ok (.istore 4, 2) := by decide +kernel
theorem dX12_ruleOf_114 : decode cX12_ruleOf 114 = .ok (.iinc 5 1, 3) := by decide +kernel
theorem dX12_ruleOf_117 : decode cX12_ruleOf 117 = .ok (.goto (-103), 3) := by decide +kernel
theorem dX12_ruleOf_120 : decode cX12_ruleOf 120 = .ok (.iload 4, 2) := by decide +kernel
theorem dX12_ruleOf_122 : decode cX12_ruleOf 122 = .ok (.ireturn, 1) := by decide +kernel
theorem dX12_isAsked_0 : decode cX12_isAsked 0 = .ok (.iload_n 0, 1) := by decide +kernel
theorem dX12_isAsked_1 : decode cX12_isAsked 1 = .ok (.i2l, 1) := by decide +kernel
theorem dX12_isAsked_2 : decode cX12_isAsked 2 = .ok (.lconst 0, 1) := by decide +kernel
theorem dX12_isAsked_3 : decode cX12_isAsked 3 = .ok (.ldc2_w 150, 3) := by decide +kernel
theorem dX12_isAsked_6 : decode cX12_isAsked 6 = .ok (.invokestatic 152, 3) := by decide +kernel
theorem dX12_isAsked_9 : decode cX12_isAsked 9 = .ok (.ifCond .eq 31, 3) := by decide +kernel
theorem dX12_isAsked_12 : decode cX12_isAsked 12 = .ok (.iload_n 1, 1) := by decide +kernel
theorem dX12_isAsked_13 : decode cX12_isAsked 13 = .ok (.i2l, 1) := by decide +kernel
theorem dX12_isAsked_14 : decode cX12_isAsked 14 = .ok (.lconst 0, 1) := by decide +kernel
theorem dX12_isAsked_15 : decode cX12_isAsked 15 = .ok (.ldc2_w 247, 3) := by decide +kernel
theorem dX12_isAsked_18 : decode cX12_isAsked 18 = .ok (.invokestatic 152, 3) := by decide +kernel
theorem dX12_isAsked_21 : decode cX12_isAsked 21 = .ok (.ifCond .eq 19, 3) := by decide +kernel
theorem dX12_isAsked_24 : decode cX12_isAsked 24 = .ok (.iload_n 2, 1) := by decide +kernel
theorem dX12_isAsked_25 : decode cX12_isAsked 25 = .ok (.i2l, 1) := by decide +kernel
theorem dX12_isAsked_26 : decode cX12_isAsked 26 = .ok (.lconst 0, 1) := by decide +kernel
theorem dX12_isAsked_27 : decode cX12_isAsked 27 = .ok (.ldc2_w 377, 3) := by decide +kernel
theorem dX12_isAsked_30 : decode cX12_isAsked 30 = .ok (.invokestatic 152, 3) := by decide +kernel
theorem dX12_isAsked_33 : decode cX12_isAsked 33 = .ok (.ifCond .eq 7, 3) := by decide +kernel
theorem dX12_isAsked_36 : decode cX12_isAsked 36 = .ok (.iconst 1, 1) := by decide +kernel
theorem dX12_isAsked_37 : decode cX12_isAsked 37 = .ok (.goto 4, 3) := by decide +kernel
theorem dX12_isAsked_40 : decode cX12_isAsked 40 = .ok (.iconst 0, 1) := by decide +kernel
theorem dX12_isAsked_41 : decode cX12_isAsked 41 = .ok (.ireturn, 1) := by decide +kernel
theorem dX12_may_0 : decode cX12_may 0 = .ok (.iload_n 1, 1) := by decide +kernel
theorem dX12_may_1 : decode cX12_may 1 = .ok (.iload_n 2, 1) := by decide +kernel
theorem dX12_may_2 : decode cX12_may 2 = .ok (.iload_n 3, 1) := by decide +kernel
theorem dX12_may_3 : decode cX12_may 3 = .ok (.invokestatic 379, 3) := by decide +kernel
theorem dX12_may_6 : decode cX12_may 6 = .ok (.ifCond .ne 6, 3) := by decide +kernel
theorem dX12_may_9 : decode cX12_may 9 = .ok (.bipush (-2), 2) := by decide +kernel
theorem dX12_may_11 : decode cX12_may 11 = .ok (.ireturn, 1) := by decide +kernel
theorem dX12_may_12 : decode cX12_may 12 = .ok (.aload_n 0, 1) := by decide +kernel
theorem dX12_may_13 : decode cX12_may 13 = .ok (.iload_n 1, 1) := by decide +kernel
theorem dX12_may_14 : decode cX12_may 14 = .ok (.iload_n 2, 1) := by decide +kernel
theorem dX12_may_15 : decode cX12_may 15 = .ok (.iload_n 3, 1) := by decide +kernel
theorem dX12_may_16 : decode cX12_may 16 = .ok (.invokevirtual 382, 3) := by decide +kernel
theorem dX12_may_19 : decode cX12_may 19 = .ok (.istore 4, 2) := by decide +kernel
theorem dX12_may_21 : decode cX12_may 21 = .ok (.iload 4, 2) := by decide +kernel
theorem dX12_may_23 : decode cX12_may 23 = .ok (.iconst (-1), 1) := by decide +kernel
theorem dX12_may_24 : decode cX12_may 24 = .ok (.if_icmp .eq 17, 3) := by decide +kernel
theorem dX12_may_27 : decode cX12_may 27 = .ok (.aload_n 0, 1) := by decide +kernel
theorem dX12_may_28 : decode cX12_may 28 = .ok (.getfield 100, 3) := by decide +kernel
theorem dX12_may_31 : decode cX12_may 31 = .ok (.iload 4, 2) := by decide +kernel
theorem dX12_may_33 : decode cX12_may 33 = .ok (.baload, 1) := by decide +kernel
theorem dX12_may_34 : decode cX12_may 34 = .ok (.ifCond .eq 7, 3) := by decide +kernel
theorem dX12_may_37 : decode cX12_may 37 = .ok (.iconst 1, 1) := by decide +kernel
theorem dX12_may_38 : decode cX12_may 38 = .ok (.goto 4, 3) := by decide +kernel
theorem dX12_may_41 : decode cX12_may 41 = .ok (.iconst 0, 1) := by decide +kernel
theorem dX12_may_42 : decode cX12_may 42 = .ok (.ireturn, 1) := by decide +kernel
theorem dX12_rule_0 : decode cX12_rule 0 = .ok (.iload_n 1, 1) := by decide +kernel
theorem dX12_rule_1 : decode cX12_rule 1 = .ok (.iload_n 2, 1) := by decide +kernel
theorem dX12_rule_2 : decode cX12_rule 2 = .ok (.iload_n 3, 1) := by decide +kernel
theorem dX12_rule_3 : decode cX12_rule 3 = .ok (.invokestatic 379, 3) := by decide +kernel
theorem dX12_rule_6 : decode cX12_rule 6 = .ok (.ifCond .eq 13, 3) := by decide +kernel
theorem dX12_rule_9 : decode cX12_rule 9 = .ok (.aload_n 0, 1) := by decide +kernel
theorem dX12_rule_10 : decode cX12_rule 10 = .ok (.iload_n 1, 1) := by decide +kernel
theorem dX12_rule_11 : decode cX12_rule 11 = .ok (.iload_n 2, 1) := by decide +kernel
theorem dX12_rule_12 : decode cX12_rule 12 = .ok (.iload_n 3, 1) := by decide +kernel
theorem dX12_rule_13 : decode cX12_rule 13 = .ok (.invokevirtual 382, 3) := by decide +kernel
theorem dX12_rule_16 : decode cX12_rule 16 = .ok (.goto 5, 3) := by decide +kernel
theorem dX12_rule_19 : decode cX12_rule 19 = .ok (.bipush (-2), 2) := by decide +kernel
theorem dX12_rule_21 : decode cX12_rule 21 = .ok (.ireturn, 1) := by decide +kernel
theorem dX12_box_0 : decode cX12_box 0 = .ok (.aload_n 0, 1) := by decide +kernel
theorem dX12_box_1 : decode cX12_box 1 = .ok (.iload_n 1, 1) := by decide +kernel
theorem dX12_box_2 : decode cX12_box 2 = .ok (.invokevirtual 191, 3) := by decide +kernel
theorem dX12_box_5 : decode cX12_box 5 = .ok (.ifCond .ne 6, 3) := by decide +kernel
theorem dX12_box_8 : decode cX12_box 8 = .ok (.bipush (-2), 2) := by decide +kernel
theorem dX12_box_10 : decode cX12_box 10 = .ok (.ireturn, 1) := by decide +kernel
theorem dX12_box_11 : decode cX12_box 11 = .ok (.aload_n 0, 1) := by decide +kernel
theorem dX12_box_12 : decode cX12_box 12 = .ok (.getfield 179, 3) := by decide +kernel
theorem dX12_box_15 : decode cX12_box 15 = .ok (.bipush 8, 2) := by decide +kernel
theorem dX12_box_17 : decode cX12_box 17 = .ok (.if_icmp .ne 6, 3) := by decide +kernel
theorem dX12_box_20 : decode cX12_box 20 = .ok (.bipush (-4), 2) := by decide +kernel
theorem dX12_box_22 : decode cX12_box 22 = .ok (.ireturn, 1) := by decide +kernel
theorem dX12_box_23 : decode cX12_box 23 = .ok (.aload_n 0, 1) := by decide +kernel
theorem dX12_box_24 : decode cX12_box 24 = .ok (.getfield 118, 3) := by decide +kernel
theorem dX12_box_27 : decode cX12_box 27 = .ok (.aload_n 0, 1) := by decide +kernel
theorem dX12_box_28 : decode cX12_box 28 = .ok (.getfield 179, 3) := by decide +kernel
theorem dX12_box_31 : decode cX12_box 31 = .ok (.iload_n 1, 1) := by decide +kernel
theorem dX12_box_32 : decode cX12_box 32 = .ok (.iastore, 1) := by decide +kernel
theorem dX12_box_33 : decode cX12_box 33 = .ok (.aload_n 0, 1) := by decide +kernel
theorem dX12_box_34 : decode cX12_box 34 = .ok (.dup, 1) := by decide +kernel
theorem dX12_box_35 : decode cX12_box 35 = .ok (.getfield 179, 3) := by decide +kernel
theorem dX12_box_38 : decode cX12_box 38 = .ok (.iconst 1, 1) := by decide +kernel
theorem dX12_box_39 : decode cX12_box 39 = .ok (.iadd, 1) := by decide +kernel
theorem dX12_box_40 : decode cX12_box 40 = .ok (.putfield 179, 3) := by decide +kernel
theorem dX12_box_43 : decode cX12_box 43 = .ok (.aload_n 0, 1) := by decide +kernel
theorem dX12_box_44 : decode cX12_box 44 = .ok (.getfield 179, 3) := by decide +kernel
theorem dX12_box_47 : decode cX12_box 47 = .ok (.iconst 1, 1) := by decide +kernel
theorem dX12_box_48 : decode cX12_box 48 = .ok (.isub, 1) := by decide +kernel
theorem dX12_box_49 : decode cX12_box 49 = .ok (.ireturn, 1) := by decide +kernel
theorem dX12_log_0 : decode cX12_log 0 = .ok (.iload_n 1, 1) := by decide +kernel
theorem dX12_log_1 : decode cX12_log 1 = .ok (.i2l, 1) := by decide +kernel
theorem dX12_log_2 : decode cX12_log 2 = .ok (.lconst 0, 1) := by decide +kernel
theorem dX12_log_3 : decode cX12_log 3 = .ok (.aload_n 0, 1) := by decide +kernel
theorem dX12_log_4 : decode cX12_log 4 = .ok (.getfield 179, 3) := by decide +kernel
theorem dX12_log_7 : decode cX12_log 7 = .ok (.iconst 1, 1) := by decide +kernel
theorem dX12_log_8 : decode cX12_log 8 = .ok (.isub, 1) := by decide +kernel
theorem dX12_log_9 : decode cX12_log 9 = .ok (.i2l, 1) := by decide +kernel
theorem dX12_log_10 : decode cX12_log 10 = .ok (.invokestatic 152, 3) := by decide +kernel
theorem dX12_log_13 : decode cX12_log 13 = .ok (.ifCond .eq 17, 3) := by decide +kernel
theorem dX12_log_16 : decode cX12_log 16 = .ok (.iload_n 2, 1) := by decide +kernel
theorem dX12_log_17 : decode cX12_log 17 = .ok (.i2l, 1) := by decide +kernel
theorem dX12_log_18 : decode cX12_log 18 = .ok (.ldc2_w 249, 3) := by decide +kernel
theorem dX12_log_21 : decode cX12_log 21 = .ok (.ldc2_w 385, 3) := by decide +kernel
theorem dX12_log_24 : decode cX12_log 24 = .ok (.invokestatic 152, 3) := by decide +kernel
theorem dX12_log_27 : decode cX12_log 27 = .ok (.ifCond .ne 6, 3) := by decide +kernel
theorem dX12_log_30 : decode cX12_log 30 = .ok (.bipush (-3), 2) := by decide +kernel
theorem dX12_log_32 : decode cX12_log 32 = .ok (.ireturn, 1) := by decide +kernel
theorem dX12_log_33 : decode cX12_log 33 = .ok (.aload_n 0, 1) := by decide +kernel
theorem dX12_log_34 : decode cX12_log 34 = .ok (.getfield 121, 3) := by decide +kernel
theorem dX12_log_37 : decode cX12_log 37 = .ok (.iload_n 1, 1) := by decide +kernel
theorem dX12_log_38 : decode cX12_log 38 = .ok (.iaload, 1) := by decide +kernel
theorem dX12_log_39 : decode cX12_log 39 = .ok (.istore_n 3, 1) := by decide +kernel
theorem dX12_log_40 : decode cX12_log 40 = .ok (.aload_n 0, 1) := by decide +kernel
theorem dX12_log_41 : decode cX12_log 41 = .ok (.getfield 121, 3) := by decide +kernel
theorem dX12_log_44 : decode cX12_log 44 = .ok (.iload_n 1, 1) := by decide +kernel
theorem dX12_log_45 : decode cX12_log 45 = .ok (.iload_n 2, 1) := by decide +kernel
theorem dX12_log_46 : decode cX12_log 46 = .ok (.iastore, 1) := by decide +kernel
theorem dX12_log_47 : decode cX12_log 47 = .ok (.iload_n 3, 1) := by decide +kernel
theorem dX12_log_48 : decode cX12_log 48 = .ok (.ireturn, 1) := by decide +kernel
theorem dX12_hear_0 : decode cX12_hear 0 = .ok (.aload_n 0, 1) := by decide +kernel
theorem dX12_hear_1 : decode cX12_hear 1 = .ok (.iload_n 1, 1) := by decide +kernel
theorem dX12_hear_2 : decode cX12_hear 2 = .ok (.invokevirtual 237, 3) := by decide +kernel
theorem dX12_hear_5 : decode cX12_hear 5 = .ok (.ifCond .ne 6, 3) := by decide +kernel
theorem dX12_hear_8 : decode cX12_hear 8 = .ok (.bipush (-2), 2) := by decide +kernel
theorem dX12_hear_10 : decode cX12_hear 10 = .ok (.ireturn, 1) := by decide +kernel
theorem dX12_hear_11 : decode cX12_hear 11 = .ok (.iconst 0, 1) := by decide +kernel
theorem dX12_hear_12 : decode cX12_hear 12 = .ok (.istore_n 2, 1) := by decide +kernel
theorem dX12_hear_13 : decode cX12_hear 13 = .ok (.iload_n 2, 1) := by decide +kernel
theorem dX12_hear_14 : decode cX12_hear 14 = .ok (.aload_n 0, 1) := by decide +kernel
theorem dX12_hear_15 : decode cX12_hear 15 = .ok (.getfield 179, 3) := by decide +kernel
theorem dX12_hear_18 : decode cX12_hear 18 = .ok (.if_icmp .ge 27, 3) := by decide +kernel
theorem dX12_hear_21 : decode cX12_hear 21 = .ok (.aload_n 0, 1) := by decide +kernel
theorem dX12_hear_22 : decode cX12_hear 22 = .ok (.getfield 121, 3) := by decide +kernel
theorem dX12_hear_25 : decode cX12_hear 25 = .ok (.iload_n 2, 1) := by decide +kernel
theorem dX12_hear_26 : decode cX12_hear 26 = .ok (.aload_n 0, 1) := by decide +kernel
theorem dX12_hear_27 : decode cX12_hear 27 = .ok (.iload_n 1, 1) := by decide +kernel
theorem dX12_hear_28 : decode cX12_hear 28 = .ok (.aload_n 0, 1) := by decide +kernel
theorem dX12_hear_29 : decode cX12_hear 29 = .ok (.getfield 118, 3) := by decide +kernel
theorem dX12_hear_32 : decode cX12_hear 32 = .ok (.iload_n 2, 1) := by decide +kernel
theorem dX12_hear_33 : decode cX12_hear 33 = .ok (.iaload, 1) := by decide +kernel
theorem dX12_hear_34 : decode cX12_hear 34 = .ok (.iconst 0, 1) := by decide +kernel
theorem dX12_hear_35 : decode cX12_hear 35 = .ok (.invokevirtual 251, 3) := by decide +kernel
theorem dX12_hear_38 : decode cX12_hear 38 = .ok (.iastore, 1) := by decide +kernel
theorem dX12_hear_39 : decode cX12_hear 39 = .ok (.iinc 2 1, 3) := by decide +kernel
theorem dX12_hear_42 : decode cX12_hear 42 = .ok (.goto (-29), 3) := by decide +kernel
theorem dX12_hear_45 : decode cX12_hear 45 = .ok (.aload_n 0, 1) := by decide +kernel
theorem dX12_hear_46 : decode cX12_hear 46 = .ok (.getfield 179, 3) := by decide +kernel
theorem dX12_hear_49 : decode cX12_hear 49 = .ok (.ireturn, 1) := by decide +kernel
theorem dX12_agrees_0 : decode cX12_agrees 0 = .ok (.iconst 1, 1) := by decide +kernel
theorem dX12_agrees_1 : decode cX12_agrees 1 = .ok (.istore 4, 2) := by decide +kernel
theorem dX12_agrees_3 : decode cX12_agrees 3 = .ok (.iconst 0, 1) := by decide +kernel
theorem dX12_agrees_4 : decode cX12_agrees 4 = .ok (.istore 5, 2) := by decide +kernel
theorem dX12_agrees_6 : decode cX12_agrees 6 = .ok (.iload 5, 2) := by decide +kernel
theorem dX12_agrees_8 : decode cX12_agrees 8 = .ok (.aload_n 0, 1) := by decide +kernel
theorem dX12_agrees_9 : decode cX12_agrees 9 = .ok (.getfield 179, 3) := by decide +kernel
theorem dX12_agrees_12 : decode cX12_agrees 12 = .ok (.if_icmp .ge 117, 3) := by decide +kernel
theorem dX12_agrees_15 : decode cX12_agrees 15 = .ok (.iload 4, 2) := by decide +kernel
theorem dX12_agrees_17 : decode cX12_agrees 17 = .ok (.ifCond .eq 112, 3) := by decide +kernel
theorem dX12_agrees_20 : decode cX12_agrees 20 = .ok (.aload_n 0, 1) := by decide +kernel
theorem dX12_agrees_21 : decode cX12_agrees 21 = .ok (.getfield 121, 3) := by decide +kernel
theorem dX12_agrees_24 : decode cX12_agrees 24 = .ok (.iload 5, 2) := by decide +kernel
theorem dX12_agrees_26 : decode cX12_agrees 26 = .ok (.iaload, 1) := by decide +kernel
theorem dX12_agrees_27 : decode cX12_agrees 27 = .ok (.iconst (-1), 1) := by decide +kernel
theorem dX12_agrees_28 : decode cX12_agrees 28 = .ok (.if_icmp .eq 95, 3) := by decide +kernel
theorem dX12_agrees_31 : decode cX12_agrees 31 = .ok (.ldc2_w 257, 3) := by decide +kernel
theorem dX12_agrees_34 : decode cX12_agrees 34 = .ok (.iload_n 2, 1) := by decide +kernel
theorem dX12_agrees_35 : decode cX12_agrees 35 = .ok (.i2l, 1) := by decide +kernel
theorem dX12_agrees_36 : decode cX12_agrees 36 = .ok (.lmul, 1) := by decide +kernel
theorem dX12_agrees_37 : decode cX12_agrees 37 = .ok (.aload_n 0, 1) := by decide +kernel
theorem dX12_agrees_38 : decode cX12_agrees 38 = .ok (.iload_n 1, 1) := by decide +kernel
theorem dX12_agrees_39 : decode cX12_agrees 39 = .ok (.iconst 0, 1) := by decide +kernel
theorem dX12_agrees_40 : decode cX12_agrees 40 = .ok (.aload_n 0, 1) := by decide +kernel
theorem dX12_agrees_41 : decode cX12_agrees 41 = .ok (.getfield 118, 3) := by decide +kernel
theorem dX12_agrees_44 : decode cX12_agrees 44 = .ok (.iload 5, 2) := by decide +kernel
theorem dX12_agrees_46 : decode cX12_agrees 46 = .ok (.iaload, 1) := by decide +kernel
theorem dX12_agrees_47 : decode cX12_agrees 47 = .ok (.iconst 0, 1) := by decide +kernel
theorem dX12_agrees_48 : decode cX12_agrees 48 = .ok (.iconst 0, 1) := by decide +kernel
theorem dX12_agrees_49 : decode cX12_agrees 49 = .ok (.invokevirtual 220, 3) := by decide +kernel
theorem dX12_agrees_52 : decode cX12_agrees 52 = .ok (.i2l, 1) := by decide +kernel
theorem dX12_agrees_53 : decode cX12_agrees 53 = .ok (.ldiv, 1) := by decide +kernel
theorem dX12_agrees_54 : decode cX12_agrees 54 = .ok (.lstore 6, 2) := by decide +kernel
theorem dX12_agrees_56 : decode cX12_agrees 56 = .ok (.aload_n 0, 1) := by decide +kernel
theorem dX12_agrees_57 : decode cX12_agrees 57 = .ok (.getfield 121, 3) := by decide +kernel
theorem dX12_agrees_60 : decode cX12_agrees 60 = .ok (.iload 5, 2) := by decide +kernel
theorem dX12_agrees_62 : decode cX12_agrees 62 = .ok (.iaload, 1) := by decide +kernel
theorem dX12_agrees_63 : decode cX12_agrees 63 = .ok (.i2l, 1) := by decide +kernel
theorem dX12_agrees_64 : decode cX12_agrees 64 = .ok (.lload 6, 2) := by decide +kernel
theorem dX12_agrees_66 : decode cX12_agrees 66 = .ok (.lcmp, 1) := by decide +kernel
theorem dX12_agrees_67 : decode cX12_agrees 67 = .ok (.ifCond .le 17, 3) := by decide +kernel
theorem dX12_agrees_70 : decode cX12_agrees 70 = .ok (.aload_n 0, 1) := by decide +kernel
theorem dX12_agrees_71 : decode cX12_agrees 71 = .ok (.getfield 121, 3) := by decide +kernel
theorem dX12_agrees_74 : decode cX12_agrees 74 = .ok (.iload 5, 2) := by decide +kernel
theorem dX12_agrees_76 : decode cX12_agrees 76 = .ok (.iaload, 1) := by decide +kernel
theorem dX12_agrees_77 : decode cX12_agrees 77 = .ok (.i2l, 1) := by decide +kernel
theorem dX12_agrees_78 : decode cX12_agrees 78 = .ok (.lload 6, 2) := by decide +kernel
theorem dX12_agrees_80 : decode cX12_agrees 80 = .ok (.lsub, 1) := by decide +kernel
theorem dX12_agrees_81 : decode cX12_agrees 81 = .ok (.goto 14, 3) := by decide +kernel
theorem dX12_agrees_84 : decode cX12_agrees 84 = .ok (.lload 6, 2) := by decide +kernel
theorem dX12_agrees_86 : decode cX12_agrees 86 = .ok (.aload_n 0, 1) := by decide +kernel
theorem dX12_agrees_87 : decode cX12_agrees 87 = .ok (.getfield 121, 3) := by decide +kernel
theorem dX12_agrees_90 : decode cX12_agrees 90 = .ok (.iload 5, 2) := by decide +kernel
theorem dX12_agrees_92 : decode cX12_agrees 92 = .ok (.iaload, 1) := by decide +kernel
theorem dX12_agrees_93 : decode cX12_agrees 93 = .ok (.i2l, 1) := by decide +kernel
theorem dX12_agrees_94 : decode cX12_agrees 94 = .ok (.lsub, 1) := by decide +kernel
theorem dX12_agrees_95 : decode cX12_agrees 95 = .ok (.lstore 8, 2) := by decide +kernel
theorem dX12_agrees_97 : decode cX12_agrees 97 = .ok (.ldc2_w 257, 3) := by decide +kernel
theorem dX12_agrees_100 : decode cX12_agrees 100 = .ok (.lload 8, 2) := by decide +kernel
theorem dX12_agrees_102 : decode cX12_agrees 102 = .ok (.lmul, 1) := by decide +kernel
theorem dX12_agrees_103 : decode cX12_agrees 103 = .ok (.iload_n 3, 1) := by decide +kernel
theorem dX12_agrees_104 : decode cX12_agrees 104 = .ok (.i2l, 1) := by decide +kernel
theorem dX12_agrees_105 : decode cX12_agrees 105 = .ok (.lload 6, 2) := by decide +kernel
theorem dX12_agrees_107 : decode cX12_agrees 107 = .ok (.ldc2_w 257, 3) := by decide +kernel
theorem dX12_agrees_110 : decode cX12_agrees 110 = .ok (.ladd, 1) := by decide +kernel
theorem dX12_agrees_111 : decode cX12_agrees 111 = .ok (.lmul, 1) := by decide +kernel
theorem dX12_agrees_112 : decode cX12_agrees 112 = .ok (.lcmp, 1) := by decide +kernel
theorem dX12_agrees_113 : decode cX12_agrees 113 = .ok (.ifCond .gt 7, 3) := by decide +kernel
theorem dX12_agrees_116 : decode cX12_agrees 116 = .ok (.iconst 1, 1) := by decide +kernel
theorem dX12_agrees_117 : decode cX12_agrees 117 = .ok (.goto 4, 3) := by decide +kernel
theorem dX12_agrees_120 : decode cX12_agrees 120 = .ok (.iconst 0, 1) := by decide +kernel
theorem dX12_agrees_121 : decode cX12_agrees 121 = .ok (.istore 4, 2) := by decide +kernel
theorem dX12_agrees_123 : decode cX12_agrees 123 = .ok (.iinc 5 1, 3) := by decide +kernel
theorem dX12_agrees_126 : decode cX12_agrees 126 = .ok (.goto (-120), 3) := by decide +kernel
theorem dX12_agrees_129 : decode cX12_agrees 129 = .ok (.iload 4, 2) := by decide +kernel
theorem dX12_agrees_131 : decode cX12_agrees 131 = .ok (.ireturn, 1) := by decide +kernel
theorem dX12_isSlack_0 : decode cX12_isSlack 0 = .ok (.iload_n 0, 1) := by decide +kernel
theorem dX12_isSlack_1 : decode cX12_isSlack 1 = .ok (.i2l, 1) := by decide +kernel
theorem dX12_isSlack_2 : decode cX12_isSlack 2 = .ok (.lconst 0, 1) := by decide +kernel
theorem dX12_isSlack_3 : decode cX12_isSlack 3 = .ok (.ldc2_w 257, 3) := by decide +kernel
theorem dX12_isSlack_6 : decode cX12_isSlack 6 = .ok (.invokestatic 152, 3) := by decide +kernel
theorem dX12_isSlack_9 : decode cX12_isSlack 9 = .ok (.ireturn, 1) := by decide +kernel
theorem dX12_cells_0 : decode cX12_cells 0 = .ok (.iload_n 1, 1) := by decide +kernel
theorem dX12_cells_1 : decode cX12_cells 1 = .ok (.invokestatic 229, 3) := by decide +kernel
theorem dX12_cells_4 : decode cX12_cells 4 = .ok (.ifCond .eq 10, 3) := by decide +kernel
theorem dX12_cells_7 : decode cX12_cells 7 = .ok (.iload_n 2, 1) := by decide +kernel
theorem dX12_cells_8 : decode cX12_cells 8 = .ok (.invokestatic 387, 3) := by decide +kernel
theorem dX12_cells_11 : decode cX12_cells 11 = .ok (.ifCond .ne 6, 3) := by decide +kernel
theorem dX12_cells_14 : decode cX12_cells 14 = .ok (.bipush (-2), 2) := by decide +kernel
theorem dX12_cells_16 : decode cX12_cells 16 = .ok (.ireturn, 1) := by decide +kernel
theorem dX12_cells_17 : decode cX12_cells 17 = .ok (.iconst 0, 1) := by decide +kernel
theorem dX12_cells_18 : decode cX12_cells 18 = .ok (.istore_n 3, 1) := by decide +kernel
theorem dX12_cells_19 : decode cX12_cells 19 = .ok (.iconst 0, 1) := by decide +kernel
theorem dX12_cells_20 : decode cX12_cells 20 = .ok (.istore 4, 2) := by decide +kernel
theorem dX12_cells_22 : decode cX12_cells 22 = .ok (.iload 4, 2) := by decide +kernel
theorem dX12_cells_24 : decode cX12_cells 24 = .ok (.aload_n 0, 1) := by decide +kernel
theorem dX12_cells_25 : decode cX12_cells 25 = .ok (.getfield 23, 3) := by decide +kernel
theorem dX12_cells_28 : decode cX12_cells 28 = .ok (.aload_n 0, 1) := by decide +kernel
theorem dX12_cells_29 : decode cX12_cells 29 = .ok (.getfield 27, 3) := by decide +kernel
theorem dX12_cells_32 : decode cX12_cells 32 = .ok (.imul, 1) := by decide +kernel
theorem dX12_cells_33 : decode cX12_cells 33 = .ok (.if_icmp .ge 28, 3) := by decide +kernel
theorem dX12_cells_36 : decode cX12_cells 36 = .ok (.iload_n 3, 1) := by decide +kernel
theorem dX12_cells_37 : decode cX12_cells 37 = .ok (.aload_n 0, 1) := by decide +kernel
theorem dX12_cells_38 : decode cX12_cells 38 = .ok (.iload 4, 2) := by decide +kernel
theorem dX12_cells_40 : decode cX12_cells 40 = .ok (.iload_n 1, 1) := by decide +kernel
theorem dX12_cells_41 : decode cX12_cells 41 = .ok (.iload_n 2, 1) := by decide +kernel
theorem dX12_cells_42 : decode cX12_cells 42 = .ok (.invokevirtual 390, 3) := by decide +kernel
theorem dX12_cells_45 : decode cX12_cells 45 = .ok (.ifCond .eq 7, 3) := by decide +kernel
theorem dX12_cells_48 : decode cX12_cells 48 = .ok (.iconst 1, 1) := by decide +kernel
theorem dX12_cells_49 : decode cX12_cells 49 = .ok (.goto 4, 3) := by decide +kernel
theorem dX12_cells_52 : decode cX12_cells 52 = .ok (.iconst 0, 1) := by decide +kernel
theorem dX12_cells_53 : decode cX12_cells 53 = .ok (.iadd, 1) := by decide +kernel
theorem dX12_cells_54 : decode cX12_cells 54 = .ok (.istore_n 3, 1) := by decide +kernel
theorem dX12_cells_55 : decode cX12_cells 55 = .ok (.iinc 4 1, 3) := by decide +kernel
theorem dX12_cells_58 : decode cX12_cells 58 = .ok (.goto (-36), 3) := by decide +kernel
theorem dX12_cells_61 : decode cX12_cells 61 = .ok (.iload_n 3, 1) := by decide +kernel
theorem dX12_cells_62 : decode cX12_cells 62 = .ok (.ireturn, 1) := by decide +kernel
theorem dX12_cell_0 : decode cX12_cell 0 = .ok (.iload_n 1, 1) := by decide +kernel
theorem dX12_cell_1 : decode cX12_cell 1 = .ok (.invokestatic 229, 3) := by decide +kernel
theorem dX12_cell_4 : decode cX12_cell 4 = .ok (.ifCond .eq 14, 3) := by decide +kernel
theorem dX12_cell_7 : decode cX12_cell 7 = .ok (.iload_n 2, 1) := by decide +kernel
theorem dX12_cell_8 : decode cX12_cell 8 = .ok (.invokestatic 387, 3) := by decide +kernel
theorem dX12_cell_11 : decode cX12_cell 11 = .ok (.ifCond .eq 7, 3) := by decide +kernel
theorem dX12_cell_14 : decode cX12_cell 14 = .ok (.iload_n 3, 1) := by decide +kernel
theorem dX12_cell_15 : decode cX12_cell 15 = .ok (.ifCond .ge 6, 3) := by decide +kernel
theorem dX12_cell_18 : decode cX12_cell 18 = .ok (.bipush (-2), 2) := by decide +kernel
theorem dX12_cell_20 : decode cX12_cell 20 = .ok (.ireturn, 1) := by decide +kernel
theorem dX12_cell_21 : decode cX12_cell 21 = .ok (.iconst 0, 1) := by decide +kernel
theorem dX12_cell_22 : decode cX12_cell 22 = .ok (.istore 4, 2) := by decide +kernel
theorem dX12_cell_24 : decode cX12_cell 24 = .ok (.iconst 0, 1) := by decide +kernel
theorem dX12_cell_25 : decode cX12_cell 25 = .ok (.istore 5, 2) := by decide +kernel
theorem dX12_cell_27 : decode cX12_cell 27 = .ok (.iload 5, 2) := by decide +kernel
theorem dX12_cell_29 : decode cX12_cell 29 = .ok (.aload_n 0, 1) := by decide +kernel
theorem dX12_cell_30 : decode cX12_cell 30 = .ok (.getfield 23, 3) := by decide +kernel
theorem dX12_cell_33 : decode cX12_cell 33 = .ok (.aload_n 0, 1) := by decide +kernel
theorem dX12_cell_34 : decode cX12_cell 34 = .ok (.getfield 27, 3) := by decide +kernel
theorem dX12_cell_37 : decode cX12_cell 37 = .ok (.imul, 1) := by decide +kernel
theorem dX12_cell_38 : decode cX12_cell 38 = .ok (.if_icmp .ge 32, 3) := by decide +kernel
theorem dX12_cell_41 : decode cX12_cell 41 = .ok (.aload_n 0, 1) := by decide +kernel
theorem dX12_cell_42 : decode cX12_cell 42 = .ok (.iload 5, 2) := by decide +kernel
theorem dX12_cell_44 : decode cX12_cell 44 = .ok (.iload_n 1, 1) := by decide +kernel
theorem dX12_cell_45 : decode cX12_cell 45 = .ok (.iload_n 2, 1) := by decide +kernel
theorem dX12_cell_46 : decode cX12_cell 46 = .ok (.invokevirtual 390, 3) := by decide +kernel
theorem dX12_cell_49 : decode cX12_cell 49 = .ok (.ifCond .eq 15, 3) := by decide +kernel
theorem dX12_cell_52 : decode cX12_cell 52 = .ok (.iload 4, 2) := by decide +kernel
theorem dX12_cell_54 : decode cX12_cell 54 = .ok (.iload_n 3, 1) := by decide +kernel
theorem dX12_cell_55 : decode cX12_cell 55 = .ok (.if_icmp .ne 6, 3) := by decide +kernel
theorem dX12_cell_58 : decode cX12_cell 58 = .ok (.iload 5, 2) := by decide +kernel
theorem dX12_cell_60 : decode cX12_cell 60 = .ok (.ireturn, 1) := by decide +kernel
theorem dX12_cell_61 : decode cX12_cell 61 = .ok (.iinc 4 1, 3) := by decide +kernel
theorem dX12_cell_64 : decode cX12_cell 64 = .ok (.iinc 5 1, 3) := by decide +kernel
theorem dX12_cell_67 : decode cX12_cell 67 = .ok (.goto (-40), 3) := by decide +kernel
theorem dX12_cell_70 : decode cX12_cell 70 = .ok (.iconst (-1), 1) := by decide +kernel
theorem dX12_cell_71 : decode cX12_cell 71 = .ok (.ireturn, 1) := by decide +kernel
theorem dX12_whole_0 : decode cX12_whole 0 = .ok (.iconst 0, 1) := by decide +kernel
theorem dX12_whole_1 : decode cX12_whole 1 = .ok (.istore_n 1, 1) := by decide +kernel
theorem dX12_whole_2 : decode cX12_whole 2 = .ok (.iconst 0, 1) := by decide +kernel
theorem dX12_whole_3 : decode cX12_whole 3 = .ok (.istore_n 2, 1) := by decide +kernel
theorem dX12_whole_4 : decode cX12_whole 4 = .ok (.iload_n 2, 1) := by decide +kernel
theorem dX12_whole_5 : decode cX12_whole 5 = .ok (.aload_n 0, 1) := by decide +kernel
theorem dX12_whole_6 : decode cX12_whole 6 = .ok (.getfield 179, 3) := by decide +kernel
theorem dX12_whole_9 : decode cX12_whole 9 = .ok (.if_icmp .ge 27, 3) := by decide +kernel
theorem dX12_whole_12 : decode cX12_whole 12 = .ok (.iload_n 1, 1) := by decide +kernel
theorem dX12_whole_13 : decode cX12_whole 13 = .ok (.aload_n 0, 1) := by decide +kernel
theorem dX12_whole_14 : decode cX12_whole 14 = .ok (.getfield 121, 3) := by decide +kernel
theorem dX12_whole_17 : decode cX12_whole 17 = .ok (.iload_n 2, 1) := by decide +kernel
theorem dX12_whole_18 : decode cX12_whole 18 = .ok (.iaload, 1) := by decide +kernel
theorem dX12_whole_19 : decode cX12_whole 19 = .ok (.iconst (-1), 1) := by decide +kernel
theorem dX12_whole_20 : decode cX12_whole 20 = .ok (.if_icmp .ne 7, 3) := by decide +kernel
theorem dX12_whole_23 : decode cX12_whole 23 = .ok (.iconst 0, 1) := by decide +kernel
theorem dX12_whole_24 : decode cX12_whole 24 = .ok (.goto 4, 3) := by decide +kernel
theorem dX12_whole_27 : decode cX12_whole 27 = .ok (.iconst 1, 1) := by decide +kernel
theorem dX12_whole_28 : decode cX12_whole 28 = .ok (.iadd, 1) := by decide +kernel
theorem dX12_whole_29 : decode cX12_whole 29 = .ok (.istore_n 1, 1) := by decide +kernel
theorem dX12_whole_30 : decode cX12_whole 30 = .ok (.iinc 2 1, 3) := by decide +kernel
theorem dX12_whole_33 : decode cX12_whole 33 = .ok (.goto (-29), 3) := by decide +kernel
theorem dX12_whole_36 : decode cX12_whole 36 = .ok (.iload_n 1, 1) := by decide +kernel
theorem dX12_whole_37 : decode cX12_whole 37 = .ok (.ireturn, 1) := by decide +kernel
theorem dX12_cheats_0 : decode cX12_cheats 0 = .ok (.aload_n 0, 1) := by decide +kernel
theorem dX12_cheats_1 : decode cX12_cheats 1 = .ok (.iload_n 1, 1) := by decide +kernel
theorem dX12_cheats_2 : decode cX12_cheats 2 = .ok (.invokevirtual 237, 3) := by decide +kernel
theorem dX12_cheats_5 : decode cX12_cheats 5 = .ok (.ifCond .eq 22, 3) := by decide +kernel
theorem dX12_cheats_8 : decode cX12_cheats 8 = .ok (.iload_n 2, 1) := by decide +kernel
theorem dX12_cheats_9 : decode cX12_cheats 9 = .ok (.i2l, 1) := by decide +kernel
theorem dX12_cheats_10 : decode cX12_cheats 10 = .ok (.lconst 0, 1) := by decide +kernel
theorem dX12_cheats_11 : decode cX12_cheats 11 = .ok (.ldc2_w 393, 3) := by decide +kernel
theorem dX12_cheats_14 : decode cX12_cheats 14 = .ok (.invokestatic 152, 3) := by decide +kernel
theorem dX12_cheats_17 : decode cX12_cheats 17 = .ok (.ifCond .eq 10, 3) := by decide +kernel
theorem dX12_cheats_20 : decode cX12_cheats 20 = .ok (.iload_n 3, 1) := by decide +kernel
theorem dX12_cheats_21 : decode cX12_cheats 21 = .ok (.invokestatic 387, 3) := by decide +kernel
theorem dX12_cheats_24 : decode cX12_cheats 24 = .ok (.ifCond .ne 6, 3) := by decide +kernel
theorem dX12_cheats_27 : decode cX12_cheats 27 = .ok (.bipush (-2), 2) := by decide +kernel
theorem dX12_cheats_29 : decode cX12_cheats 29 = .ok (.ireturn, 1) := by decide +kernel
theorem dX12_cheats_30 : decode cX12_cheats 30 = .ok (.aload_n 0, 1) := by decide +kernel
theorem dX12_cheats_31 : decode cX12_cheats 31 = .ok (.invokevirtual 395, 3) := by decide +kernel
theorem dX12_cheats_34 : decode cX12_cheats 34 = .ok (.ifCond .ne 6, 3) := by decide +kernel
theorem dX12_cheats_37 : decode cX12_cheats 37 = .ok (.bipush (-3), 2) := by decide +kernel
theorem dX12_cheats_39 : decode cX12_cheats 39 = .ok (.ireturn, 1) := by decide +kernel
theorem dX12_cheats_40 : decode cX12_cheats 40 = .ok (.aload_n 0, 1) := by decide +kernel
theorem dX12_cheats_41 : decode cX12_cheats 41 = .ok (.iload_n 1, 1) := by decide +kernel
theorem dX12_cheats_42 : decode cX12_cheats 42 = .ok (.invokevirtual 241, 3) := by decide +kernel
theorem dX12_cheats_45 : decode cX12_cheats 45 = .ok (.istore 4, 2) := by decide +kernel
theorem dX12_cheats_47 : decode cX12_cheats 47 = .ok (.iconst 0, 1) := by decide +kernel
theorem dX12_cheats_48 : decode cX12_cheats 48 = .ok (.istore 5, 2) := by decide +kernel
theorem dX12_cheats_50 : decode cX12_cheats 50 = .ok (.iload 5, 2) := by decide +kernel
theorem dX12_cheats_52 : decode cX12_cheats 52 = .ok (.aload_n 0, 1) := by decide +kernel
theorem dX12_cheats_53 : decode cX12_cheats 53 = .ok (.getfield 23, 3) := by decide +kernel
theorem dX12_cheats_56 : decode cX12_cheats 56 = .ok (.aload_n 0, 1) := by decide +kernel
theorem dX12_cheats_57 : decode cX12_cheats 57 = .ok (.getfield 27, 3) := by decide +kernel
theorem dX12_cheats_60 : decode cX12_cheats 60 = .ok (.imul, 1) := by decide +kernel
theorem dX12_cheats_61 : decode cX12_cheats 61 = .ok (.if_icmp .ge 78, 3) := by decide +kernel
theorem dX12_cheats_64 : decode cX12_cheats 64 = .ok (.iload 5, 2) := by decide +kernel
theorem dX12_cheats_66 : decode cX12_cheats 66 = .ok (.aload_n 0, 1) := by decide +kernel
theorem dX12_cheats_67 : decode cX12_cheats 67 = .ok (.getfield 23, 3) := by decide +kernel
theorem dX12_cheats_70 : decode cX12_cheats 70 = .ok (.irem, 1) := by decide +kernel
theorem dX12_cheats_71 : decode cX12_cheats 71 = .ok (.iload 4, 2) := by decide +kernel
theorem dX12_cheats_73 : decode cX12_cheats 73 = .ok (.aload_n 0, 1) := by decide +kernel
theorem dX12_cheats_74 : decode cX12_cheats 74 = .ok (.getfield 23, 3) := by decide +kernel
theorem dX12_cheats_77 : decode cX12_cheats 77 = .ok (.irem, 1) := by decide +kernel
theorem dX12_cheats_78 : decode cX12_cheats 78 = .ok (.isub, 1) := by decide +kernel
theorem dX12_cheats_79 : decode cX12_cheats 79 = .ok (.istore 6, 2) := by decide +kernel
theorem dX12_cheats_81 : decode cX12_cheats 81 = .ok (.iload 5, 2) := by decide +kernel
theorem dX12_cheats_83 : decode cX12_cheats 83 = .ok (.aload_n 0, 1) := by decide +kernel
theorem dX12_cheats_84 : decode cX12_cheats 84 = .ok (.getfield 23, 3) := by decide +kernel
theorem dX12_cheats_87 : decode cX12_cheats 87 = .ok (.idiv, 1) := by decide +kernel
theorem dX12_cheats_88 : decode cX12_cheats 88 = .ok (.iload 4, 2) := by decide +kernel
theorem dX12_cheats_90 : decode cX12_cheats 90 = .ok (.aload_n 0, 1) := by decide +kernel
theorem dX12_cheats_91 : decode cX12_cheats 91 = .ok (.getfield 23, 3) := by decide +kernel
theorem dX12_cheats_94 : decode cX12_cheats 94 = .ok (.idiv, 1) := by decide +kernel
theorem dX12_cheats_95 : decode cX12_cheats 95 = .ok (.isub, 1) := by decide +kernel
theorem dX12_cheats_96 : decode cX12_cheats 96 = .ok (.istore 7, 2) := by decide +kernel
theorem dX12_cheats_98 : decode cX12_cheats 98 = .ok (.iload 6, 2) := by decide +kernel
theorem dX12_cheats_100 : decode cX12_cheats 100 = .ok (.iload 6, 2) := by decide +kernel
theorem dX12_cheats_102 : decode cX12_cheats 102 = .ok (.imul, 1) := by decide +kernel
theorem dX12_cheats_103 : decode cX12_cheats 103 = .ok (.iload 7, 2) := by decide +kernel
theorem dX12_cheats_105 : decode cX12_cheats 105 = .ok (.iload 7, 2) := by decide +kernel
theorem dX12_cheats_107 : decode cX12_cheats 107 = .ok (.imul, 1) := by decide +kernel
theorem dX12_cheats_108 : decode cX12_cheats 108 = .ok (.iadd, 1) := by decide +kernel
theorem dX12_cheats_109 : decode cX12_cheats 109 = .ok (.iload_n 2, 1) := by decide +kernel
theorem dX12_cheats_110 : decode cX12_cheats 110 = .ok (.iload_n 2, 1) := by decide +kernel
theorem dX12_cheats_111 : decode cX12_cheats 111 = .ok (.imul, 1) := by decide +kernel
theorem dX12_cheats_112 : decode cX12_cheats 112 = .ok (.if_icmp .gt 21, 3) := by decide +kernel
theorem dX12_cheats_115 : decode cX12_cheats 115 = .ok (.aload_n 0, 1) := by decide +kernel
theorem dX12_cheats_116 : decode cX12_cheats 116 = .ok (.iload 5, 2) := by decide +kernel
theorem dX12_cheats_118 : decode cX12_cheats 118 = .ok (.aload_n 0, 1) := by decide +kernel
theorem dX12_cheats_119 : decode cX12_cheats 119 = .ok (.getfield 39, 3) := by decide +kernel
theorem dX12_cheats_122 : decode cX12_cheats 122 = .ok (.iload_n 1, 1) := by decide +kernel
theorem dX12_cheats_123 : decode cX12_cheats 123 = .ok (.iaload, 1) := by decide +kernel
theorem dX12_cheats_124 : decode cX12_cheats 124 = .ok (.iload_n 3, 1) := by decide +kernel
theorem dX12_cheats_125 : decode cX12_cheats 125 = .ok (.invokevirtual 390, 3) := by decide +kernel
theorem dX12_cheats_128 : decode cX12_cheats 128 = .ok (.ifCond .eq 5, 3) := by decide +kernel
theorem dX12_cheats_131 : decode cX12_cheats 131 = .ok (.iconst 0, 1) := by decide +kernel
theorem dX12_cheats_132 : decode cX12_cheats 132 = .ok (.ireturn, 1) := by decide +kernel
theorem dX12_cheats_133 : decode cX12_cheats 133 = .ok (.iinc 5 1, 3) := by decide +kernel
theorem dX12_cheats_136 : decode cX12_cheats 136 = .ok (.goto (-86), 3) := by decide +kernel
theorem dX12_cheats_139 : decode cX12_cheats 139 = .ok (.iconst 1, 1) := by decide +kernel
theorem dX12_cheats_140 : decode cX12_cheats 140 = .ok (.ireturn, 1) := by decide +kernel
theorem dX12_site_0 : decode cX12_site 0 = .ok (.aload_n 0, 1) := by decide +kernel
theorem dX12_site_1 : decode cX12_site 1 = .ok (.iload_n 1, 1) := by decide +kernel
theorem dX12_site_2 : decode cX12_site 2 = .ok (.invokevirtual 191, 3) := by decide +kernel
theorem dX12_site_5 : decode cX12_site 5 = .ok (.ifCond .eq 59, 3) := by decide +kernel
theorem dX12_site_8 : decode cX12_site 8 = .ok (.iload_n 2, 1) := by decide +kernel
theorem dX12_site_9 : decode cX12_site 9 = .ok (.invokestatic 217, 3) := by decide +kernel
theorem dX12_site_12 : decode cX12_site 12 = .ok (.ifCond .eq 52, 3) := by decide +kernel
theorem dX12_site_15 : decode cX12_site 15 = .ok (.iload_n 3, 1) := by decide +kernel
theorem dX12_site_16 : decode cX12_site 16 = .ok (.invokestatic 229, 3) := by decide +kernel
theorem dX12_site_19 : decode cX12_site 19 = .ok (.ifCond .eq 45, 3) := by decide +kernel
theorem dX12_site_22 : decode cX12_site 22 = .ok (.iload 4, 2) := by decide +kernel
theorem dX12_site_24 : decode cX12_site 24 = .ok (.invokestatic 229, 3) := by decide +kernel
theorem dX12_site_27 : decode cX12_site 27 = .ok (.ifCond .eq 37, 3) := by decide +kernel
theorem dX12_site_30 : decode cX12_site 30 = .ok (.iload_n 3, 1) := by decide +kernel
theorem dX12_site_31 : decode cX12_site 31 = .ok (.iload 4, 2) := by decide +kernel
theorem dX12_site_33 : decode cX12_site 33 = .ok (.if_icmp .ge 31, 3) := by decide +kernel
theorem dX12_site_36 : decode cX12_site 36 = .ok (.iload 5, 2) := by decide +kernel
theorem dX12_site_38 : decode cX12_site 38 = .ok (.i2l, 1) := by decide +kernel
theorem dX12_site_39 : decode cX12_site 39 = .ok (.lconst 1, 1) := by decide +kernel
theorem dX12_site_40 : decode cX12_site 40 = .ok (.ldc2_w 224, 3) := by decide +kernel
theorem dX12_site_43 : decode cX12_site 43 = .ok (.invokestatic 152, 3) := by decide +kernel
theorem dX12_site_46 : decode cX12_site 46 = .ok (.ifCond .eq 18, 3) := by decide +kernel
theorem dX12_site_49 : decode cX12_site 49 = .ok (.iload 6, 2) := by decide +kernel
theorem dX12_site_51 : decode cX12_site 51 = .ok (.i2l, 1) := by decide +kernel
theorem dX12_site_52 : decode cX12_site 52 = .ok (.iload 5, 2) := by decide +kernel
theorem dX12_site_54 : decode cX12_site 54 = .ok (.i2l, 1) := by decide +kernel
theorem dX12_site_55 : decode cX12_site 55 = .ok (.ldc2_w 224, 3) := by decide +kernel
theorem dX12_site_58 : decode cX12_site 58 = .ok (.invokestatic 152, 3) := by decide +kernel
theorem dX12_site_61 : decode cX12_site 61 = .ok (.ifCond .ne 6, 3) := by decide +kernel
theorem dX12_site_64 : decode cX12_site 64 = .ok (.bipush (-2), 2) := by decide +kernel
theorem dX12_site_66 : decode cX12_site 66 = .ok (.ireturn, 1) := by decide +kernel
theorem dX12_site_67 : decode cX12_site 67 = .ok (.aload_n 0, 1) := by decide +kernel
theorem dX12_site_68 : decode cX12_site 68 = .ok (.getfield 182, 3) := by decide +kernel
theorem dX12_site_71 : decode cX12_site 71 = .ok (.bipush 6, 2) := by decide +kernel
theorem dX12_site_73 : decode cX12_site 73 = .ok (.if_icmp .ne 6, 3) := by decide +kernel
theorem dX12_site_76 : decode cX12_site 76 = .ok (.bipush (-4), 2) := by decide +kernel
theorem dX12_site_78 : decode cX12_site 78 = .ok (.ireturn, 1) := by decide +kernel
theorem dX12_site_79 : decode cX12_site 79 = .ok (.aload_n 0, 1) := by decide +kernel
theorem dX12_site_80 : decode cX12_site 80 = .ok (.getfield 124, 3) := by decide +kernel
theorem dX12_site_83 : decode cX12_site 83 = .ok (.aload_n 0, 1) := by decide +kernel
theorem dX12_site_84 : decode cX12_site 84 = .ok (.getfield 182, 3) := by decide +kernel
theorem dX12_site_87 : decode cX12_site 87 = .ok (.iload_n 1, 1) := by decide +kernel
theorem dX12_site_88 : decode cX12_site 88 = .ok (.iastore, 1) := by decide +kernel
theorem dX12_site_89 : decode cX12_site 89 = .ok (.aload_n 0, 1) := by decide +kernel
theorem dX12_site_90 : decode cX12_site 90 = .ok (.getfield 127, 3) := by decide +kernel
theorem dX12_site_93 : decode cX12_site 93 = .ok (.aload_n 0, 1) := by decide +kernel
theorem dX12_site_94 : decode cX12_site 94 = .ok (.getfield 182, 3) := by decide +kernel
theorem dX12_site_97 : decode cX12_site 97 = .ok (.iload_n 2, 1) := by decide +kernel
theorem dX12_site_98 : decode cX12_site 98 = .ok (.iastore, 1) := by decide +kernel
theorem dX12_site_99 : decode cX12_site 99 = .ok (.aload_n 0, 1) := by decide +kernel
theorem dX12_site_100 : decode cX12_site 100 = .ok (.getfield 130, 3) := by decide +kernel
theorem dX12_site_103 : decode cX12_site 103 = .ok (.iconst 2, 1) := by decide +kernel
theorem dX12_site_104 : decode cX12_site 104 = .ok (.aload_n 0, 1) := by decide +kernel
theorem dX12_site_105 : decode cX12_site 105 = .ok (.getfield 182, 3) := by decide +kernel
theorem dX12_site_108 : decode cX12_site 108 = .ok (.imul, 1) := by decide +kernel
theorem dX12_site_109 : decode cX12_site 109 = .ok (.iload_n 3, 1) := by decide +kernel
theorem dX12_site_110 : decode cX12_site 110 = .ok (.iastore, 1) := by decide +kernel
theorem dX12_site_111 : decode cX12_site 111 = .ok (.aload_n 0, 1) := by decide +kernel
theorem dX12_site_112 : decode cX12_site 112 = .ok (.getfield 130, 3) := by decide +kernel
theorem dX12_site_115 : decode cX12_site 115 = .ok (.iconst 2, 1) := by decide +kernel
theorem dX12_site_116 : decode cX12_site 116 = .ok (.aload_n 0, 1) := by decide +kernel
theorem dX12_site_117 : decode cX12_site 117 = .ok (.getfield 182, 3) := by decide +kernel
theorem dX12_site_120 : decode cX12_site 120 = .ok (.imul, 1) := by decide +kernel
theorem dX12_site_121 : decode cX12_site 121 = .ok (.iconst 1, 1) := by decide +kernel
theorem dX12_site_122 : decode cX12_site 122 = .ok (.iadd, 1) := by decide +kernel
theorem dX12_site_123 : decode cX12_site 123 = .ok (.iload 4, 2) := by decide +kernel
theorem dX12_site_125 : decode cX12_site 125 = .ok (.iastore, 1) := by decide +kernel
theorem dX12_site_126 : decode cX12_site 126 = .ok (.aload_n 0, 1) := by decide +kernel
theorem dX12_site_127 : decode cX12_site 127 = .ok (.getfield 133, 3) := by decide +kernel
theorem dX12_site_130 : decode cX12_site 130 = .ok (.iconst 2, 1) := by decide +kernel
theorem dX12_site_131 : decode cX12_site 131 = .ok (.aload_n 0, 1) := by decide +kernel
theorem dX12_site_132 : decode cX12_site 132 = .ok (.getfield 182, 3) := by decide +kernel
theorem dX12_site_135 : decode cX12_site 135 = .ok (.imul, 1) := by decide +kernel
theorem dX12_site_136 : decode cX12_site 136 = .ok (.iload 5, 2) := by decide +kernel
theorem dX12_site_138 : decode cX12_site 138 = .ok (.iastore, 1) := by decide +kernel
theorem dX12_site_139 : decode cX12_site 139 = .ok (.aload_n 0, 1) := by decide +kernel
theorem dX12_site_140 : decode cX12_site 140 = .ok (.getfield 133, 3) := by decide +kernel
theorem dX12_site_143 : decode cX12_site 143 = .ok (.iconst 2, 1) := by decide +kernel
theorem dX12_site_144 : decode cX12_site 144 = .ok (.aload_n 0, 1) := by decide +kernel
theorem dX12_site_145 : decode cX12_site 145 = .ok (.getfield 182, 3) := by decide +kernel
theorem dX12_site_148 : decode cX12_site 148 = .ok (.imul, 1) := by decide +kernel
theorem dX12_site_149 : decode cX12_site 149 = .ok (.iconst 1, 1) := by decide +kernel
theorem dX12_site_150 : decode cX12_site 150 = .ok (.iadd, 1) := by decide +kernel
theorem dX12_site_151 : decode cX12_site 151 = .ok (.iload 6, 2) := by decide +kernel
theorem dX12_site_153 : decode cX12_site 153 = .ok (.iastore, 1) := by decide +kernel
theorem dX12_site_154 : decode cX12_site 154 = .ok (.aload_n 0, 1) := by decide +kernel
theorem dX12_site_155 : decode cX12_site 155 = .ok (.dup, 1) := by decide +kernel
theorem dX12_site_156 : decode cX12_site 156 = .ok (.getfield 182, 3) := by decide +kernel
theorem dX12_site_159 : decode cX12_site 159 = .ok (.iconst 1, 1) := by decide +kernel
theorem dX12_site_160 : decode cX12_site 160 = .ok (.iadd, 1) := by decide +kernel
theorem dX12_site_161 : decode cX12_site 161 = .ok (.putfield 182, 3) := by decide +kernel
theorem dX12_site_164 : decode cX12_site 164 = .ok (.aload_n 0, 1) := by decide +kernel
theorem dX12_site_165 : decode cX12_site 165 = .ok (.getfield 182, 3) := by decide +kernel
theorem dX12_site_168 : decode cX12_site 168 = .ok (.iconst 1, 1) := by decide +kernel
theorem dX12_site_169 : decode cX12_site 169 = .ok (.isub, 1) := by decide +kernel
theorem dX12_site_170 : decode cX12_site 170 = .ok (.ireturn, 1) := by decide +kernel
theorem dX12_ear_0 : decode cX12_ear 0 = .ok (.aload_n 0, 1) := by decide +kernel
theorem dX12_ear_1 : decode cX12_ear 1 = .ok (.iload_n 1, 1) := by decide +kernel
theorem dX12_ear_2 : decode cX12_ear 2 = .ok (.invokevirtual 191, 3) := by decide +kernel
theorem dX12_ear_5 : decode cX12_ear 5 = .ok (.ifCond .eq 15, 3) := by decide +kernel
theorem dX12_ear_8 : decode cX12_ear 8 = .ok (.iload_n 2, 1) := by decide +kernel
theorem dX12_ear_9 : decode cX12_ear 9 = .ok (.i2l, 1) := by decide +kernel
theorem dX12_ear_10 : decode cX12_ear 10 = .ok (.lconst 1, 1) := by decide +kernel
theorem dX12_ear_11 : decode cX12_ear 11 = .ok (.ldc2_w 257, 3) := by decide +kernel
theorem dX12_ear_14 : decode cX12_ear 14 = .ok (.invokestatic 152, 3) := by decide +kernel
theorem dX12_ear_17 : decode cX12_ear 17 = .ok (.ifCond .ne 6, 3) := by decide +kernel
theorem dX12_ear_20 : decode cX12_ear 20 = .ok (.bipush (-2), 2) := by decide +kernel
theorem dX12_ear_22 : decode cX12_ear 22 = .ok (.ireturn, 1) := by decide +kernel
theorem dX12_ear_23 : decode cX12_ear 23 = .ok (.aload_n 0, 1) := by decide +kernel
theorem dX12_ear_24 : decode cX12_ear 24 = .ok (.getfield 185, 3) := by decide +kernel
theorem dX12_ear_27 : decode cX12_ear 27 = .ok (.bipush 12, 2) := by decide +kernel
theorem dX12_ear_29 : decode cX12_ear 29 = .ok (.if_icmp .ne 6, 3) := by decide +kernel
theorem dX12_ear_32 : decode cX12_ear 32 = .ok (.bipush (-4), 2) := by decide +kernel
theorem dX12_ear_34 : decode cX12_ear 34 = .ok (.ireturn, 1) := by decide +kernel
theorem dX12_ear_35 : decode cX12_ear 35 = .ok (.aload_n 0, 1) := by decide +kernel
theorem dX12_ear_36 : decode cX12_ear 36 = .ok (.getfield 136, 3) := by decide +kernel
theorem dX12_ear_39 : decode cX12_ear 39 = .ok (.aload_n 0, 1) := by decide +kernel
theorem dX12_ear_40 : decode cX12_ear 40 = .ok (.getfield 185, 3) := by decide +kernel
theorem dX12_ear_43 : decode cX12_ear 43 = .ok (.iload_n 1, 1) := by decide +kernel
theorem dX12_ear_44 : decode cX12_ear 44 = .ok (.iastore, 1) := by decide +kernel
theorem dX12_ear_45 : decode cX12_ear 45 = .ok (.aload_n 0, 1) := by decide +kernel
theorem dX12_ear_46 : decode cX12_ear 46 = .ok (.getfield 139, 3) := by decide +kernel
theorem dX12_ear_49 : decode cX12_ear 49 = .ok (.aload_n 0, 1) := by decide +kernel
theorem dX12_ear_50 : decode cX12_ear 50 = .ok (.getfield 185, 3) := by decide +kernel
theorem dX12_ear_53 : decode cX12_ear 53 = .ok (.iload_n 2, 1) := by decide +kernel
theorem dX12_ear_54 : decode cX12_ear 54 = .ok (.iastore, 1) := by decide +kernel
theorem dX12_ear_55 : decode cX12_ear 55 = .ok (.aload_n 0, 1) := by decide +kernel
theorem dX12_ear_56 : decode cX12_ear 56 = .ok (.dup, 1) := by decide +kernel
theorem dX12_ear_57 : decode cX12_ear 57 = .ok (.getfield 185, 3) := by decide +kernel
theorem dX12_ear_60 : decode cX12_ear 60 = .ok (.iconst 1, 1) := by decide +kernel
theorem dX12_ear_61 : decode cX12_ear 61 = .ok (.iadd, 1) := by decide +kernel
theorem dX12_ear_62 : decode cX12_ear 62 = .ok (.putfield 185, 3) := by decide +kernel
theorem dX12_ear_65 : decode cX12_ear 65 = .ok (.aload_n 0, 1) := by decide +kernel
theorem dX12_ear_66 : decode cX12_ear 66 = .ok (.getfield 185, 3) := by decide +kernel
theorem dX12_ear_69 : decode cX12_ear 69 = .ok (.iconst 1, 1) := by decide +kernel
theorem dX12_ear_70 : decode cX12_ear 70 = .ok (.isub, 1) := by decide +kernel
theorem dX12_ear_71 : decode cX12_ear 71 = .ok (.ireturn, 1) := by decide +kernel
theorem dX12_findGots_0 : decode cX12_findGots 0 = .ok (.iconst 0, 1) := by decide +kernel
theorem dX12_findGots_1 : decode cX12_findGots 1 = .ok (.istore_n 1, 1) := by decide +kernel
theorem dX12_findGots_2 : decode cX12_findGots 2 = .ok (.iload_n 1, 1) := by decide +kernel
theorem dX12_findGots_3 : decode cX12_findGots 3 = .ok (.iconst 2, 1) := by decide +kernel
theorem dX12_findGots_4 : decode cX12_findGots 4 = .ok (.aload_n 0, 1) := by decide +kernel
theorem dX12_findGots_5 : decode cX12_findGots 5 = .ok (.getfield 182, 3) := by decide +kernel
theorem dX12_findGots_8 : decode cX12_findGots 8 = .ok (.imul, 1) := by decide +kernel
theorem dX12_findGots_9 : decode cX12_findGots 9 = .ok (.if_icmp .ge 74, 3) := by decide +kernel
theorem dX12_findGots_12 : decode cX12_findGots 12 = .ok (.iconst 0, 1) := by decide +kernel
theorem dX12_findGots_13 : decode cX12_findGots 13 = .ok (.istore_n 2, 1) := by decide +kernel
theorem dX12_findGots_14 : decode cX12_findGots 14 = .ok (.iload_n 2, 1) := by decide +kernel
theorem dX12_findGots_15 : decode cX12_findGots 15 = .ok (.aload_n 0, 1) := by decide +kernel
theorem dX12_findGots_16 : decode cX12_findGots 16 = .ok (.getfield 185, 3) := by decide +kernel
theorem dX12_findGots_19 : decode cX12_findGots 19 = .ok (.if_icmp .ge 58, 3) := by decide +kernel
theorem dX12_findGots_22 : decode cX12_findGots 22 = .ok (.aload_n 0, 1) := by decide +kernel
theorem dX12_findGots_23 : decode cX12_findGots 23 = .ok (.getfield 142, 3) := by decide +kernel
theorem dX12_findGots_26 : decode cX12_findGots 26 = .ok (.bipush 12, 2) := by decide +kernel
theorem dX12_findGots_28 : decode cX12_findGots 28 = .ok (.iload_n 1, 1) := by decide +kernel
theorem dX12_findGots_29 : decode cX12_findGots 29 = .ok (.imul, 1) := by decide +kernel
theorem dX12_findGots_30 : decode cX12_findGots 30 = .ok (.iload_n 2, 1) := by decide +kernel
theorem dX12_findGots_31 : decode cX12_findGots 31 = .ok (.iadd, 1) := by decide +kernel
theorem dX12_findGots_32 : decode cX12_findGots 32 = .ok (.bipush 100, 2) := by decide +kernel
theorem dX12_findGots_34 : decode cX12_findGots 34 = .ok (.aload_n 0, 1) := by decide +kernel
theorem dX12_findGots_35 : decode cX12_findGots 35 = .ok (.getfield 130, 3) := by decide +kernel
theorem dX12_findGots_38 : decode cX12_findGots 38 = .ok (.iload_n 1, 1) := by decide +kernel
theorem dX12_findGots_39 : decode cX12_findGots 39 = .ok (.iaload, 1) := by decide +kernel
theorem dX12_findGots_40 : decode cX12_findGots 40 = .ok (.imul, 1) := by decide +kernel
theorem dX12_findGots_41 : decode cX12_findGots 41 = .ok (.aload_n 0, 1) := by decide +kernel
theorem dX12_findGots_42 : decode cX12_findGots 42 = .ok (.aload_n 0, 1) := by decide +kernel
theorem dX12_findGots_43 : decode cX12_findGots 43 = .ok (.getfield 124, 3) := by decide +kernel
theorem dX12_findGots_46 : decode cX12_findGots 46 = .ok (.iload_n 1, 1) := by decide +kernel
theorem dX12_findGots_47 : decode cX12_findGots 47 = .ok (.iconst 2, 1) := by decide +kernel
theorem dX12_findGots_48 : decode cX12_findGots 48 = .ok (.idiv, 1) := by decide +kernel
theorem dX12_findGots_49 : decode cX12_findGots 49 = .ok (.iaload, 1) := by decide +kernel
theorem dX12_findGots_50 : decode cX12_findGots 50 = .ok (.aload_n 0, 1) := by decide +kernel
theorem dX12_findGots_51 : decode cX12_findGots 51 = .ok (.getfield 127, 3) := by decide +kernel
theorem dX12_findGots_54 : decode cX12_findGots 54 = .ok (.iload_n 1, 1) := by decide +kernel
theorem dX12_findGots_55 : decode cX12_findGots 55 = .ok (.iconst 2, 1) := by decide +kernel
theorem dX12_findGots_56 : decode cX12_findGots 56 = .ok (.idiv, 1) := by decide +kernel
theorem dX12_findGots_57 : decode cX12_findGots 57 = .ok (.iaload, 1) := by decide +kernel
theorem dX12_findGots_58 : decode cX12_findGots 58 = .ok (.aload_n 0, 1) := by decide +kernel
theorem dX12_findGots_59 : decode cX12_findGots 59 = .ok (.getfield 136, 3) := by decide +kernel
theorem dX12_findGots_62 : decode cX12_findGots 62 = .ok (.iload_n 2, 1) := by decide +kernel
theorem dX12_findGots_63 : decode cX12_findGots 63 = .ok (.iaload, 1) := by decide +kernel
theorem dX12_findGots_64 : decode cX12_findGots 64 = .ok (.iconst 0, 1) := by decide +kernel
theorem dX12_findGots_65 : decode cX12_findGots 65 = .ok (.iconst 0, 1) := by decide +kernel
theorem dX12_findGots_66 : decode cX12_findGots 66 = .ok (.invokevirtual 220, 3) := by decide +kernel
theorem dX12_findGots_69 : decode cX12_findGots 69 = .ok (.idiv, 1) := by decide +kernel
theorem dX12_findGots_70 : decode cX12_findGots 70 = .ok (.iastore, 1) := by decide +kernel
theorem dX12_findGots_71 : decode cX12_findGots 71 = .ok (.iinc 2 1, 3) := by decide +kernel
theorem dX12_findGots_74 : decode cX12_findGots 74 = .ok (.goto (-60), 3) := by decide +kernel
theorem dX12_findGots_77 : decode cX12_findGots 77 = .ok (.iinc 1 1, 3) := by decide +kernel
theorem dX12_findGots_80 : decode cX12_findGots 80 = .ok (.goto (-78), 3) := by decide +kernel
theorem dX12_findGots_83 : decode cX12_findGots 83 = .ok (.return_, 1) := by decide +kernel
theorem dX12_plans_0 : decode cX12_plans 0 = .ok (.iconst 1, 1) := by decide +kernel
theorem dX12_plans_1 : decode cX12_plans 1 = .ok (.istore_n 1, 1) := by decide +kernel
theorem dX12_plans_2 : decode cX12_plans 2 = .ok (.iconst 0, 1) := by decide +kernel
theorem dX12_plans_3 : decode cX12_plans 3 = .ok (.istore_n 2, 1) := by decide +kernel
theorem dX12_plans_4 : decode cX12_plans 4 = .ok (.iload_n 2, 1) := by decide +kernel
theorem dX12_plans_5 : decode cX12_plans 5 = .ok (.aload_n 0, 1) := by decide +kernel
theorem dX12_plans_6 : decode cX12_plans 6 = .ok (.getfield 182, 3) := by decide +kernel
theorem dX12_plans_9 : decode cX12_plans 9 = .ok (.if_icmp .ge 13, 3) := by decide +kernel
theorem dX12_plans_12 : decode cX12_plans 12 = .ok (.iload_n 1, 1) := by decide +kernel
theorem dX12_plans_13 : decode cX12_plans 13 = .ok (.iconst 3, 1) := by decide +kernel
theorem dX12_plans_14 : decode cX12_plans 14 = .ok (.imul, 1) := by decide +kernel
theorem dX12_plans_15 : decode cX12_plans 15 = .ok (.istore_n 1, 1) := by decide +kernel
theorem dX12_plans_16 : decode cX12_plans 16 = .ok (.iinc 2 1, 3) := by decide +kernel
theorem dX12_plans_19 : decode cX12_plans 19 = .ok (.goto (-15), 3) := by decide +kernel
theorem dX12_plans_22 : decode cX12_plans 22 = .ok (.iload_n 1, 1) := by decide +kernel
theorem dX12_plans_23 : decode cX12_plans 23 = .ok (.ireturn, 1) := by decide +kernel
theorem dX12_servedBy_0 : decode cX12_servedBy 0 = .ok (.iconst 0, 1) := by decide +kernel
theorem dX12_servedBy_1 : decode cX12_servedBy 1 = .ok (.istore_n 2, 1) := by decide +kernel
theorem dX12_servedBy_2 : decode cX12_servedBy 2 = .ok (.iconst 0, 1) := by decide +kernel
theorem dX12_servedBy_3 : decode cX12_servedBy 3 = .ok (.istore_n 3, 1) := by decide +kernel
theorem dX12_servedBy_4 : decode cX12_servedBy 4 = .ok (.iload_n 3, 1) := by decide +kernel
theorem dX12_servedBy_5 : decode cX12_servedBy 5 = .ok (.aload_n 0, 1) := by decide +kernel
theorem dX12_servedBy_6 : decode cX12_servedBy 6 = .ok (.getfield 185, 3) := by decide +kernel
theorem dX12_servedBy_9 : decode cX12_servedBy 9 = .ok (.if_icmp .ge 141, 3) := by decide +kernel
theorem dX12_servedBy_12 : decode cX12_servedBy 12 = .ok (.aload_n 0, 1) := by decide +kernel
theorem dX12_servedBy_13 : decode cX12_servedBy 13 = .ok (.getfield 30, 3) := by decide +kernel
theorem dX12_servedBy_16 : decode cX12_servedBy 16 = .ok (.iconst 2, 1) := by decide +kernel
theorem dX12_servedBy_17 : decode cX12_servedBy 17 = .ok (.iaload, 1) := by decide +kernel
theorem dX12_servedBy_18 : decode cX12_servedBy 18 = .ok (.i2l, 1) := by decide +kernel
theorem dX12_servedBy_19 : decode cX12_servedBy 19 = .ok (.lstore 4, 2) := by decide +kernel
theorem dX12_servedBy_21 : decode cX12_servedBy 21 = .ok (.lconst 0, 1) := by decide +kernel
theorem dX12_servedBy_22 : decode cX12_servedBy 22 = .ok (.lstore 6, 2) := by decide +kernel
theorem dX12_servedBy_24 : decode cX12_servedBy 24 = .ok (.iload_n 1, 1) := by decide +kernel
theorem dX12_servedBy_25 : decode cX12_servedBy 25 = .ok (.istore 8, 2) := by decide +kernel
theorem dX12_servedBy_27 : decode cX12_servedBy 27 = .ok (.iconst 0, 1) := by decide +kernel
theorem dX12_servedBy_28 : decode cX12_servedBy 28 = .ok (.istore 9, 2) := by decide +kernel
theorem dX12_servedBy_30 : decode cX12_servedBy 30 = .ok (.iload 9, 2) := by decide +kernel
theorem dX12_servedBy_32 : decode cX12_servedBy 32 = .ok (.aload_n 0, 1) := by decide +kernel
theorem dX12_servedBy_33 : decode cX12_servedBy 33 = .ok (.getfield 182, 3) := by decide +kernel
theorem dX12_servedBy_36 : decode cX12_servedBy 36 = .ok (.if_icmp .ge 72, 3) := by decide +kernel
theorem dX12_servedBy_39 : decode cX12_servedBy 39 = .ok (.iload 8, 2) := by decide +kernel
theorem dX12_servedBy_41 : decode cX12_servedBy 41 = .ok (.iconst 3, 1) := by decide +kernel
theorem dX12_servedBy_42 : decode cX12_servedBy 42 = .ok (.irem, 1) := by decide +kernel
theorem dX12_servedBy_43 : decode cX12_servedBy 43 = .ok (.istore 10, 2) := by decide +kernel
theorem dX12_servedBy_45 : decode cX12_servedBy 45 = .ok (.iload 8, 2) := by decide +kernel
theorem dX12_servedBy_47 : decode cX12_servedBy 47 = .ok (.iconst 3, 1) := by decide +kernel
theorem dX12_servedBy_48 : decode cX12_servedBy 48 = .ok (.idiv, 1) := by decide +kernel
theorem dX12_servedBy_49 : decode cX12_servedBy 49 = .ok (.istore 8, 2) := by decide +kernel
theorem dX12_servedBy_51 : decode cX12_servedBy 51 = .ok (.iload 10, 2) := by decide +kernel
theorem dX12_servedBy_53 : decode cX12_servedBy 53 = .ok (.ifCond .le 49, 3) := by decide +kernel
theorem dX12_servedBy_56 : decode cX12_servedBy 56 = .ok (.aload_n 0, 1) := by decide +kernel
theorem dX12_servedBy_57 : decode cX12_servedBy 57 = .ok (.getfield 142, 3) := by decide +kernel
theorem dX12_servedBy_60 : decode cX12_servedBy 60 = .ok (.bipush 12, 2) := by decide +kernel
theorem dX12_servedBy_62 : decode cX12_servedBy 62 = .ok (.iconst 2, 1) := by decide +kernel
theorem dX12_servedBy_63 : decode cX12_servedBy 63 = .ok (.iload 9, 2) := by decide +kernel
theorem dX12_servedBy_65 : decode cX12_servedBy 65 = .ok (.imul, 1) := by decide +kernel
theorem dX12_servedBy_66 : decode cX12_servedBy 66 = .ok (.iload 10, 2) := by decide +kernel
theorem dX12_servedBy_68 : decode cX12_servedBy 68 = .ok (.iadd, 1) := by decide +kernel
theorem dX12_servedBy_69 : decode cX12_servedBy 69 = .ok (.iconst 1, 1) := by decide +kernel
theorem dX12_servedBy_70 : decode cX12_servedBy 70 = .ok (.isub, 1) := by decide +kernel
theorem dX12_servedBy_71 : decode cX12_servedBy 71 = .ok (.imul, 1) := by decide +kernel
theorem dX12_servedBy_72 : decode cX12_servedBy 72 = .ok (.iload_n 3, 1) := by decide +kernel
theorem dX12_servedBy_73 : decode cX12_servedBy 73 = .ok (.iadd, 1) := by decide +kernel
theorem dX12_servedBy_74 : decode cX12_servedBy 74 = .ok (.iaload, 1) := by decide +kernel
theorem dX12_servedBy_75 : decode cX12_servedBy 75 = .ok (.i2l, 1) := by decide +kernel
theorem dX12_servedBy_76 : decode cX12_servedBy 76 = .ok (.lstore 11, 2) := by decide +kernel
theorem dX12_servedBy_78 : decode cX12_servedBy 78 = .ok (.lload 4, 2) := by decide +kernel
theorem dX12_servedBy_80 : decode cX12_servedBy 80 = .ok (.lload 11, 2) := by decide +kernel
theorem dX12_servedBy_82 : decode cX12_servedBy 82 = .ok (.ladd, 1) := by decide +kernel
theorem dX12_servedBy_83 : decode cX12_servedBy 83 = .ok (.lstore 4, 2) := by decide +kernel
theorem dX12_servedBy_85 : decode cX12_servedBy 85 = .ok (.lload 11, 2) := by decide +kernel
theorem dX12_servedBy_87 : decode cX12_servedBy 87 = .ok (.lload 6, 2) := by decide +kernel
theorem dX12_servedBy_89 : decode cX12_servedBy 89 = .ok (.lcmp, 1) := by decide +kernel
theorem dX12_servedBy_90 : decode cX12_servedBy 90 = .ok (.ifCond .le 8, 3) := by decide +kernel
theorem dX12_servedBy_93 : decode cX12_servedBy 93 = .ok (.lload 11, 2) := by decide +kernel
theorem dX12_servedBy_95 : decode cX12_servedBy 95 = .ok (.goto 5, 3) := by decide +kernel
theorem dX12_servedBy_98 : decode cX12_servedBy 98 = .ok (.lload 6, 2) := by decide +kernel
theorem dX12_servedBy_100 : decode cX12_servedBy 100 = .ok (.lstore 6, 2) := by decide +kernel
theorem dX12_servedBy_102 : decode cX12_servedBy 102 = .ok (.iinc 9 1, 3) := by decide +kernel
theorem dX12_servedBy_105 : decode cX12_servedBy 105 = .ok (.goto (-75), 3) := by decide +kernel
theorem dX12_servedBy_108 : decode cX12_servedBy 108 = .ok (.iload_n 2, 1) := by decide +kernel
theorem dX12_servedBy_109 : decode cX12_servedBy 109 = .ok (.ldc2_w 257, 3) := by decide +kernel
theorem dX12_servedBy_112 : decode cX12_servedBy 112 = .ok (.lload 6, 2) := by decide +kernel
theorem dX12_servedBy_114 : decode cX12_servedBy 114 = .ok (.lmul, 1) := by decide +kernel
theorem dX12_servedBy_115 : decode cX12_servedBy 115 = .ok (.aload_n 0, 1) := by decide +kernel
theorem dX12_servedBy_116 : decode cX12_servedBy 116 = .ok (.getfield 30, 3) := by decide +kernel
theorem dX12_servedBy_119 : decode cX12_servedBy 119 = .ok (.iconst 4, 1) := by decide +kernel
theorem dX12_servedBy_120 : decode cX12_servedBy 120 = .ok (.iaload, 1) := by decide +kernel
theorem dX12_servedBy_121 : decode cX12_servedBy 121 = .ok (.i2l, 1) := by decide +kernel
theorem dX12_servedBy_122 : decode cX12_servedBy 122 = .ok (.lload 4, 2) := by decide +kernel
theorem dX12_servedBy_124 : decode cX12_servedBy 124 = .ok (.lload 6, 2) := by decide +kernel
theorem dX12_servedBy_126 : decode cX12_servedBy 126 = .ok (.lsub, 1) := by decide +kernel
theorem dX12_servedBy_127 : decode cX12_servedBy 127 = .ok (.lmul, 1) := by decide +kernel
theorem dX12_servedBy_128 : decode cX12_servedBy 128 = .ok (.lcmp, 1) := by decide +kernel
theorem dX12_servedBy_129 : decode cX12_servedBy 129 = .ok (.ifCond .lt 12, 3) := by decide +kernel
theorem dX12_servedBy_132 : decode cX12_servedBy 132 = .ok (.aload_n 0, 1) := by decide +kernel
theorem dX12_servedBy_133 : decode cX12_servedBy 133 = .ok (.getfield 139, 3) := by decide +kernel
theorem dX12_servedBy_136 : decode cX12_servedBy 136 = .ok (.iload_n 3, 1) := by decide +kernel
theorem dX12_servedBy_137 : decode cX12_servedBy 137 = .ok (.iaload, 1) := by decide +kernel
theorem dX12_servedBy_138 : decode cX12_servedBy 138 = .ok (.goto 4, 3) := by decide +kernel
theorem dX12_servedBy_141 : decode cX12_servedBy 141 = .ok (.iconst 0, 1) := by decide +kernel
theorem dX12_servedBy_142 : decode cX12_servedBy 142 = .ok (.iadd, 1) := by decide +kernel
theorem dX12_servedBy_143 : decode cX12_servedBy 143 = .ok (.istore_n 2, 1) := by decide +kernel
theorem dX12_servedBy_144 : decode cX12_servedBy 144 = .ok (.iinc 3 1, 3) := by decide +kernel
theorem dX12_servedBy_147 : decode cX12_servedBy 147 = .ok (.goto (-143), 3) := by decide +kernel
theorem dX12_servedBy_150 : decode cX12_servedBy 150 = .ok (.iload_n 2, 1) := by decide +kernel
theorem dX12_servedBy_151 : decode cX12_servedBy 151 = .ok (.ireturn, 1) := by decide +kernel
theorem dX12_pricedBy_0 : decode cX12_pricedBy 0 = .ok (.iconst 0, 1) := by decide +kernel
theorem dX12_pricedBy_1 : decode cX12_pricedBy 1 = .ok (.istore_n 2, 1) := by decide +kernel
theorem dX12_pricedBy_2 : decode cX12_pricedBy 2 = .ok (.iload_n 1, 1) := by decide +kernel
theorem dX12_pricedBy_3 : decode cX12_pricedBy 3 = .ok (.istore_n 3, 1) := by decide +kernel
theorem dX12_pricedBy_4 : decode cX12_pricedBy 4 = .ok (.iconst 0, 1) := by decide +kernel
theorem dX12_pricedBy_5 : decode cX12_pricedBy 5 = .ok (.istore 4, 2) := by decide +kernel
theorem dX12_pricedBy_7 : decode cX12_pricedBy 7 = .ok (.iload 4, 2) := by decide +kernel
theorem dX12_pricedBy_9 : decode cX12_pricedBy 9 = .ok (.aload_n 0, 1) := by decide +kernel
theorem dX12_pricedBy_10 : decode cX12_pricedBy 10 = .ok (.getfield 182, 3) := by decide +kernel
theorem dX12_pricedBy_13 : decode cX12_pricedBy 13 = .ok (.if_icmp .ge 44, 3) := by decide +kernel
theorem dX12_pricedBy_16 : decode cX12_pricedBy 16 = .ok (.iload_n 3, 1) := by decide +kernel
theorem dX12_pricedBy_17 : decode cX12_pricedBy 17 = .ok (.iconst 3, 1) := by decide +kernel
theorem dX12_pricedBy_18 : decode cX12_pricedBy 18 = .ok (.irem, 1) := by decide +kernel
theorem dX12_pricedBy_19 : decode cX12_pricedBy 19 = .ok (.istore 5, 2) := by decide +kernel
theorem dX12_pricedBy_21 : decode cX12_pricedBy 21 = .ok (.iload_n 3, 1) := by decide +kernel
theorem dX12_pricedBy_22 : decode cX12_pricedBy 22 = .ok (.iconst 3, 1) := by decide +kernel
theorem dX12_pricedBy_23 : decode cX12_pricedBy 23 = .ok (.idiv, 1) := by decide +kernel
theorem dX12_pricedBy_24 : decode cX12_pricedBy 24 = .ok (.istore_n 3, 1) := by decide +kernel
theorem dX12_pricedBy_25 : decode cX12_pricedBy 25 = .ok (.iload_n 2, 1) := by decide +kernel
theorem dX12_pricedBy_26 : decode cX12_pricedBy 26 = .ok (.iload 5, 2) := by decide +kernel
theorem dX12_pricedBy_28 : decode cX12_pricedBy 28 = .ok (.ifCond .le 20, 3) := by decide +kernel
theorem dX12_pricedBy_31 : decode cX12_pricedBy 31 = .ok (.aload_n 0, 1) := by decide +kernel
theorem dX12_pricedBy_32 : decode cX12_pricedBy 32 = .ok (.getfield 133, 3) := by decide +kernel
theorem dX12_pricedBy_35 : decode cX12_pricedBy 35 = .ok (.iconst 2, 1) := by decide +kernel
theorem dX12_pricedBy_36 : decode cX12_pricedBy 36 = .ok (.iload 4, 2) := by decide +kernel
theorem dX12_pricedBy_38 : decode cX12_pricedBy 38 = .ok (.imul, 1) := by decide +kernel
theorem dX12_pricedBy_39 : decode cX12_pricedBy 39 = .ok (.iload 5, 2) := by decide +kernel
theorem dX12_pricedBy_41 : decode cX12_pricedBy 41 = .ok (.iadd, 1) := by decide +kernel
theorem dX12_pricedBy_42 : decode cX12_pricedBy 42 = .ok (.iconst 1, 1) := by decide +kernel
theorem dX12_pricedBy_43 : decode cX12_pricedBy 43 = .ok (.isub, 1) := by decide +kernel
theorem dX12_pricedBy_44 : decode cX12_pricedBy 44 = .ok (.iaload, 1) := by decide +kernel
theorem dX12_pricedBy_45 : decode cX12_pricedBy 45 = .ok (.goto 4, 3) := by decide +kernel
theorem dX12_pricedBy_48 : decode cX12_pricedBy 48 = .ok (.iconst 0, 1) := by decide +kernel
theorem dX12_pricedBy_49 : decode cX12_pricedBy 49 = .ok (.iadd, 1) := by decide +kernel
theorem dX12_pricedBy_50 : decode cX12_pricedBy 50 = .ok (.istore_n 2, 1) := by decide +kernel
theorem dX12_pricedBy_51 : decode cX12_pricedBy 51 = .ok (.iinc 4 1, 3) := by decide +kernel
theorem dX12_pricedBy_54 : decode cX12_pricedBy 54 = .ok (.goto (-47), 3) := by decide +kernel
theorem dX12_pricedBy_57 : decode cX12_pricedBy 57 = .ok (.iload_n 2, 1) := by decide +kernel
theorem dX12_pricedBy_58 : decode cX12_pricedBy 58 = .ok (.ireturn, 1) := by decide +kernel
theorem dX12_serves_0 : decode cX12_serves 0 = .ok (.iload_n 1, 1) := by decide +kernel
theorem dX12_serves_1 : decode cX12_serves 1 = .ok (.i2l, 1) := by decide +kernel
theorem dX12_serves_2 : decode cX12_serves 2 = .ok (.lconst 0, 1) := by decide +kernel
theorem dX12_serves_3 : decode cX12_serves 3 = .ok (.aload_n 0, 1) := by decide +kernel
theorem dX12_serves_4 : decode cX12_serves 4 = .ok (.invokevirtual 398, 3) := by decide +kernel
theorem dX12_serves_7 : decode cX12_serves 7 = .ok (.iconst 1, 1) := by decide +kernel
theorem dX12_serves_8 : decode cX12_serves 8 = .ok (.isub, 1) := by decide +kernel
theorem dX12_serves_9 : decode cX12_serves 9 = .ok (.i2l, 1) := by decide +kernel
theorem dX12_serves_10 : decode cX12_serves 10 = .ok (.invokestatic 152, 3) := by decide +kernel
theorem dX12_serves_13 : decode cX12_serves 13 = .ok (.ifCond .ne 6, 3) := by decide +kernel
theorem dX12_serves_16 : decode cX12_serves 16 = .ok (.bipush (-2), 2) := by decide +kernel
theorem dX12_serves_18 : decode cX12_serves 18 = .ok (.ireturn, 1) := by decide +kernel
theorem dX12_serves_19 : decode cX12_serves 19 = .ok (.aload_n 0, 1) := by decide +kernel
theorem dX12_serves_20 : decode cX12_serves 20 = .ok (.invokevirtual 401, 3) := by decide +kernel
theorem dX12_serves_23 : decode cX12_serves 23 = .ok (.aload_n 0, 1) := by decide +kernel
theorem dX12_serves_24 : decode cX12_serves 24 = .ok (.iload_n 1, 1) := by decide +kernel
theorem dX12_serves_25 : decode cX12_serves 25 = .ok (.invokevirtual 404, 3) := by decide +kernel
theorem dX12_serves_28 : decode cX12_serves 28 = .ok (.ireturn, 1) := by decide +kernel
theorem dX12_findPlan_0 : decode cX12_findPlan 0 = .ok (.aload_n 0, 1) := by decide +kernel
theorem dX12_findPlan_1 : decode cX12_findPlan 1 = .ok (.invokevirtual 401, 3) := by decide +kernel
theorem dX12_findPlan_4 : decode cX12_findPlan 4 = .ok (.aload_n 0, 1) := by decide +kernel
theorem dX12_findPlan_5 : decode cX12_findPlan 5 = .ok (.iconst 0, 1) := by decide +kernel
theorem dX12_findPlan_6 : decode cX12_findPlan 6 = .ok (.putfield 407, 3) := by decide +kernel
theorem dX12_findPlan_9 : decode cX12_findPlan 9 = .ok (.aload_n 0, 1) := by decide +kernel
theorem dX12_findPlan_10 : decode cX12_findPlan 10 = .ok (.aload_n 0, 1) := by decide +kernel
theorem dX12_findPlan_11 : decode cX12_findPlan 11 = .ok (.iconst 0, 1) := by decide +kernel
theorem dX12_findPlan_12 : decode cX12_findPlan 12 = .ok (.invokevirtual 404, 3) := by decide +kernel
theorem dX12_findPlan_15 : decode cX12_findPlan 15 = .ok (.putfield 410, 3) := by decide +kernel
theorem dX12_findPlan_18 : decode cX12_findPlan 18 = .ok (.aload_n 0, 1) := by decide +kernel
theorem dX12_findPlan_19 : decode cX12_findPlan 19 = .ok (.iconst 0, 1) := by decide +kernel
theorem dX12_findPlan_20 : decode cX12_findPlan 20 = .ok (.putfield 413, 3) := by decide +kernel
theorem dX12_findPlan_23 : decode cX12_findPlan 23 = .ok (.aload_n 0, 1) := by decide +kernel
theorem dX12_findPlan_24 : decode cX12_findPlan 24 = .ok (.invokevirtual 398, 3) := by decide +kernel
theorem dX12_findPlan_27 : decode cX12_findPlan 27 = .ok (.istore_n 2, 1) := by decide +kernel
theorem dX12_findPlan_28 : decode cX12_findPlan 28 = .ok (.iconst 1, 1) := by decide +kernel
theorem dX12_findPlan_29 : decode cX12_findPlan 29 = .ok (.istore_n 3, 1) := by decide +kernel
theorem dX12_findPlan_30 : decode cX12_findPlan 30 = .ok (.iload_n 3, 1) := by decide +kernel
theorem dX12_findPlan_31 : decode cX12_findPlan 31 = .ok (.iload_n 2, 1) := by decide +kernel
theorem dX12_findPlan_32 : decode cX12_findPlan 32 = .ok (.if_icmp .ge 73, 3) := by decide +kernel
theorem dX12_findPlan_35 : decode cX12_findPlan 35 = .ok (.aload_n 0, 1) := by decide +kernel
theorem dX12_findPlan_36 : decode cX12_findPlan 36 = .ok (.iload_n 3, 1) := by decide +kernel
theorem dX12_findPlan_37 : decode cX12_findPlan 37 = .ok (.invokevirtual 416, 3) := by decide +kernel
theorem dX12_findPlan_40 : decode cX12_findPlan 40 = .ok (.istore 4, 2) := by decide +kernel
theorem dX12_findPlan_42 : decode cX12_findPlan 42 = .ok (.iload 4, 2) := by decide +kernel
theorem dX12_findPlan_44 : decode cX12_findPlan 44 = .ok (.iload_n 1, 1) := by decide +kernel
theorem dX12_findPlan_45 : decode cX12_findPlan 45 = .ok (.if_icmp .gt 54, 3) := by decide +kernel
theorem dX12_findPlan_48 : decode cX12_findPlan 48 = .ok (.aload_n 0, 1) := by decide +kernel
theorem dX12_findPlan_49 : decode cX12_findPlan 49 = .ok (.iload_n 3, 1) := by decide +kernel
theorem dX12_findPlan_50 : decode cX12_findPlan 50 = .ok (.invokevirtual 404, 3) := by decide +kernel
theorem dX12_findPlan_53 : decode cX12_findPlan 53 = .ok (.istore 5, 2) := by decide +kernel
theorem dX12_findPlan_55 : decode cX12_findPlan 55 = .ok (.iload 5, 2) := by decide +kernel
theorem dX12_findPlan_57 : decode cX12_findPlan 57 = .ok (.aload_n 0, 1) := by decide +kernel
theorem dX12_findPlan_58 : decode cX12_findPlan 58 = .ok (.getfield 410, 3) := by decide +kernel
theorem dX12_findPlan_61 : decode cX12_findPlan 61 = .ok (.if_icmp .gt 21, 3) := by decide +kernel
theorem dX12_findPlan_64 : decode cX12_findPlan 64 = .ok (.iload 5, 2) := by decide +kernel
theorem dX12_findPlan_66 : decode cX12_findPlan 66 = .ok (.aload_n 0, 1) := by decide +kernel
theorem dX12_findPlan_67 : decode cX12_findPlan 67 = .ok (.getfield 410, 3) := by decide +kernel
theorem dX12_findPlan_70 : decode cX12_findPlan 70 = .ok (.if_icmp .ne 29, 3) := by decide +kernel
theorem dX12_findPlan_73 : decode cX12_findPlan 73 = .ok (.iload 4, 2) := by decide +kernel
theorem dX12_findPlan_75 : decode cX12_findPlan 75 = .ok (.aload_n 0, 1) := by decide +kernel
theorem dX12_findPlan_76 : decode cX12_findPlan 76 = .ok (.getfield 413, 3) := by decide +kernel
theorem dX12_findPlan_79 : decode cX12_findPlan 79 = .ok (.if_icmp .ge 20, 3) := by decide +kernel
theorem dX12_findPlan_82 : decode cX12_findPlan 82 = .ok (.aload_n 0, 1) := by decide +kernel
theorem dX12_findPlan_83 : decode cX12_findPlan 83 = .ok (.iload_n 3, 1) := by decide +kernel
theorem dX12_findPlan_84 : decode cX12_findPlan 84 = .ok (.putfield 407, 3) := by decide +kernel
theorem dX12_findPlan_87 : decode cX12_findPlan 87 = .ok (.aload_n 0, 1) := by decide +kernel
theorem dX12_findPlan_88 : decode cX12_findPlan 88 = .ok (.iload 5, 2) := by decide +kernel
theorem dX12_findPlan_90 : decode cX12_findPlan 90 = .ok (.putfield 410, 3) := by decide +kernel
theorem dX12_findPlan_93 : decode cX12_findPlan 93 = .ok (.aload_n 0, 1) := by decide +kernel
theorem dX12_findPlan_94 : decode cX12_findPlan 94 = .ok (.iload 4, 2) := by decide +kernel
theorem dX12_findPlan_96 : decode cX12_findPlan 96 = .ok (.putfield 413, 3) := by decide +kernel
theorem dX12_findPlan_99 : decode cX12_findPlan 99 = .ok (.iinc 3 1, 3) := by decide +kernel
theorem dX12_findPlan_102 : decode cX12_findPlan 102 = .ok (.goto (-72), 3) := by decide +kernel
theorem dX12_findPlan_105 : decode cX12_findPlan 105 = .ok (.return_, 1) := by decide +kernel
theorem dX12_plan_0 : decode cX12_plan 0 = .ok (.iload_n 1, 1) := by decide +kernel
theorem dX12_plan_1 : decode cX12_plan 1 = .ok (.i2l, 1) := by decide +kernel
theorem dX12_plan_2 : decode cX12_plan 2 = .ok (.lconst 0, 1) := by decide +kernel
theorem dX12_plan_3 : decode cX12_plan 3 = .ok (.ldc2_w 204, 3) := by decide +kernel
theorem dX12_plan_6 : decode cX12_plan 6 = .ok (.invokestatic 152, 3) := by decide +kernel
theorem dX12_plan_9 : decode cX12_plan 9 = .ok (.ifCond .eq 15, 3) := by decide +kernel
theorem dX12_plan_12 : decode cX12_plan 12 = .ok (.iload_n 2, 1) := by decide +kernel
theorem dX12_plan_13 : decode cX12_plan 13 = .ok (.i2l, 1) := by decide +kernel
theorem dX12_plan_14 : decode cX12_plan 14 = .ok (.lconst 0, 1) := by decide +kernel
theorem dX12_plan_15 : decode cX12_plan 15 = .ok (.ldc2_w 326, 3) := by decide +kernel
theorem dX12_plan_18 : decode cX12_plan 18 = .ok (.invokestatic 152, 3) := by decide +kernel
theorem dX12_plan_21 : decode cX12_plan 21 = .ok (.ifCond .ne 6, 3) := by decide +kernel
theorem dX12_plan_24 : decode cX12_plan 24 = .ok (.bipush (-2), 2) := by decide +kernel
theorem dX12_plan_26 : decode cX12_plan 26 = .ok (.ireturn, 1) := by decide +kernel
theorem dX12_plan_27 : decode cX12_plan 27 = .ok (.aload_n 0, 1) := by decide +kernel
theorem dX12_plan_28 : decode cX12_plan 28 = .ok (.iload_n 1, 1) := by decide +kernel
theorem dX12_plan_29 : decode cX12_plan 29 = .ok (.invokevirtual 419, 3) := by decide +kernel
theorem dX12_plan_32 : decode cX12_plan 32 = .ok (.iload_n 2, 1) := by decide +kernel
theorem dX12_plan_33 : decode cX12_plan 33 = .ok (.ifCond .ne 10, 3) := by decide +kernel
theorem dX12_plan_36 : decode cX12_plan 36 = .ok (.aload_n 0, 1) := by decide +kernel
theorem dX12_plan_37 : decode cX12_plan 37 = .ok (.getfield 407, 3) := by decide +kernel
