theorem dX12_plan_40 : decode cX12_plan 40 = .ok (.goto 19, 3) := by decide +kernel
theorem dX12_plan_43 : decode cX12_plan 43 = .ok (.iload_n 2, 1) := by decide +kernel
theorem dX12_plan_44 : decode cX12_plan 44 = .ok (.iconst 1, 1) := by decide +kernel
theorem dX12_plan_45 : decode cX12_plan 45 = .ok (.if_icmp .ne 10, 3) := by decide +kernel
theorem dX12_plan_48 : decode cX12_plan 48 = .ok (.aload_n 0, 1) := by decide +kernel
theorem dX12_plan_49 : decode cX12_plan 49 = .ok (.getfield 410, 3) := by decide +kernel
theorem dX12_plan_52 : decode cX12_plan 52 = .ok (.goto 7, 3) := by decide +kernel
theorem dX12_plan_55 : decode cX12_plan 55 = .ok (.aload_n 0, 1) := by decide +kernel
theorem dX12_plan_56 : decode cX12_plan 56 = .ok (.getfield 413, 3) := by decide +kernel
theorem dX12_plan_59 : decode cX12_plan 59 = .ok (.ireturn, 1) := by decide +kernel
theorem dX12_map_0 : decode cX12_map 0 = .ok (.aload_n 0, 1) := by decide +kernel
theorem dX12_map_1 : decode cX12_map 1 = .ok (.iload_n 1, 1) := by decide +kernel
theorem dX12_map_2 : decode cX12_map 2 = .ok (.invokevirtual 237, 3) := by decide +kernel
theorem dX12_map_5 : decode cX12_map 5 = .ok (.ifCond .eq 10, 3) := by decide +kernel
theorem dX12_map_8 : decode cX12_map 8 = .ok (.iload_n 2, 1) := by decide +kernel
theorem dX12_map_9 : decode cX12_map 9 = .ok (.invokestatic 156, 3) := by decide +kernel
theorem dX12_map_12 : decode cX12_map 12 = .ok (.ifCond .ne 6, 3) := by decide +kernel
theorem dX12_map_15 : decode cX12_map 15 = .ok (.bipush (-2), 2) := by decide +kernel
theorem dX12_map_17 : decode cX12_map 17 = .ok (.ireturn, 1) := by decide +kernel
theorem dX12_map_18 : decode cX12_map 18 = .ok (.aload_n 0, 1) := by decide +kernel
theorem dX12_map_19 : decode cX12_map 19 = .ok (.getfield 7, 3) := by decide +kernel
theorem dX12_map_22 : decode cX12_map 22 = .ok (.iload_n 2, 1) := by decide +kernel
theorem dX12_map_23 : decode cX12_map 23 = .ok (.iaload, 1) := by decide +kernel
theorem dX12_map_24 : decode cX12_map 24 = .ok (.ifCond .ge 9, 3) := by decide +kernel
theorem dX12_map_27 : decode cX12_map 27 = .ok (.aload_n 0, 1) := by decide +kernel
theorem dX12_map_28 : decode cX12_map 28 = .ok (.iconst 1, 1) := by decide +kernel
theorem dX12_map_29 : decode cX12_map 29 = .ok (.invokevirtual 162, 3) := by decide +kernel
theorem dX12_map_32 : decode cX12_map 32 = .ok (.ireturn, 1) := by decide +kernel
theorem dX12_map_33 : decode cX12_map 33 = .ok (.aload_n 0, 1) := by decide +kernel
theorem dX12_map_34 : decode cX12_map 34 = .ok (.getfield 23, 3) := by decide +kernel
theorem dX12_map_37 : decode cX12_map 37 = .ok (.aload_n 0, 1) := by decide +kernel
theorem dX12_map_38 : decode cX12_map 38 = .ok (.getfield 27, 3) := by decide +kernel
theorem dX12_map_41 : decode cX12_map 41 = .ok (.imul, 1) := by decide +kernel
theorem dX12_map_42 : decode cX12_map 42 = .ok (.aload_n 0, 1) := by decide +kernel
theorem dX12_map_43 : decode cX12_map 43 = .ok (.getfield 13, 3) := by decide +kernel
theorem dX12_map_46 : decode cX12_map 46 = .ok (.iload_n 2, 1) := by decide +kernel
theorem dX12_map_47 : decode cX12_map 47 = .ok (.iaload, 1) := by decide +kernel
theorem dX12_map_48 : decode cX12_map 48 = .ok (.if_icmp .ge 15, 3) := by decide +kernel
theorem dX12_map_51 : decode cX12_map 51 = .ok (.aload_n 0, 1) := by decide +kernel
theorem dX12_map_52 : decode cX12_map 52 = .ok (.getfield 23, 3) := by decide +kernel
theorem dX12_map_55 : decode cX12_map 55 = .ok (.aload_n 0, 1) := by decide +kernel
theorem dX12_map_56 : decode cX12_map 56 = .ok (.getfield 27, 3) := by decide +kernel
theorem dX12_map_59 : decode cX12_map 59 = .ok (.imul, 1) := by decide +kernel
theorem dX12_map_60 : decode cX12_map 60 = .ok (.goto 9, 3) := by decide +kernel
theorem dX12_map_63 : decode cX12_map 63 = .ok (.aload_n 0, 1) := by decide +kernel
theorem dX12_map_64 : decode cX12_map 64 = .ok (.getfield 13, 3) := by decide +kernel
theorem dX12_map_67 : decode cX12_map 67 = .ok (.iload_n 2, 1) := by decide +kernel
theorem dX12_map_68 : decode cX12_map 68 = .ok (.iaload, 1) := by decide +kernel
theorem dX12_map_69 : decode cX12_map 69 = .ok (.istore_n 3, 1) := by decide +kernel
theorem dX12_map_70 : decode cX12_map 70 = .ok (.iconst 0, 1) := by decide +kernel
theorem dX12_map_71 : decode cX12_map 71 = .ok (.istore 4, 2) := by decide +kernel
theorem dX12_map_73 : decode cX12_map 73 = .ok (.iload 4, 2) := by decide +kernel
theorem dX12_map_75 : decode cX12_map 75 = .ok (.iload_n 3, 1) := by decide +kernel
theorem dX12_map_76 : decode cX12_map 76 = .ok (.if_icmp .ge 25, 3) := by decide +kernel
theorem dX12_map_79 : decode cX12_map 79 = .ok (.aload_n 0, 1) := by decide +kernel
theorem dX12_map_80 : decode cX12_map 80 = .ok (.getfield 20, 3) := by decide +kernel
theorem dX12_map_83 : decode cX12_map 83 = .ok (.iload 4, 2) := by decide +kernel
theorem dX12_map_85 : decode cX12_map 85 = .ok (.aload_n 0, 1) := by decide +kernel
theorem dX12_map_86 : decode cX12_map 86 = .ok (.iload_n 1, 1) := by decide +kernel
theorem dX12_map_87 : decode cX12_map 87 = .ok (.iload 4, 2) := by decide +kernel
theorem dX12_map_89 : decode cX12_map 89 = .ok (.iconst 0, 1) := by decide +kernel
theorem dX12_map_90 : decode cX12_map 90 = .ok (.invokevirtual 251, 3) := by decide +kernel
theorem dX12_map_93 : decode cX12_map 93 = .ok (.i2l, 1) := by decide +kernel
theorem dX12_map_94 : decode cX12_map 94 = .ok (.lastore, 1) := by decide +kernel
theorem dX12_map_95 : decode cX12_map 95 = .ok (.iinc 4 1, 3) := by decide +kernel
theorem dX12_map_98 : decode cX12_map 98 = .ok (.goto (-25), 3) := by decide +kernel
theorem dX12_map_101 : decode cX12_map 101 = .ok (.iconst 0, 1) := by decide +kernel
theorem dX12_map_102 : decode cX12_map 102 = .ok (.istore 4, 2) := by decide +kernel
theorem dX12_map_104 : decode cX12_map 104 = .ok (.iload 4, 2) := by decide +kernel
theorem dX12_map_106 : decode cX12_map 106 = .ok (.iload_n 3, 1) := by decide +kernel
theorem dX12_map_107 : decode cX12_map 107 = .ok (.if_icmp .ge 38, 3) := by decide +kernel
theorem dX12_map_110 : decode cX12_map 110 = .ok (.aload_n 0, 1) := by decide +kernel
theorem dX12_map_111 : decode cX12_map 111 = .ok (.getfield 16, 3) := by decide +kernel
theorem dX12_map_114 : decode cX12_map 114 = .ok (.sipush 400, 3) := by decide +kernel
theorem dX12_map_117 : decode cX12_map 117 = .ok (.iload_n 2, 1) := by decide +kernel
theorem dX12_map_118 : decode cX12_map 118 = .ok (.imul, 1) := by decide +kernel
theorem dX12_map_119 : decode cX12_map 119 = .ok (.iload 4, 2) := by decide +kernel
theorem dX12_map_121 : decode cX12_map 121 = .ok (.iadd, 1) := by decide +kernel
theorem dX12_map_122 : decode cX12_map 122 = .ok (.aload_n 0, 1) := by decide +kernel
theorem dX12_map_123 : decode cX12_map 123 = .ok (.getfield 7, 3) := by decide +kernel
theorem dX12_map_126 : decode cX12_map 126 = .ok (.iload_n 2, 1) := by decide +kernel
theorem dX12_map_127 : decode cX12_map 127 = .ok (.iaload, 1) := by decide +kernel
theorem dX12_map_128 : decode cX12_map 128 = .ok (.aload_n 0, 1) := by decide +kernel
theorem dX12_map_129 : decode cX12_map 129 = .ok (.getfield 20, 3) := by decide +kernel
theorem dX12_map_132 : decode cX12_map 132 = .ok (.iload 4, 2) := by decide +kernel
theorem dX12_map_134 : decode cX12_map 134 = .ok (.laload, 1) := by decide +kernel
theorem dX12_map_135 : decode cX12_map 135 = .ok (.invokestatic 170, 3) := by decide +kernel
theorem dX12_map_138 : decode cX12_map 138 = .ok (.lastore, 1) := by decide +kernel
theorem dX12_map_139 : decode cX12_map 139 = .ok (.iinc 4 1, 3) := by decide +kernel
theorem dX12_map_142 : decode cX12_map 142 = .ok (.goto (-38), 3) := by decide +kernel
theorem dX12_map_145 : decode cX12_map 145 = .ok (.iload_n 3, 1) := by decide +kernel
theorem dX12_map_146 : decode cX12_map 146 = .ok (.ireturn, 1) := by decide +kernel
theorem dX12_count_0 : decode cX12_count 0 = .ok (.iconst 0, 1) := by decide +kernel
theorem dX12_count_1 : decode cX12_count 1 = .ok (.istore_n 2, 1) := by decide +kernel
theorem dX12_count_2 : decode cX12_count 2 = .ok (.iload_n 1, 1) := by decide +kernel
theorem dX12_count_3 : decode cX12_count 3 = .ok (.tableswitch 151 0 11 #[61, 66, 101, 106, 111, 116, 121, 126, 131, 136, 141, 146], 61) := by decide +kernel
theorem dX12_count_64 : decode cX12_count 64 = .ok (.aload_n 0, 1) := by decide +kernel
theorem dX12_count_65 : decode cX12_count 65 = .ok (.getfield 176, 3) := by decide +kernel
theorem dX12_count_68 : decode cX12_count 68 = .ok (.ireturn, 1) := by decide +kernel
theorem dX12_count_69 : decode cX12_count 69 = .ok (.iconst 0, 1) := by decide +kernel
theorem dX12_count_70 : decode cX12_count 70 = .ok (.istore_n 3, 1) := by decide +kernel
theorem dX12_count_71 : decode cX12_count 71 = .ok (.iload_n 3, 1) := by decide +kernel
theorem dX12_count_72 : decode cX12_count 72 = .ok (.aload_n 0, 1) := by decide +kernel
theorem dX12_count_73 : decode cX12_count 73 = .ok (.getfield 176, 3) := by decide +kernel
theorem dX12_count_76 : decode cX12_count 76 = .ok (.if_icmp .ge 26, 3) := by decide +kernel
theorem dX12_count_79 : decode cX12_count 79 = .ok (.iload_n 2, 1) := by decide +kernel
theorem dX12_count_80 : decode cX12_count 80 = .ok (.aload_n 0, 1) := by decide +kernel
theorem dX12_count_81 : decode cX12_count 81 = .ok (.getfield 63, 3) := by decide +kernel
theorem dX12_count_84 : decode cX12_count 84 = .ok (.iload_n 3, 1) := by decide +kernel
theorem dX12_count_85 : decode cX12_count 85 = .ok (.baload, 1) := by decide +kernel
theorem dX12_count_86 : decode cX12_count 86 = .ok (.ifCond .eq 7, 3) := by decide +kernel
theorem dX12_count_89 : decode cX12_count 89 = .ok (.iconst 1, 1) := by decide +kernel
theorem dX12_count_90 : decode cX12_count 90 = .ok (.goto 4, 3) := by decide +kernel
theorem dX12_count_93 : decode cX12_count 93 = .ok (.iconst 0, 1) := by decide +kernel
theorem dX12_count_94 : decode cX12_count 94 = .ok (.iadd, 1) := by decide +kernel
theorem dX12_count_95 : decode cX12_count 95 = .ok (.istore_n 2, 1) := by decide +kernel
theorem dX12_count_96 : decode cX12_count 96 = .ok (.iinc 3 1, 3) := by decide +kernel
theorem dX12_count_99 : decode cX12_count 99 = .ok (.goto (-28), 3) := by decide +kernel
theorem dX12_count_102 : decode cX12_count 102 = .ok (.iload_n 2, 1) := by decide +kernel
theorem dX12_count_103 : decode cX12_count 103 = .ok (.ireturn, 1) := by decide +kernel
theorem dX12_count_104 : decode cX12_count 104 = .ok (.aload_n 0, 1) := by decide +kernel
theorem dX12_count_105 : decode cX12_count 105 = .ok (.getfield 334, 3) := by decide +kernel
theorem dX12_count_108 : decode cX12_count 108 = .ok (.ireturn, 1) := by decide +kernel
theorem dX12_count_109 : decode cX12_count 109 = .ok (.aload_n 0, 1) := by decide +kernel
theorem dX12_count_110 : decode cX12_count 110 = .ok (.getfield 345, 3) := by decide +kernel
theorem dX12_count_113 : decode cX12_count 113 = .ok (.ireturn, 1) := by decide +kernel
theorem dX12_count_114 : decode cX12_count 114 = .ok (.aload_n 0, 1) := by decide +kernel
theorem dX12_count_115 : decode cX12_count 115 = .ok (.getfield 179, 3) := by decide +kernel
theorem dX12_count_118 : decode cX12_count 118 = .ok (.ireturn, 1) := by decide +kernel
theorem dX12_count_119 : decode cX12_count 119 = .ok (.aload_n 0, 1) := by decide +kernel
theorem dX12_count_120 : decode cX12_count 120 = .ok (.invokevirtual 395, 3) := by decide +kernel
theorem dX12_count_123 : decode cX12_count 123 = .ok (.ireturn, 1) := by decide +kernel
theorem dX12_count_124 : decode cX12_count 124 = .ok (.aload_n 0, 1) := by decide +kernel
theorem dX12_count_125 : decode cX12_count 125 = .ok (.getfield 182, 3) := by decide +kernel
theorem dX12_count_128 : decode cX12_count 128 = .ok (.ireturn, 1) := by decide +kernel
theorem dX12_count_129 : decode cX12_count 129 = .ok (.aload_n 0, 1) := by decide +kernel
theorem dX12_count_130 : decode cX12_count 130 = .ok (.getfield 185, 3) := by decide +kernel
theorem dX12_count_133 : decode cX12_count 133 = .ok (.ireturn, 1) := by decide +kernel
theorem dX12_count_134 : decode cX12_count 134 = .ok (.aload_n 0, 1) := by decide +kernel
theorem dX12_count_135 : decode cX12_count 135 = .ok (.getfield 226, 3) := by decide +kernel
theorem dX12_count_138 : decode cX12_count 138 = .ok (.ireturn, 1) := by decide +kernel
theorem dX12_count_139 : decode cX12_count 139 = .ok (.aload_n 0, 1) := by decide +kernel
theorem dX12_count_140 : decode cX12_count 140 = .ok (.getfield 147, 3) := by decide +kernel
theorem dX12_count_143 : decode cX12_count 143 = .ok (.ireturn, 1) := by decide +kernel
theorem dX12_count_144 : decode cX12_count 144 = .ok (.aload_n 0, 1) := by decide +kernel
theorem dX12_count_145 : decode cX12_count 145 = .ok (.getfield 23, 3) := by decide +kernel
theorem dX12_count_148 : decode cX12_count 148 = .ok (.ireturn, 1) := by decide +kernel
theorem dX12_count_149 : decode cX12_count 149 = .ok (.aload_n 0, 1) := by decide +kernel
theorem dX12_count_150 : decode cX12_count 150 = .ok (.getfield 27, 3) := by decide +kernel
theorem dX12_count_153 : decode cX12_count 153 = .ok (.ireturn, 1) := by decide +kernel
theorem dX12_count_154 : decode cX12_count 154 = .ok (.bipush (-2), 2) := by decide +kernel
theorem dX12_count_156 : decode cX12_count 156 = .ok (.ireturn, 1) := by decide +kernel
theorem dX12_digest_0 : decode cX12_digest 0 = .ok (.ldc2_w 422, 3) := by decide +kernel
theorem dX12_digest_3 : decode cX12_digest 3 = .ok (.lstore_n 1, 1) := by decide +kernel
theorem dX12_digest_4 : decode cX12_digest 4 = .ok (.iconst 0, 1) := by decide +kernel
theorem dX12_digest_5 : decode cX12_digest 5 = .ok (.istore_n 3, 1) := by decide +kernel
theorem dX12_digest_6 : decode cX12_digest 6 = .ok (.iload_n 3, 1) := by decide +kernel
theorem dX12_digest_7 : decode cX12_digest 7 = .ok (.bipush 12, 2) := by decide +kernel
theorem dX12_digest_9 : decode cX12_digest 9 = .ok (.if_icmp .ge 32, 3) := by decide +kernel
theorem dX12_digest_12 : decode cX12_digest 12 = .ok (.iload_n 3, 1) := by decide +kernel
theorem dX12_digest_13 : decode cX12_digest 13 = .ok (.bipush 9, 2) := by decide +kernel
theorem dX12_digest_15 : decode cX12_digest 15 = .ok (.if_icmp .ne 7, 3) := by decide +kernel
theorem dX12_digest_18 : decode cX12_digest 18 = .ok (.lload_n 1, 1) := by decide +kernel
theorem dX12_digest_19 : decode cX12_digest 19 = .ok (.goto 15, 3) := by decide +kernel
theorem dX12_digest_22 : decode cX12_digest 22 = .ok (.ldc2_w 424, 3) := by decide +kernel
theorem dX12_digest_25 : decode cX12_digest 25 = .ok (.lload_n 1, 1) := by decide +kernel
theorem dX12_digest_26 : decode cX12_digest 26 = .ok (.lmul, 1) := by decide +kernel
theorem dX12_digest_27 : decode cX12_digest 27 = .ok (.aload_n 0, 1) := by decide +kernel
theorem dX12_digest_28 : decode cX12_digest 28 = .ok (.iload_n 3, 1) := by decide +kernel
theorem dX12_digest_29 : decode cX12_digest 29 = .ok (.invokevirtual 426, 3) := by decide +kernel
theorem dX12_digest_32 : decode cX12_digest 32 = .ok (.i2l, 1) := by decide +kernel
theorem dX12_digest_33 : decode cX12_digest 33 = .ok (.ladd, 1) := by decide +kernel
theorem dX12_digest_34 : decode cX12_digest 34 = .ok (.lstore_n 1, 1) := by decide +kernel
theorem dX12_digest_35 : decode cX12_digest 35 = .ok (.iinc 3 1, 3) := by decide +kernel
theorem dX12_digest_38 : decode cX12_digest 38 = .ok (.goto (-32), 3) := by decide +kernel
theorem dX12_digest_41 : decode cX12_digest 41 = .ok (.iconst 0, 1) := by decide +kernel
theorem dX12_digest_42 : decode cX12_digest 42 = .ok (.istore_n 3, 1) := by decide +kernel
theorem dX12_digest_43 : decode cX12_digest 43 = .ok (.iload_n 3, 1) := by decide +kernel
theorem dX12_digest_44 : decode cX12_digest 44 = .ok (.iconst 5, 1) := by decide +kernel
theorem dX12_digest_45 : decode cX12_digest 45 = .ok (.if_icmp .ge 23, 3) := by decide +kernel
theorem dX12_digest_48 : decode cX12_digest 48 = .ok (.ldc2_w 424, 3) := by decide +kernel
theorem dX12_digest_51 : decode cX12_digest 51 = .ok (.lload_n 1, 1) := by decide +kernel
theorem dX12_digest_52 : decode cX12_digest 52 = .ok (.lmul, 1) := by decide +kernel
theorem dX12_digest_53 : decode cX12_digest 53 = .ok (.aload_n 0, 1) := by decide +kernel
theorem dX12_digest_54 : decode cX12_digest 54 = .ok (.getfield 30, 3) := by decide +kernel
theorem dX12_digest_57 : decode cX12_digest 57 = .ok (.iload_n 3, 1) := by decide +kernel
theorem dX12_digest_58 : decode cX12_digest 58 = .ok (.iaload, 1) := by decide +kernel
theorem dX12_digest_59 : decode cX12_digest 59 = .ok (.i2l, 1) := by decide +kernel
theorem dX12_digest_60 : decode cX12_digest 60 = .ok (.ladd, 1) := by decide +kernel
theorem dX12_digest_61 : decode cX12_digest 61 = .ok (.lstore_n 1, 1) := by decide +kernel
theorem dX12_digest_62 : decode cX12_digest 62 = .ok (.iinc 3 1, 3) := by decide +kernel
theorem dX12_digest_65 : decode cX12_digest 65 = .ok (.goto (-22), 3) := by decide +kernel
theorem dX12_digest_68 : decode cX12_digest 68 = .ok (.iconst 0, 1) := by decide +kernel
theorem dX12_digest_69 : decode cX12_digest 69 = .ok (.istore_n 3, 1) := by decide +kernel
theorem dX12_digest_70 : decode cX12_digest 70 = .ok (.iload_n 3, 1) := by decide +kernel
theorem dX12_digest_71 : decode cX12_digest 71 = .ok (.aload_n 0, 1) := by decide +kernel
theorem dX12_digest_72 : decode cX12_digest 72 = .ok (.getfield 176, 3) := by decide +kernel
theorem dX12_digest_75 : decode cX12_digest 75 = .ok (.if_icmp .ge 53, 3) := by decide +kernel
theorem dX12_digest_78 : decode cX12_digest 78 = .ok (.iconst 0, 1) := by decide +kernel
theorem dX12_digest_79 : decode cX12_digest 79 = .ok (.istore 4, 2) := by decide +kernel
theorem dX12_digest_81 : decode cX12_digest 81 = .ok (.iload 4, 2) := by decide +kernel
theorem dX12_digest_83 : decode cX12_digest 83 = .ok (.bipush 11, 2) := by decide +kernel
theorem dX12_digest_85 : decode cX12_digest 85 = .ok (.if_icmp .ge 24, 3) := by decide +kernel
theorem dX12_digest_88 : decode cX12_digest 88 = .ok (.ldc2_w 424, 3) := by decide +kernel
theorem dX12_digest_91 : decode cX12_digest 91 = .ok (.lload_n 1, 1) := by decide +kernel
theorem dX12_digest_92 : decode cX12_digest 92 = .ok (.lmul, 1) := by decide +kernel
theorem dX12_digest_93 : decode cX12_digest 93 = .ok (.aload_n 0, 1) := by decide +kernel
theorem dX12_digest_94 : decode cX12_digest 94 = .ok (.iload_n 3, 1) := by decide +kernel
theorem dX12_digest_95 : decode cX12_digest 95 = .ok (.iload 4, 2) := by decide +kernel
theorem dX12_digest_97 : decode cX12_digest 97 = .ok (.invokevirtual 429, 3) := by decide +kernel
theorem dX12_digest_100 : decode cX12_digest 100 = .ok (.i2l, 1) := by decide +kernel
theorem dX12_digest_101 : decode cX12_digest 101 = .ok (.ladd, 1) := by decide +kernel
theorem dX12_digest_102 : decode cX12_digest 102 = .ok (.lstore_n 1, 1) := by decide +kernel
theorem dX12_digest_103 : decode cX12_digest 103 = .ok (.iinc 4 1, 3) := by decide +kernel
theorem dX12_digest_106 : decode cX12_digest 106 = .ok (.goto (-25), 3) := by decide +kernel
theorem dX12_digest_109 : decode cX12_digest 109 = .ok (.ldc2_w 424, 3) := by decide +kernel
theorem dX12_digest_112 : decode cX12_digest 112 = .ok (.lload_n 1, 1) := by decide +kernel
theorem dX12_digest_113 : decode cX12_digest 113 = .ok (.lmul, 1) := by decide +kernel
theorem dX12_digest_114 : decode cX12_digest 114 = .ok (.aload_n 0, 1) := by decide +kernel
theorem dX12_digest_115 : decode cX12_digest 115 = .ok (.iload_n 3, 1) := by decide +kernel
theorem dX12_digest_116 : decode cX12_digest 116 = .ok (.invokevirtual 432, 3) := by decide +kernel
theorem dX12_digest_119 : decode cX12_digest 119 = .ok (.i2l, 1) := by decide +kernel
theorem dX12_digest_120 : decode cX12_digest 120 = .ok (.ladd, 1) := by decide +kernel
theorem dX12_digest_121 : decode cX12_digest 121 = .ok (.lstore_n 1, 1) := by decide +kernel
theorem dX12_digest_122 : decode cX12_digest 122 = .ok (.iinc 3 1, 3) := by decide +kernel
theorem dX12_digest_125 : decode cX12_digest 125 = .ok (.goto (-55), 3) := by decide +kernel
theorem dX12_digest_128 : decode cX12_digest 128 = .ok (.ldc2_w 424, 3) := by decide +kernel
theorem dX12_digest_131 : decode cX12_digest 131 = .ok (.lload_n 1, 1) := by decide +kernel
theorem dX12_digest_132 : decode cX12_digest 132 = .ok (.lmul, 1) := by decide +kernel
theorem dX12_digest_133 : decode cX12_digest 133 = .ok (.aload_n 0, 1) := by decide +kernel
theorem dX12_digest_134 : decode cX12_digest 134 = .ok (.invokevirtual 435, 3) := by decide +kernel
theorem dX12_digest_137 : decode cX12_digest 137 = .ok (.i2l, 1) := by decide +kernel
theorem dX12_digest_138 : decode cX12_digest 138 = .ok (.ladd, 1) := by decide +kernel
theorem dX12_digest_139 : decode cX12_digest 139 = .ok (.lstore_n 1, 1) := by decide +kernel
theorem dX12_digest_140 : decode cX12_digest 140 = .ok (.aload_n 0, 1) := by decide +kernel
theorem dX12_digest_141 : decode cX12_digest 141 = .ok (.sipush 500, 3) := by decide +kernel
theorem dX12_digest_144 : decode cX12_digest 144 = .ok (.invokevirtual 419, 3) := by decide +kernel
theorem dX12_digest_147 : decode cX12_digest 147 = .ok (.ldc2_w 424, 3) := by decide +kernel
theorem dX12_digest_150 : decode cX12_digest 150 = .ok (.lload_n 1, 1) := by decide +kernel
theorem dX12_digest_151 : decode cX12_digest 151 = .ok (.lmul, 1) := by decide +kernel
theorem dX12_digest_152 : decode cX12_digest 152 = .ok (.aload_n 0, 1) := by decide +kernel
theorem dX12_digest_153 : decode cX12_digest 153 = .ok (.getfield 407, 3) := by decide +kernel
theorem dX12_digest_156 : decode cX12_digest 156 = .ok (.i2l, 1) := by decide +kernel
theorem dX12_digest_157 : decode cX12_digest 157 = .ok (.ladd, 1) := by decide +kernel
theorem dX12_digest_158 : decode cX12_digest 158 = .ok (.lstore_n 1, 1) := by decide +kernel
theorem dX12_digest_159 : decode cX12_digest 159 = .ok (.ldc2_w 424, 3) := by decide +kernel
theorem dX12_digest_162 : decode cX12_digest 162 = .ok (.lload_n 1, 1) := by decide +kernel
theorem dX12_digest_163 : decode cX12_digest 163 = .ok (.lmul, 1) := by decide +kernel
theorem dX12_digest_164 : decode cX12_digest 164 = .ok (.aload_n 0, 1) := by decide +kernel
theorem dX12_digest_165 : decode cX12_digest 165 = .ok (.getfield 410, 3) := by decide +kernel
theorem dX12_digest_168 : decode cX12_digest 168 = .ok (.i2l, 1) := by decide +kernel
theorem dX12_digest_169 : decode cX12_digest 169 = .ok (.ladd, 1) := by decide +kernel
theorem dX12_digest_170 : decode cX12_digest 170 = .ok (.lreturn, 1) := by decide +kernel
