theorem dX11_copy_89 : decode cX11_copy 89 = .ok (.iload 5, 2) := by decide +kernel
theorem dX11_copy_91 : decode cX11_copy 91 = .ok (.invokevirtual 403, 3) := by decide +kernel
theorem dX11_copy_94 : decode cX11_copy 94 = .ok (.ifCond .ne 9, 3) := by decide +kernel
theorem dX11_copy_97 : decode cX11_copy 97 = .ok (.aload_n 0, 1) := by decide +kernel
theorem dX11_copy_98 : decode cX11_copy 98 = .ok (.iconst 2, 1) := by decide +kernel
theorem dX11_copy_99 : decode cX11_copy 99 = .ok (.invokevirtual 374, 3) := by decide +kernel
theorem dX11_copy_102 : decode cX11_copy 102 = .ok (.ireturn, 1) := by decide +kernel
theorem dX11_copy_103 : decode cX11_copy 103 = .ok (.aload 6, 2) := by decide +kernel
theorem dX11_copy_105 : decode cX11_copy 105 = .ok (.getfield 397, 3) := by decide +kernel
theorem dX11_copy_108 : decode cX11_copy 108 = .ok (.iload_n 2, 1) := by decide +kernel
theorem dX11_copy_109 : decode cX11_copy 109 = .ok (.aload 7, 2) := by decide +kernel
theorem dX11_copy_111 : decode cX11_copy 111 = .ok (.getfield 397, 3) := by decide +kernel
theorem dX11_copy_114 : decode cX11_copy 114 = .ok (.iload 4, 2) := by decide +kernel
theorem dX11_copy_116 : decode cX11_copy 116 = .ok (.iload 5, 2) := by decide +kernel
theorem dX11_copy_118 : decode cX11_copy 118 = .ok (.invokestatic 407, 3) := by decide +kernel
theorem dX11_copy_121 : decode cX11_copy 121 = .ok (.iconst 1, 1) := by decide +kernel
theorem dX11_copy_122 : decode cX11_copy 122 = .ok (.ireturn, 1) := by decide +kernel
theorem dX11_map_0 : decode cX11_map 0 = .ok (.aload_n 0, 1) := by decide +kernel
theorem dX11_map_1 : decode cX11_map 1 = .ok (.getfield 37, 3) := by decide +kernel
theorem dX11_map_4 : decode cX11_map 4 = .ok (.iload_n 1, 1) := by decide +kernel
theorem dX11_map_5 : decode cX11_map 5 = .ok (.invokevirtual 167, 3) := by decide +kernel
theorem dX11_map_8 : decode cX11_map 8 = .ok (.ifCond .eq 10, 3) := by decide +kernel
theorem dX11_map_11 : decode cX11_map 11 = .ok (.iload_n 2, 1) := by decide +kernel
theorem dX11_map_12 : decode cX11_map 12 = .ok (.invokestatic 368, 3) := by decide +kernel
theorem dX11_map_15 : decode cX11_map 15 = .ok (.ifCond .ne 6, 3) := by decide +kernel
theorem dX11_map_18 : decode cX11_map 18 = .ok (.bipush (-2), 2) := by decide +kernel
theorem dX11_map_20 : decode cX11_map 20 = .ok (.ireturn, 1) := by decide +kernel
theorem dX11_map_21 : decode cX11_map 21 = .ok (.aload_n 0, 1) := by decide +kernel
theorem dX11_map_22 : decode cX11_map 22 = .ok (.getfield 18, 3) := by decide +kernel
theorem dX11_map_25 : decode cX11_map 25 = .ok (.iload_n 2, 1) := by decide +kernel
theorem dX11_map_26 : decode cX11_map 26 = .ok (.aaload, 1) := by decide +kernel
theorem dX11_map_27 : decode cX11_map 27 = .ok (.astore_n 3, 1) := by decide +kernel
theorem dX11_map_28 : decode cX11_map 28 = .ok (.aload_n 3, 1) := by decide +kernel
theorem dX11_map_29 : decode cX11_map 29 = .ok (.getfield 381, 3) := by decide +kernel
theorem dX11_map_32 : decode cX11_map 32 = .ok (.ifCond .eq 9, 3) := by decide +kernel
theorem dX11_map_35 : decode cX11_map 35 = .ok (.aload_n 0, 1) := by decide +kernel
theorem dX11_map_36 : decode cX11_map 36 = .ok (.iconst 1, 1) := by decide +kernel
theorem dX11_map_37 : decode cX11_map 37 = .ok (.invokevirtual 374, 3) := by decide +kernel
theorem dX11_map_40 : decode cX11_map 40 = .ok (.ireturn, 1) := by decide +kernel
theorem dX11_map_41 : decode cX11_map 41 = .ok (.aload_n 3, 1) := by decide +kernel
theorem dX11_map_42 : decode cX11_map 42 = .ok (.getfield 384, 3) := by decide +kernel
theorem dX11_map_45 : decode cX11_map 45 = .ok (.aload_n 0, 1) := by decide +kernel
theorem dX11_map_46 : decode cX11_map 46 = .ok (.getfield 28, 3) := by decide +kernel
theorem dX11_map_49 : decode cX11_map 49 = .ok (.invokevirtual 325, 3) := by decide +kernel
theorem dX11_map_52 : decode cX11_map 52 = .ok (.invokestatic 413, 3) := by decide +kernel
theorem dX11_map_55 : decode cX11_map 55 = .ok (.istore 4, 2) := by decide +kernel
theorem dX11_map_57 : decode cX11_map 57 = .ok (.iconst 0, 1) := by decide +kernel
theorem dX11_map_58 : decode cX11_map 58 = .ok (.istore 5, 2) := by decide +kernel
theorem dX11_map_60 : decode cX11_map 60 = .ok (.iload 5, 2) := by decide +kernel
theorem dX11_map_62 : decode cX11_map 62 = .ok (.iload 4, 2) := by decide +kernel
theorem dX11_map_64 : decode cX11_map 64 = .ok (.if_icmp .ge 28, 3) := by decide +kernel
theorem dX11_map_67 : decode cX11_map 67 = .ok (.aload_n 0, 1) := by decide +kernel
theorem dX11_map_68 : decode cX11_map 68 = .ok (.getfield 89, 3) := by decide +kernel
theorem dX11_map_71 : decode cX11_map 71 = .ok (.iload 5, 2) := by decide +kernel
theorem dX11_map_73 : decode cX11_map 73 = .ok (.aload_n 0, 1) := by decide +kernel
theorem dX11_map_74 : decode cX11_map 74 = .ok (.getfield 37, 3) := by decide +kernel
theorem dX11_map_77 : decode cX11_map 77 = .ok (.iload_n 1, 1) := by decide +kernel
theorem dX11_map_78 : decode cX11_map 78 = .ok (.iload 5, 2) := by decide +kernel
theorem dX11_map_80 : decode cX11_map 80 = .ok (.iconst 0, 1) := by decide +kernel
theorem dX11_map_81 : decode cX11_map 81 = .ok (.invokevirtual 187, 3) := by decide +kernel
theorem dX11_map_84 : decode cX11_map 84 = .ok (.i2l, 1) := by decide +kernel
theorem dX11_map_85 : decode cX11_map 85 = .ok (.lastore, 1) := by decide +kernel
theorem dX11_map_86 : decode cX11_map 86 = .ok (.iinc 5 1, 3) := by decide +kernel
theorem dX11_map_89 : decode cX11_map 89 = .ok (.goto (-29), 3) := by decide +kernel
theorem dX11_map_92 : decode cX11_map 92 = .ok (.iconst 0, 1) := by decide +kernel
theorem dX11_map_93 : decode cX11_map 93 = .ok (.istore 5, 2) := by decide +kernel
theorem dX11_map_95 : decode cX11_map 95 = .ok (.iload 5, 2) := by decide +kernel
theorem dX11_map_97 : decode cX11_map 97 = .ok (.iload 4, 2) := by decide +kernel
theorem dX11_map_99 : decode cX11_map 99 = .ok (.if_icmp .ge 22, 3) := by decide +kernel
theorem dX11_map_102 : decode cX11_map 102 = .ok (.aload_n 3, 1) := by decide +kernel
theorem dX11_map_103 : decode cX11_map 103 = .ok (.iload 5, 2) := by decide +kernel
theorem dX11_map_105 : decode cX11_map 105 = .ok (.aload_n 0, 1) := by decide +kernel
theorem dX11_map_106 : decode cX11_map 106 = .ok (.getfield 89, 3) := by decide +kernel
theorem dX11_map_109 : decode cX11_map 109 = .ok (.iload 5, 2) := by decide +kernel
theorem dX11_map_111 : decode cX11_map 111 = .ok (.laload, 1) := by decide +kernel
theorem dX11_map_112 : decode cX11_map 112 = .ok (.invokevirtual 390, 3) := by decide +kernel
theorem dX11_map_115 : decode cX11_map 115 = .ok (.iinc 5 1, 3) := by decide +kernel
theorem dX11_map_118 : decode cX11_map 118 = .ok (.goto (-23), 3) := by decide +kernel
theorem dX11_map_121 : decode cX11_map 121 = .ok (.iload 4, 2) := by decide +kernel
theorem dX11_map_123 : decode cX11_map 123 = .ok (.ireturn, 1) := by decide +kernel
theorem dX11_count_0 : decode cX11_count 0 = .ok (.iload_n 1, 1) := by decide +kernel
theorem dX11_count_1 : decode cX11_count 1 = .ok (.tableswitch 156 0 11 #[63, 71, 79, 87, 95, 103, 111, 119, 127, 135, 140, 148], 63) := by decide +kernel
theorem dX11_count_64 : decode cX11_count 64 = .ok (.aload_n 0, 1) := by decide +kernel
theorem dX11_count_65 : decode cX11_count 65 = .ok (.getfield 37, 3) := by decide +kernel
theorem dX11_count_68 : decode cX11_count 68 = .ok (.getfield 97, 3) := by decide +kernel
theorem dX11_count_71 : decode cX11_count 71 = .ok (.ireturn, 1) := by decide +kernel
theorem dX11_count_72 : decode cX11_count 72 = .ok (.aload_n 0, 1) := by decide +kernel
theorem dX11_count_73 : decode cX11_count 73 = .ok (.getfield 37, 3) := by decide +kernel
theorem dX11_count_76 : decode cX11_count 76 = .ok (.invokevirtual 416, 3) := by decide +kernel
theorem dX11_count_79 : decode cX11_count 79 = .ok (.ireturn, 1) := by decide +kernel
theorem dX11_count_80 : decode cX11_count 80 = .ok (.aload_n 0, 1) := by decide +kernel
theorem dX11_count_81 : decode cX11_count 81 = .ok (.getfield 60, 3) := by decide +kernel
theorem dX11_count_84 : decode cX11_count 84 = .ok (.getfield 285, 3) := by decide +kernel
theorem dX11_count_87 : decode cX11_count 87 = .ok (.ireturn, 1) := by decide +kernel
theorem dX11_count_88 : decode cX11_count 88 = .ok (.aload_n 0, 1) := by decide +kernel
theorem dX11_count_89 : decode cX11_count 89 = .ok (.getfield 67, 3) := by decide +kernel
theorem dX11_count_92 : decode cX11_count 92 = .ok (.getfield 295, 3) := by decide +kernel
theorem dX11_count_95 : decode cX11_count 95 = .ok (.ireturn, 1) := by decide +kernel
theorem dX11_count_96 : decode cX11_count 96 = .ok (.aload_n 0, 1) := by decide +kernel
theorem dX11_count_97 : decode cX11_count 97 = .ok (.getfield 76, 3) := by decide +kernel
theorem dX11_count_100 : decode cX11_count 100 = .ok (.getfield 101, 3) := by decide +kernel
theorem dX11_count_103 : decode cX11_count 103 = .ok (.ireturn, 1) := by decide +kernel
theorem dX11_count_104 : decode cX11_count 104 = .ok (.aload_n 0, 1) := by decide +kernel
theorem dX11_count_105 : decode cX11_count 105 = .ok (.getfield 76, 3) := by decide +kernel
theorem dX11_count_108 : decode cX11_count 108 = .ok (.invokevirtual 331, 3) := by decide +kernel
theorem dX11_count_111 : decode cX11_count 111 = .ok (.ireturn, 1) := by decide +kernel
theorem dX11_count_112 : decode cX11_count 112 = .ok (.aload_n 0, 1) := by decide +kernel
theorem dX11_count_113 : decode cX11_count 113 = .ok (.getfield 85, 3) := by decide +kernel
theorem dX11_count_116 : decode cX11_count 116 = .ok (.getfield 102, 3) := by decide +kernel
theorem dX11_count_119 : decode cX11_count 119 = .ok (.ireturn, 1) := by decide +kernel
theorem dX11_count_120 : decode cX11_count 120 = .ok (.aload_n 0, 1) := by decide +kernel
theorem dX11_count_121 : decode cX11_count 121 = .ok (.getfield 85, 3) := by decide +kernel
theorem dX11_count_124 : decode cX11_count 124 = .ok (.getfield 105, 3) := by decide +kernel
theorem dX11_count_127 : decode cX11_count 127 = .ok (.ireturn, 1) := by decide +kernel
theorem dX11_count_128 : decode cX11_count 128 = .ok (.aload_n 0, 1) := by decide +kernel
theorem dX11_count_129 : decode cX11_count 129 = .ok (.getfield 37, 3) := by decide +kernel
theorem dX11_count_132 : decode cX11_count 132 = .ok (.getfield 139, 3) := by decide +kernel
theorem dX11_count_135 : decode cX11_count 135 = .ok (.ireturn, 1) := by decide +kernel
theorem dX11_count_136 : decode cX11_count 136 = .ok (.aload_n 0, 1) := by decide +kernel
theorem dX11_count_137 : decode cX11_count 137 = .ok (.getfield 394, 3) := by decide +kernel
theorem dX11_count_140 : decode cX11_count 140 = .ok (.ireturn, 1) := by decide +kernel
theorem dX11_count_141 : decode cX11_count 141 = .ok (.aload_n 0, 1) := by decide +kernel
theorem dX11_count_142 : decode cX11_count 142 = .ok (.getfield 28, 3) := by decide +kernel
theorem dX11_count_145 : decode cX11_count 145 = .ok (.getfield 108, 3) := by decide +kernel
theorem dX11_count_148 : decode cX11_count 148 = .ok (.ireturn, 1) := by decide +kernel
theorem dX11_count_149 : decode cX11_count 149 = .ok (.aload_n 0, 1) := by decide +kernel
theorem dX11_count_150 : decode cX11_count 150 = .ok (.getfield 28, 3) := by decide +kernel
theorem dX11_count_153 : decode cX11_count 153 = .ok (.getfield 111, 3) := by decide +kernel
theorem dX11_count_156 : decode cX11_count 156 = .ok (.ireturn, 1) := by decide +kernel
theorem dX11_count_157 : decode cX11_count 157 = .ok (.bipush (-2), 2) := by decide +kernel
theorem dX11_count_159 : decode cX11_count 159 = .ok (.ireturn, 1) := by decide +kernel
theorem dX11_digest_0 : decode cX11_digest 0 = .ok (.ldc2_w 419, 3) := by decide +kernel
theorem dX11_digest_3 : decode cX11_digest 3 = .ok (.lstore_n 1, 1) := by decide +kernel
theorem dX11_digest_4 : decode cX11_digest 4 = .ok (.iconst 0, 1) := by decide +kernel
theorem dX11_digest_5 : decode cX11_digest 5 = .ok (.istore_n 3, 1) := by decide +kernel
theorem dX11_digest_6 : decode cX11_digest 6 = .ok (.iload_n 3, 1) := by decide +kernel
theorem dX11_digest_7 : decode cX11_digest 7 = .ok (.bipush 12, 2) := by decide +kernel
theorem dX11_digest_9 : decode cX11_digest 9 = .ok (.if_icmp .ge 28, 3) := by decide +kernel
theorem dX11_digest_12 : decode cX11_digest 12 = .ok (.iload_n 3, 1) := by decide +kernel
theorem dX11_digest_13 : decode cX11_digest 13 = .ok (.bipush 9, 2) := by decide +kernel
theorem dX11_digest_15 : decode cX11_digest 15 = .ok (.if_icmp .eq 16, 3) := by decide +kernel
theorem dX11_digest_18 : decode cX11_digest 18 = .ok (.ldc2_w 421, 3) := by decide +kernel
theorem dX11_digest_21 : decode cX11_digest 21 = .ok (.lload_n 1, 1) := by decide +kernel
theorem dX11_digest_22 : decode cX11_digest 22 = .ok (.lmul, 1) := by decide +kernel
theorem dX11_digest_23 : decode cX11_digest 23 = .ok (.aload_n 0, 1) := by decide +kernel
theorem dX11_digest_24 : decode cX11_digest 24 = .ok (.iload_n 3, 1) := by decide +kernel
theorem dX11_digest_25 : decode cX11_digest 25 = .ok (.invokevirtual 423, 3) := by decide +kernel
theorem dX11_digest_28 : decode cX11_digest 28 = .ok (.i2l, 1) := by decide +kernel
theorem dX11_digest_29 : decode cX11_digest 29 = .ok (.ladd, 1) := by decide +kernel
theorem dX11_digest_30 : decode cX11_digest 30 = .ok (.lstore_n 1, 1) := by decide +kernel
theorem dX11_digest_31 : decode cX11_digest 31 = .ok (.iinc 3 1, 3) := by decide +kernel
theorem dX11_digest_34 : decode cX11_digest 34 = .ok (.goto (-28), 3) := by decide +kernel
theorem dX11_digest_37 : decode cX11_digest 37 = .ok (.iconst 0, 1) := by decide +kernel
theorem dX11_digest_38 : decode cX11_digest 38 = .ok (.istore_n 3, 1) := by decide +kernel
theorem dX11_digest_39 : decode cX11_digest 39 = .ok (.iload_n 3, 1) := by decide +kernel
theorem dX11_digest_40 : decode cX11_digest 40 = .ok (.iconst 5, 1) := by decide +kernel
theorem dX11_digest_41 : decode cX11_digest 41 = .ok (.if_icmp .ge 26, 3) := by decide +kernel
theorem dX11_digest_44 : decode cX11_digest 44 = .ok (.ldc2_w 421, 3) := by decide +kernel
theorem dX11_digest_47 : decode cX11_digest 47 = .ok (.lload_n 1, 1) := by decide +kernel
theorem dX11_digest_48 : decode cX11_digest 48 = .ok (.lmul, 1) := by decide +kernel
theorem dX11_digest_49 : decode cX11_digest 49 = .ok (.aload_n 0, 1) := by decide +kernel
theorem dX11_digest_50 : decode cX11_digest 50 = .ok (.getfield 10, 3) := by decide +kernel
theorem dX11_digest_53 : decode cX11_digest 53 = .ok (.getfield 132, 3) := by decide +kernel
theorem dX11_digest_56 : decode cX11_digest 56 = .ok (.iload_n 3, 1) := by decide +kernel
theorem dX11_digest_57 : decode cX11_digest 57 = .ok (.iaload, 1) := by decide +kernel
theorem dX11_digest_58 : decode cX11_digest 58 = .ok (.i2l, 1) := by decide +kernel
theorem dX11_digest_59 : decode cX11_digest 59 = .ok (.ladd, 1) := by decide +kernel
theorem dX11_digest_60 : decode cX11_digest 60 = .ok (.lstore_n 1, 1) := by decide +kernel
theorem dX11_digest_61 : decode cX11_digest 61 = .ok (.iinc 3 1, 3) := by decide +kernel
theorem dX11_digest_64 : decode cX11_digest 64 = .ok (.goto (-25), 3) := by decide +kernel
theorem dX11_digest_67 : decode cX11_digest 67 = .ok (.iconst 0, 1) := by decide +kernel
theorem dX11_digest_68 : decode cX11_digest 68 = .ok (.istore_n 3, 1) := by decide +kernel
theorem dX11_digest_69 : decode cX11_digest 69 = .ok (.iload_n 3, 1) := by decide +kernel
theorem dX11_digest_70 : decode cX11_digest 70 = .ok (.aload_n 0, 1) := by decide +kernel
theorem dX11_digest_71 : decode cX11_digest 71 = .ok (.getfield 37, 3) := by decide +kernel
theorem dX11_digest_74 : decode cX11_digest 74 = .ok (.getfield 97, 3) := by decide +kernel
theorem dX11_digest_77 : decode cX11_digest 77 = .ok (.if_icmp .ge 87, 3) := by decide +kernel
theorem dX11_digest_80 : decode cX11_digest 80 = .ok (.iconst 0, 1) := by decide +kernel
theorem dX11_digest_81 : decode cX11_digest 81 = .ok (.istore 4, 2) := by decide +kernel
theorem dX11_digest_83 : decode cX11_digest 83 = .ok (.iload 4, 2) := by decide +kernel
theorem dX11_digest_85 : decode cX11_digest 85 = .ok (.bipush 11, 2) := by decide +kernel
theorem dX11_digest_87 : decode cX11_digest 87 = .ok (.if_icmp .ge 27, 3) := by decide +kernel
theorem dX11_digest_90 : decode cX11_digest 90 = .ok (.ldc2_w 421, 3) := by decide +kernel
theorem dX11_digest_93 : decode cX11_digest 93 = .ok (.lload_n 1, 1) := by decide +kernel
theorem dX11_digest_94 : decode cX11_digest 94 = .ok (.lmul, 1) := by decide +kernel
theorem dX11_digest_95 : decode cX11_digest 95 = .ok (.aload_n 0, 1) := by decide +kernel
theorem dX11_digest_96 : decode cX11_digest 96 = .ok (.getfield 37, 3) := by decide +kernel
theorem dX11_digest_99 : decode cX11_digest 99 = .ok (.iload_n 3, 1) := by decide +kernel
theorem dX11_digest_100 : decode cX11_digest 100 = .ok (.iload 4, 2) := by decide +kernel
theorem dX11_digest_102 : decode cX11_digest 102 = .ok (.invokevirtual 171, 3) := by decide +kernel
theorem dX11_digest_105 : decode cX11_digest 105 = .ok (.i2l, 1) := by decide +kernel
theorem dX11_digest_106 : decode cX11_digest 106 = .ok (.ladd, 1) := by decide +kernel
theorem dX11_digest_107 : decode cX11_digest 107 = .ok (.lstore_n 1, 1) := by decide +kernel
theorem dX11_digest_108 : decode cX11_digest 108 = .ok (.iinc 4 1, 3) := by decide +kernel
theorem dX11_digest_111 : decode cX11_digest 111 = .ok (.goto (-28), 3) := by decide +kernel
theorem dX11_digest_114 : decode cX11_digest 114 = .ok (.ldc2_w 421, 3) := by decide +kernel
theorem dX11_digest_117 : decode cX11_digest 117 = .ok (.lload_n 1, 1) := by decide +kernel
theorem dX11_digest_118 : decode cX11_digest 118 = .ok (.lmul, 1) := by decide +kernel
theorem dX11_digest_119 : decode cX11_digest 119 = .ok (.aload_n 0, 1) := by decide +kernel
theorem dX11_digest_120 : decode cX11_digest 120 = .ok (.getfield 37, 3) := by decide +kernel
theorem dX11_digest_123 : decode cX11_digest 123 = .ok (.getfield 143, 3) := by decide +kernel
theorem dX11_digest_126 : decode cX11_digest 126 = .ok (.iload_n 3, 1) := by decide +kernel
theorem dX11_digest_127 : decode cX11_digest 127 = .ok (.aaload, 1) := by decide +kernel
theorem dX11_digest_128 : decode cX11_digest 128 = .ok (.getfield 179, 3) := by decide +kernel
theorem dX11_digest_131 : decode cX11_digest 131 = .ok (.ifCond .ne 8, 3) := by decide +kernel
theorem dX11_digest_134 : decode cX11_digest 134 = .ok (.bipush (-3), 2) := by decide +kernel
theorem dX11_digest_136 : decode cX11_digest 136 = .ok (.goto 19, 3) := by decide +kernel
theorem dX11_digest_139 : decode cX11_digest 139 = .ok (.aload_n 0, 1) := by decide +kernel
theorem dX11_digest_140 : decode cX11_digest 140 = .ok (.getfield 37, 3) := by decide +kernel
theorem dX11_digest_143 : decode cX11_digest 143 = .ok (.iload_n 3, 1) := by decide +kernel
theorem dX11_digest_144 : decode cX11_digest 144 = .ok (.invokevirtual 194, 3) := by decide +kernel
theorem dX11_digest_147 : decode cX11_digest 147 = .ok (.ifCond .eq 7, 3) := by decide +kernel
theorem dX11_digest_150 : decode cX11_digest 150 = .ok (.iconst 1, 1) := by decide +kernel
theorem dX11_digest_151 : decode cX11_digest 151 = .ok (.goto 4, 3) := by decide +kernel
theorem dX11_digest_154 : decode cX11_digest 154 = .ok (.iconst 0, 1) := by decide +kernel
theorem dX11_digest_155 : decode cX11_digest 155 = .ok (.i2l, 1) := by decide +kernel
theorem dX11_digest_156 : decode cX11_digest 156 = .ok (.ladd, 1) := by decide +kernel
theorem dX11_digest_157 : decode cX11_digest 157 = .ok (.lstore_n 1, 1) := by decide +kernel
theorem dX11_digest_158 : decode cX11_digest 158 = .ok (.iinc 3 1, 3) := by decide +kernel
theorem dX11_digest_161 : decode cX11_digest 161 = .ok (.goto (-92), 3) := by decide +kernel
theorem dX11_digest_164 : decode cX11_digest 164 = .ok (.aload_n 0, 1) := by decide +kernel
theorem dX11_digest_165 : decode cX11_digest 165 = .ok (.getfield 85, 3) := by decide +kernel
theorem dX11_digest_168 : decode cX11_digest 168 = .ok (.sipush 500, 3) := by decide +kernel
theorem dX11_digest_171 : decode cX11_digest 171 = .ok (.invokevirtual 356, 3) := by decide +kernel
theorem dX11_digest_174 : decode cX11_digest 174 = .ok (.ldc2_w 421, 3) := by decide +kernel
theorem dX11_digest_177 : decode cX11_digest 177 = .ok (.lload_n 1, 1) := by decide +kernel
theorem dX11_digest_178 : decode cX11_digest 178 = .ok (.lmul, 1) := by decide +kernel
theorem dX11_digest_179 : decode cX11_digest 179 = .ok (.aload_n 0, 1) := by decide +kernel
theorem dX11_digest_180 : decode cX11_digest 180 = .ok (.getfield 60, 3) := by decide +kernel
theorem dX11_digest_183 : decode cX11_digest 183 = .ok (.iconst 0, 1) := by decide +kernel
theorem dX11_digest_184 : decode cX11_digest 184 = .ok (.invokevirtual 289, 3) := by decide +kernel
theorem dX11_digest_187 : decode cX11_digest 187 = .ok (.i2l, 1) := by decide +kernel
theorem dX11_digest_188 : decode cX11_digest 188 = .ok (.ladd, 1) := by decide +kernel
theorem dX11_digest_189 : decode cX11_digest 189 = .ok (.lstore_n 1, 1) := by decide +kernel
theorem dX11_digest_190 : decode cX11_digest 190 = .ok (.ldc2_w 421, 3) := by decide +kernel
theorem dX11_digest_193 : decode cX11_digest 193 = .ok (.lload_n 1, 1) := by decide +kernel
theorem dX11_digest_194 : decode cX11_digest 194 = .ok (.lmul, 1) := by decide +kernel
theorem dX11_digest_195 : decode cX11_digest 195 = .ok (.aload_n 0, 1) := by decide +kernel
theorem dX11_digest_196 : decode cX11_digest 196 = .ok (.getfield 85, 3) := by decide +kernel
theorem dX11_digest_199 : decode cX11_digest 199 = .ok (.getfield 359, 3) := by decide +kernel
theorem dX11_digest_202 : decode cX11_digest 202 = .ok (.i2l, 1) := by decide +kernel
theorem dX11_digest_203 : decode cX11_digest 203 = .ok (.ladd, 1) := by decide +kernel
theorem dX11_digest_204 : decode cX11_digest 204 = .ok (.lstore_n 1, 1) := by decide +kernel
theorem dX11_digest_205 : decode cX11_digest 205 = .ok (.ldc2_w 421, 3) := by decide +kernel
theorem dX11_digest_208 : decode cX11_digest 208 = .ok (.lload_n 1, 1) := by decide +kernel
theorem dX11_digest_209 : decode cX11_digest 209 = .ok (.lmul, 1) := by decide +kernel
theorem dX11_digest_210 : decode cX11_digest 210 = .ok (.aload_n 0, 1) := by decide +kernel
theorem dX11_digest_211 : decode cX11_digest 211 = .ok (.getfield 85, 3) := by decide +kernel
theorem dX11_digest_214 : decode cX11_digest 214 = .ok (.getfield 362, 3) := by decide +kernel
theorem dX11_digest_217 : decode cX11_digest 217 = .ok (.i2l, 1) := by decide +kernel
theorem dX11_digest_218 : decode cX11_digest 218 = .ok (.ladd, 1) := by decide +kernel
theorem dX11_digest_219 : decode cX11_digest 219 = .ok (.lreturn, 1) := by decide +kernel
theorem dX11_within_0 : decode cX11_within 0 = .ok (.iload_n 0, 1) := by decide +kernel
theorem dX11_within_1 : decode cX11_within 1 = .ok (.iload_n 1, 1) := by decide +kernel
theorem dX11_within_2 : decode cX11_within 2 = .ok (.if_icmp .lt 12, 3) := by decide +kernel
theorem dX11_within_5 : decode cX11_within 5 = .ok (.iload_n 0, 1) := by decide +kernel
theorem dX11_within_6 : decode cX11_within 6 = .ok (.iload_n 2, 1) := by decide +kernel
theorem dX11_within_7 : decode cX11_within 7 = .ok (.if_icmp .gt 7, 3) := by decide +kernel
theorem dX11_within_10 : decode cX11_within 10 = .ok (.iconst 1, 1) := by decide +kernel
theorem dX11_within_11 : decode cX11_within 11 = .ok (.goto 4, 3) := by decide +kernel
theorem dX11_within_14 : decode cX11_within 14 = .ok (.iconst 0, 1) := by decide +kernel
theorem dX11_within_15 : decode cX11_within 15 = .ok (.ireturn, 1) := by decide +kernel
theorem dX11_isSheet_0 : decode cX11_isSheet 0 = .ok (.iload_n 0, 1) := by decide +kernel
theorem dX11_isSheet_1 : decode cX11_isSheet 1 = .ok (.iconst 0, 1) := by decide +kernel
theorem dX11_isSheet_2 : decode cX11_isSheet 2 = .ok (.iconst 5, 1) := by decide +kernel
theorem dX11_isSheet_3 : decode cX11_isSheet 3 = .ok (.invokestatic 93, 3) := by decide +kernel
theorem dX11_isSheet_6 : decode cX11_isSheet 6 = .ok (.ireturn, 1) := by decide +kernel
theorem dX11_isForm_0 : decode cX11_isForm 0 = .ok (.iload_n 0, 1) := by decide +kernel
theorem dX11_isForm_1 : decode cX11_isForm 1 = .ok (.iconst 0, 1) := by decide +kernel
theorem dX11_isForm_2 : decode cX11_isForm 2 = .ok (.iconst 3, 1) := by decide +kernel
theorem dX11_isForm_3 : decode cX11_isForm 3 = .ok (.invokestatic 93, 3) := by decide +kernel
theorem dX11_isForm_6 : decode cX11_isForm 6 = .ok (.ireturn, 1) := by decide +kernel
theorem dX11_isAsked_0 : decode cX11_isAsked 0 = .ok (.iload_n 0, 1) := by decide +kernel
theorem dX11_isAsked_1 : decode cX11_isAsked 1 = .ok (.iconst 0, 1) := by decide +kernel
theorem dX11_isAsked_2 : decode cX11_isAsked 2 = .ok (.iconst 5, 1) := by decide +kernel
theorem dX11_isAsked_3 : decode cX11_isAsked 3 = .ok (.invokestatic 93, 3) := by decide +kernel
theorem dX11_isAsked_6 : decode cX11_isAsked 6 = .ok (.ifCond .eq 27, 3) := by decide +kernel
theorem dX11_isAsked_9 : decode cX11_isAsked 9 = .ok (.iload_n 1, 1) := by decide +kernel
theorem dX11_isAsked_10 : decode cX11_isAsked 10 = .ok (.iconst 0, 1) := by decide +kernel
theorem dX11_isAsked_11 : decode cX11_isAsked 11 = .ok (.bipush 11, 2) := by decide +kernel
theorem dX11_isAsked_13 : decode cX11_isAsked 13 = .ok (.invokestatic 93, 3) := by decide +kernel
theorem dX11_isAsked_16 : decode cX11_isAsked 16 = .ok (.ifCond .eq 17, 3) := by decide +kernel
theorem dX11_isAsked_19 : decode cX11_isAsked 19 = .ok (.iload_n 2, 1) := by decide +kernel
theorem dX11_isAsked_20 : decode cX11_isAsked 20 = .ok (.iconst 0, 1) := by decide +kernel
theorem dX11_isAsked_21 : decode cX11_isAsked 21 = .ok (.bipush 99, 2) := by decide +kernel
theorem dX11_isAsked_23 : decode cX11_isAsked 23 = .ok (.invokestatic 93, 3) := by decide +kernel
theorem dX11_isAsked_26 : decode cX11_isAsked 26 = .ok (.ifCond .eq 7, 3) := by decide +kernel
theorem dX11_isAsked_29 : decode cX11_isAsked 29 = .ok (.iconst 1, 1) := by decide +kernel
theorem dX11_isAsked_30 : decode cX11_isAsked 30 = .ok (.goto 4, 3) := by decide +kernel
theorem dX11_isAsked_33 : decode cX11_isAsked 33 = .ok (.iconst 0, 1) := by decide +kernel
theorem dX11_isAsked_34 : decode cX11_isAsked 34 = .ok (.ireturn, 1) := by decide +kernel
theorem dX11_found_0 : decode cX11_found 0 = .ok (.aload_n 0, 1) := by decide +kernel
theorem dX11_found_1 : decode cX11_found 1 = .ok (.iload_n 1, 1) := by decide +kernel
theorem dX11_found_2 : decode cX11_found 2 = .ok (.putfield 394, 3) := by decide +kernel
theorem dX11_found_5 : decode cX11_found 5 = .ok (.bipush (-10), 2) := by decide +kernel
theorem dX11_found_7 : decode cX11_found 7 = .ok (.iload_n 1, 1) := by decide +kernel
theorem dX11_found_8 : decode cX11_found 8 = .ok (.isub, 1) := by decide +kernel
theorem dX11_found_9 : decode cX11_found 9 = .ok (.ireturn, 1) := by decide +kernel
theorem dX11_refusalUnlessOn_0 : decode cX11_refusalUnlessOn 0 = .ok (.aload_n 0, 1) := by decide +kernel
theorem dX11_refusalUnlessOn_1 : decode cX11_refusalUnlessOn 1 = .ok (.getfield 37, 3) := by decide +kernel
theorem dX11_refusalUnlessOn_4 : decode cX11_refusalUnlessOn 4 = .ok (.iload_n 1, 1) := by decide +kernel
theorem dX11_refusalUnlessOn_5 : decode cX11_refusalUnlessOn 5 = .ok (.invokevirtual 167, 3) := by decide +kernel
theorem dX11_refusalUnlessOn_8 : decode cX11_refusalUnlessOn 8 = .ok (.ifCond .ne 6, 3) := by decide +kernel
theorem dX11_refusalUnlessOn_11 : decode cX11_refusalUnlessOn 11 = .ok (.bipush (-2), 2) := by decide +kernel
theorem dX11_refusalUnlessOn_13 : decode cX11_refusalUnlessOn 13 = .ok (.ireturn, 1) := by decide +kernel
theorem dX11_refusalUnlessOn_14 : decode cX11_refusalUnlessOn 14 = .ok (.aload_n 0, 1) := by decide +kernel
theorem dX11_refusalUnlessOn_15 : decode cX11_refusalUnlessOn 15 = .ok (.getfield 37, 3) := by decide +kernel
theorem dX11_refusalUnlessOn_18 : decode cX11_refusalUnlessOn 18 = .ok (.getfield 143, 3) := by decide +kernel
theorem dX11_refusalUnlessOn_21 : decode cX11_refusalUnlessOn 21 = .ok (.iload_n 1, 1) := by decide +kernel
theorem dX11_refusalUnlessOn_22 : decode cX11_refusalUnlessOn 22 = .ok (.aaload, 1) := by decide +kernel
theorem dX11_refusalUnlessOn_23 : decode cX11_refusalUnlessOn 23 = .ok (.getfield 179, 3) := by decide +kernel
theorem dX11_refusalUnlessOn_26 : decode cX11_refusalUnlessOn 26 = .ok (.ifCond .eq 7, 3) := by decide +kernel
theorem dX11_refusalUnlessOn_29 : decode cX11_refusalUnlessOn 29 = .ok (.iconst 0, 1) := by decide +kernel
theorem dX11_refusalUnlessOn_30 : decode cX11_refusalUnlessOn 30 = .ok (.goto 5, 3) := by decide +kernel
theorem dX11_refusalUnlessOn_33 : decode cX11_refusalUnlessOn 33 = .ok (.bipush (-3), 2) := by decide +kernel
theorem dX11_refusalUnlessOn_35 : decode cX11_refusalUnlessOn 35 = .ok (.ireturn, 1) := by decide +kernel
theorem dX11_wrongItem_0 : decode cX11_wrongItem 0 = .ok (.aload_n 0, 1) := by decide +kernel
theorem dX11_wrongItem_1 : decode cX11_wrongItem 1 = .ok (.getfield 381, 3) := by decide +kernel
theorem dX11_wrongItem_4 : decode cX11_wrongItem 4 = .ok (.ifCond .eq 5, 3) := by decide +kernel
theorem dX11_wrongItem_7 : decode cX11_wrongItem 7 = .ok (.iconst 1, 1) := by decide +kernel
theorem dX11_wrongItem_8 : decode cX11_wrongItem 8 = .ok (.ireturn, 1) := by decide +kernel
theorem dX11_wrongItem_9 : decode cX11_wrongItem 9 = .ok (.aload_n 0, 1) := by decide +kernel
theorem dX11_wrongItem_10 : decode cX11_wrongItem 10 = .ok (.getfield 400, 3) := by decide +kernel
theorem dX11_wrongItem_13 : decode cX11_wrongItem 13 = .ok (.iload_n 1, 1) := by decide +kernel
theorem dX11_wrongItem_14 : decode cX11_wrongItem 14 = .ok (.if_icmp .eq 5, 3) := by decide +kernel
theorem dX11_wrongItem_17 : decode cX11_wrongItem 17 = .ok (.iconst 3, 1) := by decide +kernel
theorem dX11_wrongItem_18 : decode cX11_wrongItem 18 = .ok (.ireturn, 1) := by decide +kernel
theorem dX11_wrongItem_19 : decode cX11_wrongItem 19 = .ok (.aload_n 0, 1) := by decide +kernel
theorem dX11_wrongItem_20 : decode cX11_wrongItem 20 = .ok (.iload_n 2, 1) := by decide +kernel
theorem dX11_wrongItem_21 : decode cX11_wrongItem 21 = .ok (.iconst 1, 1) := by decide +kernel
theorem dX11_wrongItem_22 : decode cX11_wrongItem 22 = .ok (.invokevirtual 403, 3) := by decide +kernel
theorem dX11_wrongItem_25 : decode cX11_wrongItem 25 = .ok (.ifCond .eq 7, 3) := by decide +kernel
theorem dX11_wrongItem_28 : decode cX11_wrongItem 28 = .ok (.iconst 0, 1) := by decide +kernel
theorem dX11_wrongItem_29 : decode cX11_wrongItem 29 = .ok (.goto 4, 3) := by decide +kernel
theorem dX11_wrongItem_32 : decode cX11_wrongItem 32 = .ok (.iconst 2, 1) := by decide +kernel
theorem dX11_wrongItem_33 : decode cX11_wrongItem 33 = .ok (.ireturn, 1) := by decide +kernel
theorem dX11_areRows_0 : decode cX11_areRows 0 = .ok (.iload_n 0, 1) := by decide +kernel
theorem dX11_areRows_1 : decode cX11_areRows 1 = .ok (.iconst 2, 1) := by decide +kernel
theorem dX11_areRows_2 : decode cX11_areRows 2 = .ok (.if_icmp .eq 25, 3) := by decide +kernel
theorem dX11_areRows_5 : decode cX11_areRows 5 = .ok (.iload_n 0, 1) := by decide +kernel
theorem dX11_areRows_6 : decode cX11_areRows 6 = .ok (.iconst 3, 1) := by decide +kernel
theorem dX11_areRows_7 : decode cX11_areRows 7 = .ok (.if_icmp .eq 20, 3) := by decide +kernel
theorem dX11_areRows_10 : decode cX11_areRows 10 = .ok (.iload_n 0, 1) := by decide +kernel
theorem dX11_areRows_11 : decode cX11_areRows 11 = .ok (.iconst 5, 1) := by decide +kernel
theorem dX11_areRows_12 : decode cX11_areRows 12 = .ok (.if_icmp .eq 15, 3) := by decide +kernel
theorem dX11_areRows_15 : decode cX11_areRows 15 = .ok (.iload_n 0, 1) := by decide +kernel
theorem dX11_areRows_16 : decode cX11_areRows 16 = .ok (.bipush 7, 2) := by decide +kernel
theorem dX11_areRows_18 : decode cX11_areRows 18 = .ok (.if_icmp .eq 9, 3) := by decide +kernel
theorem dX11_areRows_21 : decode cX11_areRows 21 = .ok (.iload_n 0, 1) := by decide +kernel
theorem dX11_areRows_22 : decode cX11_areRows 22 = .ok (.bipush 11, 2) := by decide +kernel
theorem dX11_areRows_24 : decode cX11_areRows 24 = .ok (.if_icmp .ne 7, 3) := by decide +kernel
theorem dX11_areRows_27 : decode cX11_areRows 27 = .ok (.iconst 1, 1) := by decide +kernel
theorem dX11_areRows_28 : decode cX11_areRows 28 = .ok (.goto 4, 3) := by decide +kernel
theorem dX11_areRows_31 : decode cX11_areRows 31 = .ok (.iconst 0, 1) := by decide +kernel
theorem dX11_areRows_32 : decode cX11_areRows 32 = .ok (.istore_n 3, 1) := by decide +kernel
theorem dX11_areRows_33 : decode cX11_areRows 33 = .ok (.iload_n 3, 1) := by decide +kernel
theorem dX11_areRows_34 : decode cX11_areRows 34 = .ok (.ifCond .eq 29, 3) := by decide +kernel
theorem dX11_areRows_37 : decode cX11_areRows 37 = .ok (.iload_n 1, 1) := by decide +kernel
theorem dX11_areRows_38 : decode cX11_areRows 38 = .ok (.iconst 1, 1) := by decide +kernel
theorem dX11_areRows_39 : decode cX11_areRows 39 = .ok (.iload_n 0, 1) := by decide +kernel
theorem dX11_areRows_40 : decode cX11_areRows 40 = .ok (.iconst 1, 1) := by decide +kernel
theorem dX11_areRows_41 : decode cX11_areRows 41 = .ok (.isub, 1) := by decide +kernel
theorem dX11_areRows_42 : decode cX11_areRows 42 = .ok (.invokestatic 93, 3) := by decide +kernel
theorem dX11_areRows_45 : decode cX11_areRows 45 = .ok (.ifCond .eq 18, 3) := by decide +kernel
theorem dX11_areRows_48 : decode cX11_areRows 48 = .ok (.iload_n 2, 1) := by decide +kernel
theorem dX11_areRows_49 : decode cX11_areRows 49 = .ok (.iconst 1, 1) := by decide +kernel
theorem dX11_areRows_50 : decode cX11_areRows 50 = .ok (.iload_n 0, 1) := by decide +kernel
theorem dX11_areRows_51 : decode cX11_areRows 51 = .ok (.iconst 1, 1) := by decide +kernel
theorem dX11_areRows_52 : decode cX11_areRows 52 = .ok (.isub, 1) := by decide +kernel
theorem dX11_areRows_53 : decode cX11_areRows 53 = .ok (.invokestatic 93, 3) := by decide +kernel
theorem dX11_areRows_56 : decode cX11_areRows 56 = .ok (.ifCond .eq 7, 3) := by decide +kernel
theorem dX11_areRows_59 : decode cX11_areRows 59 = .ok (.iconst 1, 1) := by decide +kernel
theorem dX11_areRows_60 : decode cX11_areRows 60 = .ok (.goto 4, 3) := by decide +kernel
theorem dX11_areRows_63 : decode cX11_areRows 63 = .ok (.iconst 0, 1) := by decide +kernel
theorem dX11_areRows_64 : decode cX11_areRows 64 = .ok (.ireturn, 1) := by decide +kernel
theorem dX11_chanceOfAtMost_0 : decode cX11_chanceOfAtMost 0 = .ok (.lconst 0, 1) := by decide +kernel
theorem dX11_chanceOfAtMost_1 : decode cX11_chanceOfAtMost 1 = .ok (.lstore_n 3, 1) := by decide +kernel
theorem dX11_chanceOfAtMost_2 : decode cX11_chanceOfAtMost 2 = .ok (.lconst 1, 1) := by decide +kernel
theorem dX11_chanceOfAtMost_3 : decode cX11_chanceOfAtMost 3 = .ok (.lstore 5, 2) := by decide +kernel
theorem dX11_chanceOfAtMost_5 : decode cX11_chanceOfAtMost 5 = .ok (.iconst 0, 1) := by decide +kernel
theorem dX11_chanceOfAtMost_6 : decode cX11_chanceOfAtMost 6 = .ok (.istore 7, 2) := by decide +kernel
theorem dX11_chanceOfAtMost_8 : decode cX11_chanceOfAtMost 8 = .ok (.iload 7, 2) := by decide +kernel
theorem dX11_chanceOfAtMost_10 : decode cX11_chanceOfAtMost 10 = .ok (.iload_n 0, 1) := by decide +kernel
theorem dX11_chanceOfAtMost_11 : decode cX11_chanceOfAtMost 11 = .ok (.if_icmp .gt 49, 3) := by decide +kernel
theorem dX11_chanceOfAtMost_14 : decode cX11_chanceOfAtMost 14 = .ok (.lload_n 3, 1) := by decide +kernel
theorem dX11_chanceOfAtMost_15 : decode cX11_chanceOfAtMost 15 = .ok (.lload 5, 2) := by decide +kernel
theorem dX11_chanceOfAtMost_17 : decode cX11_chanceOfAtMost 17 = .ok (.iload_n 2, 1) := by decide +kernel
theorem dX11_chanceOfAtMost_18 : decode cX11_chanceOfAtMost 18 = .ok (.iload 7, 2) := by decide +kernel
theorem dX11_chanceOfAtMost_20 : decode cX11_chanceOfAtMost 20 = .ok (.invokestatic 426, 3) := by decide +kernel
theorem dX11_chanceOfAtMost_23 : decode cX11_chanceOfAtMost 23 = .ok (.lmul, 1) := by decide +kernel
theorem dX11_chanceOfAtMost_24 : decode cX11_chanceOfAtMost 24 = .ok (.bipush 100, 2) := by decide +kernel
theorem dX11_chanceOfAtMost_26 : decode cX11_chanceOfAtMost 26 = .ok (.iload_n 2, 1) := by decide +kernel
theorem dX11_chanceOfAtMost_27 : decode cX11_chanceOfAtMost 27 = .ok (.isub, 1) := by decide +kernel
theorem dX11_chanceOfAtMost_28 : decode cX11_chanceOfAtMost 28 = .ok (.iload_n 1, 1) := by decide +kernel
theorem dX11_chanceOfAtMost_29 : decode cX11_chanceOfAtMost 29 = .ok (.iload 7, 2) := by decide +kernel
theorem dX11_chanceOfAtMost_31 : decode cX11_chanceOfAtMost 31 = .ok (.isub, 1) := by decide +kernel
theorem dX11_chanceOfAtMost_32 : decode cX11_chanceOfAtMost 32 = .ok (.invokestatic 426, 3) := by decide +kernel
theorem dX11_chanceOfAtMost_35 : decode cX11_chanceOfAtMost 35 = .ok (.lmul, 1) := by decide +kernel
theorem dX11_chanceOfAtMost_36 : decode cX11_chanceOfAtMost 36 = .ok (.ladd, 1) := by decide +kernel
theorem dX11_chanceOfAtMost_37 : decode cX11_chanceOfAtMost 37 = .ok (.lstore_n 3, 1) := by decide +kernel
theorem dX11_chanceOfAtMost_38 : decode cX11_chanceOfAtMost 38 = .ok (.lload 5, 2) := by decide +kernel
theorem dX11_chanceOfAtMost_40 : decode cX11_chanceOfAtMost 40 = .ok (.iload_n 1, 1) := by decide +kernel
theorem dX11_chanceOfAtMost_41 : decode cX11_chanceOfAtMost 41 = .ok (.iload 7, 2) := by decide +kernel
theorem dX11_chanceOfAtMost_43 : decode cX11_chanceOfAtMost 43 = .ok (.isub, 1) := by decide +kernel
theorem dX11_chanceOfAtMost_44 : decode cX11_chanceOfAtMost 44 = .ok (.i2l, 1) := by decide +kernel
theorem dX11_chanceOfAtMost_45 : decode cX11_chanceOfAtMost 45 = .ok (.lmul, 1) := by decide +kernel
theorem dX11_chanceOfAtMost_46 : decode cX11_chanceOfAtMost 46 = .ok (.iload 7, 2) := by decide +kernel
theorem dX11_chanceOfAtMost_48 : decode cX11_chanceOfAtMost 48 = .ok (.iconst 1, 1) := by decide +kernel
theorem dX11_chanceOfAtMost_49 : decode cX11_chanceOfAtMost 49 = .ok (.iadd, 1) := by decide +kernel
theorem dX11_chanceOfAtMost_50 : decode cX11_chanceOfAtMost 50 = .ok (.i2l, 1) := by decide +kernel
theorem dX11_chanceOfAtMost_51 : decode cX11_chanceOfAtMost 51 = .ok (.ldiv, 1) := by decide +kernel
theorem dX11_chanceOfAtMost_52 : decode cX11_chanceOfAtMost 52 = .ok (.lstore 5, 2) := by decide +kernel
theorem dX11_chanceOfAtMost_54 : decode cX11_chanceOfAtMost 54 = .ok (.iinc 7 1, 3) := by decide +kernel
theorem dX11_chanceOfAtMost_57 : decode cX11_chanceOfAtMost 57 = .ok (.goto (-49), 3) := by decide +kernel
theorem dX11_chanceOfAtMost_60 : decode cX11_chanceOfAtMost 60 = .ok (.iload_n 1, 1) := by decide +kernel
theorem dX11_chanceOfAtMost_61 : decode cX11_chanceOfAtMost 61 = .ok (.iconst 3, 1) := by decide +kernel
theorem dX11_chanceOfAtMost_62 : decode cX11_chanceOfAtMost 62 = .ok (.if_icmp .gt 16, 3) := by decide +kernel
theorem dX11_chanceOfAtMost_65 : decode cX11_chanceOfAtMost 65 = .ok (.lload_n 3, 1) := by decide +kernel
theorem dX11_chanceOfAtMost_66 : decode cX11_chanceOfAtMost 66 = .ok (.bipush 100, 2) := by decide +kernel
theorem dX11_chanceOfAtMost_68 : decode cX11_chanceOfAtMost 68 = .ok (.iconst 3, 1) := by decide +kernel
theorem dX11_chanceOfAtMost_69 : decode cX11_chanceOfAtMost 69 = .ok (.iload_n 1, 1) := by decide +kernel
theorem dX11_chanceOfAtMost_70 : decode cX11_chanceOfAtMost 70 = .ok (.isub, 1) := by decide +kernel
theorem dX11_chanceOfAtMost_71 : decode cX11_chanceOfAtMost 71 = .ok (.invokestatic 426, 3) := by decide +kernel
theorem dX11_chanceOfAtMost_74 : decode cX11_chanceOfAtMost 74 = .ok (.lmul, 1) := by decide +kernel
theorem dX11_chanceOfAtMost_75 : decode cX11_chanceOfAtMost 75 = .ok (.goto 13, 3) := by decide +kernel
theorem dX11_chanceOfAtMost_78 : decode cX11_chanceOfAtMost 78 = .ok (.lload_n 3, 1) := by decide +kernel
theorem dX11_chanceOfAtMost_79 : decode cX11_chanceOfAtMost 79 = .ok (.bipush 100, 2) := by decide +kernel
theorem dX11_chanceOfAtMost_81 : decode cX11_chanceOfAtMost 81 = .ok (.iload_n 1, 1) := by decide +kernel
theorem dX11_chanceOfAtMost_82 : decode cX11_chanceOfAtMost 82 = .ok (.iconst 3, 1) := by decide +kernel
theorem dX11_chanceOfAtMost_83 : decode cX11_chanceOfAtMost 83 = .ok (.isub, 1) := by decide +kernel
theorem dX11_chanceOfAtMost_84 : decode cX11_chanceOfAtMost 84 = .ok (.invokestatic 426, 3) := by decide +kernel
theorem dX11_chanceOfAtMost_87 : decode cX11_chanceOfAtMost 87 = .ok (.ldiv, 1) := by decide +kernel
theorem dX11_chanceOfAtMost_88 : decode cX11_chanceOfAtMost 88 = .ok (.l2i, 1) := by decide +kernel
theorem dX11_chanceOfAtMost_89 : decode cX11_chanceOfAtMost 89 = .ok (.ireturn, 1) := by decide +kernel
theorem dX11_power_0 : decode cX11_power 0 = .ok (.lconst 1, 1) := by decide +kernel
theorem dX11_power_1 : decode cX11_power 1 = .ok (.lstore_n 2, 1) := by decide +kernel
theorem dX11_power_2 : decode cX11_power 2 = .ok (.iconst 0, 1) := by decide +kernel
theorem dX11_power_3 : decode cX11_power 3 = .ok (.istore 4, 2) := by decide +kernel
theorem dX11_power_5 : decode cX11_power 5 = .ok (.iload 4, 2) := by decide +kernel
theorem dX11_power_7 : decode cX11_power 7 = .ok (.iload_n 1, 1) := by decide +kernel
theorem dX11_power_8 : decode cX11_power 8 = .ok (.if_icmp .ge 14, 3) := by decide +kernel
theorem dX11_power_11 : decode cX11_power 11 = .ok (.lload_n 2, 1) := by decide +kernel
theorem dX11_power_12 : decode cX11_power 12 = .ok (.iload_n 0, 1) := by decide +kernel
theorem dX11_power_13 : decode cX11_power 13 = .ok (.i2l, 1) := by decide +kernel
theorem dX11_power_14 : decode cX11_power 14 = .ok (.lmul, 1) := by decide +kernel
theorem dX11_power_15 : decode cX11_power 15 = .ok (.lstore_n 2, 1) := by decide +kernel
theorem dX11_power_16 : decode cX11_power 16 = .ok (.iinc 4 1, 3) := by decide +kernel
theorem dX11_power_19 : decode cX11_power 19 = .ok (.goto (-14), 3) := by decide +kernel
theorem dX11_power_22 : decode cX11_power 22 = .ok (.lload_n 2, 1) := by decide +kernel
theorem dX11_power_23 : decode cX11_power 23 = .ok (.lreturn, 1) := by decide +kernel
theorem dX11_meetings_0 : decode cX11_meetings 0 = .ok (.iconst 0, 1) := by decide +kernel
theorem dX11_meetings_1 : decode cX11_meetings 1 = .ok (.istore 4, 2) := by decide +kernel
theorem dX11_meetings_3 : decode cX11_meetings 3 = .ok (.iconst 0, 1) := by decide +kernel
theorem dX11_meetings_4 : decode cX11_meetings 4 = .ok (.istore 5, 2) := by decide +kernel
theorem dX11_meetings_6 : decode cX11_meetings 6 = .ok (.iload 5, 2) := by decide +kernel
theorem dX11_meetings_8 : decode cX11_meetings 8 = .ok (.iload_n 0, 1) := by decide +kernel
theorem dX11_meetings_9 : decode cX11_meetings 9 = .ok (.if_icmp .ge 36, 3) := by decide +kernel
theorem dX11_meetings_12 : decode cX11_meetings 12 = .ok (.iload_n 1, 1) := by decide +kernel
theorem dX11_meetings_13 : decode cX11_meetings 13 = .ok (.iload 5, 2) := by decide +kernel
theorem dX11_meetings_15 : decode cX11_meetings 15 = .ok (.imul, 1) := by decide +kernel
theorem dX11_meetings_16 : decode cX11_meetings 16 = .ok (.iload 5, 2) := by decide +kernel
theorem dX11_meetings_18 : decode cX11_meetings 18 = .ok (.imul, 1) := by decide +kernel
theorem dX11_meetings_19 : decode cX11_meetings 19 = .ok (.iload_n 2, 1) := by decide +kernel
theorem dX11_meetings_20 : decode cX11_meetings 20 = .ok (.iload 5, 2) := by decide +kernel
theorem dX11_meetings_22 : decode cX11_meetings 22 = .ok (.iload_n 3, 1) := by decide +kernel
theorem dX11_meetings_23 : decode cX11_meetings 23 = .ok (.iadd, 1) := by decide +kernel
theorem dX11_meetings_24 : decode cX11_meetings 24 = .ok (.imul, 1) := by decide +kernel
theorem dX11_meetings_25 : decode cX11_meetings 25 = .ok (.iload 5, 2) := by decide +kernel
theorem dX11_meetings_27 : decode cX11_meetings 27 = .ok (.iload_n 3, 1) := by decide +kernel
theorem dX11_meetings_28 : decode cX11_meetings 28 = .ok (.iadd, 1) := by decide +kernel
theorem dX11_meetings_29 : decode cX11_meetings 29 = .ok (.imul, 1) := by decide +kernel
theorem dX11_meetings_30 : decode cX11_meetings 30 = .ok (.isub, 1) := by decide +kernel
theorem dX11_meetings_31 : decode cX11_meetings 31 = .ok (.iload_n 0, 1) := by decide +kernel
theorem dX11_meetings_32 : decode cX11_meetings 32 = .ok (.irem, 1) := by decide +kernel
theorem dX11_meetings_33 : decode cX11_meetings 33 = .ok (.ifCond .ne 6, 3) := by decide +kernel
theorem dX11_meetings_36 : decode cX11_meetings 36 = .ok (.iinc 4 1, 3) := by decide +kernel
theorem dX11_meetings_39 : decode cX11_meetings 39 = .ok (.iinc 5 1, 3) := by decide +kernel
theorem dX11_meetings_42 : decode cX11_meetings 42 = .ok (.goto (-36), 3) := by decide +kernel
theorem dX11_meetings_45 : decode cX11_meetings 45 = .ok (.iload 4, 2) := by decide +kernel
theorem dX11_meetings_47 : decode cX11_meetings 47 = .ok (.ireturn, 1) := by decide +kernel
