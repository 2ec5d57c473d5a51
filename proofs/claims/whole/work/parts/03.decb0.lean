theorem dX11_init_0 : decode cX11_init 0 = .ok (.aload_n 0, 1) := by decide +kernel
theorem dX11_init_1 : decode cX11_init 1 = .ok (.invokespecial 1, 3) := by decide +kernel
theorem dX11_init_4 : decode cX11_init 4 = .ok (.aload_n 0, 1) := by decide +kernel
theorem dX11_init_5 : decode cX11_init 5 = .ok (.new 7, 3) := by decide +kernel
theorem dX11_init_8 : decode cX11_init 8 = .ok (.dup, 1) := by decide +kernel
theorem dX11_init_9 : decode cX11_init 9 = .ok (.invokespecial 9, 3) := by decide +kernel
theorem dX11_init_12 : decode cX11_init 12 = .ok (.putfield 10, 3) := by decide +kernel
theorem dX11_init_15 : decode cX11_init 15 = .ok (.aload_n 0, 1) := by decide +kernel
theorem dX11_init_16 : decode cX11_init 16 = .ok (.bipush 6, 2) := by decide +kernel
theorem dX11_init_18 : decode cX11_init 18 = .ok (.anewarray 16, 3) := by decide +kernel
theorem dX11_init_21 : decode cX11_init 21 = .ok (.putfield 18, 3) := by decide +kernel
theorem dX11_init_24 : decode cX11_init 24 = .ok (.iconst 0, 1) := by decide +kernel
theorem dX11_init_25 : decode cX11_init 25 = .ok (.istore_n 1, 1) := by decide +kernel
theorem dX11_init_26 : decode cX11_init 26 = .ok (.iload_n 1, 1) := by decide +kernel
theorem dX11_init_27 : decode cX11_init 27 = .ok (.bipush 6, 2) := by decide +kernel
theorem dX11_init_29 : decode cX11_init 29 = .ok (.if_icmp .ge 22, 3) := by decide +kernel
theorem dX11_init_32 : decode cX11_init 32 = .ok (.aload_n 0, 1) := by decide +kernel
theorem dX11_init_33 : decode cX11_init 33 = .ok (.getfield 18, 3) := by decide +kernel
theorem dX11_init_36 : decode cX11_init 36 = .ok (.iload_n 1, 1) := by decide +kernel
theorem dX11_init_37 : decode cX11_init 37 = .ok (.new 16, 3) := by decide +kernel
theorem dX11_init_40 : decode cX11_init 40 = .ok (.dup, 1) := by decide +kernel
theorem dX11_init_41 : decode cX11_init 41 = .ok (.invokespecial 22, 3) := by decide +kernel
theorem dX11_init_44 : decode cX11_init 44 = .ok (.aastore, 1) := by decide +kernel
theorem dX11_init_45 : decode cX11_init 45 = .ok (.iinc 1 1, 3) := by decide +kernel
theorem dX11_init_48 : decode cX11_init 48 = .ok (.goto (-22), 3) := by decide +kernel
theorem dX11_init_51 : decode cX11_init 51 = .ok (.aload_n 0, 1) := by decide +kernel
theorem dX11_init_52 : decode cX11_init 52 = .ok (.new 23, 3) := by decide +kernel
theorem dX11_init_55 : decode cX11_init 55 = .ok (.dup, 1) := by decide +kernel
theorem dX11_init_56 : decode cX11_init 56 = .ok (.aload_n 0, 1) := by decide +kernel
theorem dX11_init_57 : decode cX11_init 57 = .ok (.getfield 10, 3) := by decide +kernel
theorem dX11_init_60 : decode cX11_init 60 = .ok (.aload_n 0, 1) := by decide +kernel
theorem dX11_init_61 : decode cX11_init 61 = .ok (.getfield 18, 3) := by decide +kernel
theorem dX11_init_64 : decode cX11_init 64 = .ok (.iconst 0, 1) := by decide +kernel
theorem dX11_init_65 : decode cX11_init 65 = .ok (.aaload, 1) := by decide +kernel
theorem dX11_init_66 : decode cX11_init 66 = .ok (.aload_n 0, 1) := by decide +kernel
theorem dX11_init_67 : decode cX11_init 67 = .ok (.getfield 18, 3) := by decide +kernel
theorem dX11_init_70 : decode cX11_init 70 = .ok (.iconst 1, 1) := by decide +kernel
theorem dX11_init_71 : decode cX11_init 71 = .ok (.aaload, 1) := by decide +kernel
theorem dX11_init_72 : decode cX11_init 72 = .ok (.invokespecial 25, 3) := by decide +kernel
theorem dX11_init_75 : decode cX11_init 75 = .ok (.putfield 28, 3) := by decide +kernel
theorem dX11_init_78 : decode cX11_init 78 = .ok (.aload_n 0, 1) := by decide +kernel
theorem dX11_init_79 : decode cX11_init 79 = .ok (.new 32, 3) := by decide +kernel
theorem dX11_init_82 : decode cX11_init 82 = .ok (.dup, 1) := by decide +kernel
theorem dX11_init_83 : decode cX11_init 83 = .ok (.aload_n 0, 1) := by decide +kernel
theorem dX11_init_84 : decode cX11_init 84 = .ok (.getfield 10, 3) := by decide +kernel
theorem dX11_init_87 : decode cX11_init 87 = .ok (.aload_n 0, 1) := by decide +kernel
theorem dX11_init_88 : decode cX11_init 88 = .ok (.getfield 28, 3) := by decide +kernel
theorem dX11_init_91 : decode cX11_init 91 = .ok (.aload_n 0, 1) := by decide +kernel
theorem dX11_init_92 : decode cX11_init 92 = .ok (.getfield 18, 3) := by decide +kernel
theorem dX11_init_95 : decode cX11_init 95 = .ok (.invokespecial 34, 3) := by decide +kernel
theorem dX11_init_98 : decode cX11_init 98 = .ok (.putfield 37, 3) := by decide +kernel
theorem dX11_init_101 : decode cX11_init 101 = .ok (.aload_n 0, 1) := by decide +kernel
theorem dX11_init_102 : decode cX11_init 102 = .ok (.new 41, 3) := by decide +kernel
theorem dX11_init_105 : decode cX11_init 105 = .ok (.dup, 1) := by decide +kernel
theorem dX11_init_106 : decode cX11_init 106 = .ok (.aload_n 0, 1) := by decide +kernel
theorem dX11_init_107 : decode cX11_init 107 = .ok (.getfield 10, 3) := by decide +kernel
theorem dX11_init_110 : decode cX11_init 110 = .ok (.aload_n 0, 1) := by decide +kernel
theorem dX11_init_111 : decode cX11_init 111 = .ok (.getfield 37, 3) := by decide +kernel
theorem dX11_init_114 : decode cX11_init 114 = .ok (.invokespecial 43, 3) := by decide +kernel
theorem dX11_init_117 : decode cX11_init 117 = .ok (.putfield 46, 3) := by decide +kernel
theorem dX11_init_120 : decode cX11_init 120 = .ok (.aload_n 0, 1) := by decide +kernel
theorem dX11_init_121 : decode cX11_init 121 = .ok (.new 50, 3) := by decide +kernel
theorem dX11_init_124 : decode cX11_init 124 = .ok (.dup, 1) := by decide +kernel
theorem dX11_init_125 : decode cX11_init 125 = .ok (.aload_n 0, 1) := by decide +kernel
theorem dX11_init_126 : decode cX11_init 126 = .ok (.getfield 10, 3) := by decide +kernel
theorem dX11_init_129 : decode cX11_init 129 = .ok (.aload_n 0, 1) := by decide +kernel
theorem dX11_init_130 : decode cX11_init 130 = .ok (.getfield 37, 3) := by decide +kernel
theorem dX11_init_133 : decode cX11_init 133 = .ok (.invokespecial 52, 3) := by decide +kernel
theorem dX11_init_136 : decode cX11_init 136 = .ok (.putfield 53, 3) := by decide +kernel
theorem dX11_init_139 : decode cX11_init 139 = .ok (.aload_n 0, 1) := by decide +kernel
theorem dX11_init_140 : decode cX11_init 140 = .ok (.new 57, 3) := by decide +kernel
theorem dX11_init_143 : decode cX11_init 143 = .ok (.dup, 1) := by decide +kernel
theorem dX11_init_144 : decode cX11_init 144 = .ok (.invokespecial 59, 3) := by decide +kernel
theorem dX11_init_147 : decode cX11_init 147 = .ok (.putfield 60, 3) := by decide +kernel
theorem dX11_init_150 : decode cX11_init 150 = .ok (.aload_n 0, 1) := by decide +kernel
theorem dX11_init_151 : decode cX11_init 151 = .ok (.new 64, 3) := by decide +kernel
theorem dX11_init_154 : decode cX11_init 154 = .ok (.dup, 1) := by decide +kernel
theorem dX11_init_155 : decode cX11_init 155 = .ok (.invokespecial 66, 3) := by decide +kernel
theorem dX11_init_158 : decode cX11_init 158 = .ok (.putfield 67, 3) := by decide +kernel
theorem dX11_init_161 : decode cX11_init 161 = .ok (.aload_n 0, 1) := by decide +kernel
theorem dX11_init_162 : decode cX11_init 162 = .ok (.new 71, 3) := by decide +kernel
theorem dX11_init_165 : decode cX11_init 165 = .ok (.dup, 1) := by decide +kernel
theorem dX11_init_166 : decode cX11_init 166 = .ok (.aload_n 0, 1) := by decide +kernel
theorem dX11_init_167 : decode cX11_init 167 = .ok (.getfield 28, 3) := by decide +kernel
theorem dX11_init_170 : decode cX11_init 170 = .ok (.invokespecial 73, 3) := by decide +kernel
theorem dX11_init_173 : decode cX11_init 173 = .ok (.putfield 76, 3) := by decide +kernel
theorem dX11_init_176 : decode cX11_init 176 = .ok (.aload_n 0, 1) := by decide +kernel
theorem dX11_init_177 : decode cX11_init 177 = .ok (.new 80, 3) := by decide +kernel
theorem dX11_init_180 : decode cX11_init 180 = .ok (.dup, 1) := by decide +kernel
theorem dX11_init_181 : decode cX11_init 181 = .ok (.aload_n 0, 1) := by decide +kernel
theorem dX11_init_182 : decode cX11_init 182 = .ok (.getfield 10, 3) := by decide +kernel
theorem dX11_init_185 : decode cX11_init 185 = .ok (.aload_n 0, 1) := by decide +kernel
theorem dX11_init_186 : decode cX11_init 186 = .ok (.getfield 28, 3) := by decide +kernel
theorem dX11_init_189 : decode cX11_init 189 = .ok (.invokespecial 82, 3) := by decide +kernel
theorem dX11_init_192 : decode cX11_init 192 = .ok (.putfield 85, 3) := by decide +kernel
theorem dX11_init_195 : decode cX11_init 195 = .ok (.aload_n 0, 1) := by decide +kernel
theorem dX11_init_196 : decode cX11_init 196 = .ok (.sipush 400, 3) := by decide +kernel
theorem dX11_init_199 : decode cX11_init 199 = .ok (.newarray .long, 2) := by decide +kernel
theorem dX11_init_201 : decode cX11_init 201 = .ok (.putfield 89, 3) := by decide +kernel
theorem dX11_init_204 : decode cX11_init 204 = .ok (.return_, 1) := by decide +kernel
theorem dX11_land_0 : decode cX11_land 0 = .ok (.iload_n 1, 1) := by decide +kernel
theorem dX11_land_1 : decode cX11_land 1 = .ok (.iconst 1, 1) := by decide +kernel
theorem dX11_land_2 : decode cX11_land 2 = .ok (.bipush 20, 2) := by decide +kernel
theorem dX11_land_4 : decode cX11_land 4 = .ok (.invokestatic 93, 3) := by decide +kernel
theorem dX11_land_7 : decode cX11_land 7 = .ok (.ifCond .eq 13, 3) := by decide +kernel
theorem dX11_land_10 : decode cX11_land 10 = .ok (.iload_n 2, 1) := by decide +kernel
theorem dX11_land_11 : decode cX11_land 11 = .ok (.iconst 1, 1) := by decide +kernel
theorem dX11_land_12 : decode cX11_land 12 = .ok (.bipush 20, 2) := by decide +kernel
theorem dX11_land_14 : decode cX11_land 14 = .ok (.invokestatic 93, 3) := by decide +kernel
theorem dX11_land_17 : decode cX11_land 17 = .ok (.ifCond .ne 6, 3) := by decide +kernel
theorem dX11_land_20 : decode cX11_land 20 = .ok (.bipush (-2), 2) := by decide +kernel
theorem dX11_land_22 : decode cX11_land 22 = .ok (.ireturn, 1) := by decide +kernel
theorem dX11_land_23 : decode cX11_land 23 = .ok (.aload_n 0, 1) := by decide +kernel
theorem dX11_land_24 : decode cX11_land 24 = .ok (.getfield 37, 3) := by decide +kernel
theorem dX11_land_27 : decode cX11_land 27 = .ok (.getfield 97, 3) := by decide +kernel
theorem dX11_land_30 : decode cX11_land 30 = .ok (.ifCond .gt 33, 3) := by decide +kernel
theorem dX11_land_33 : decode cX11_land 33 = .ok (.aload_n 0, 1) := by decide +kernel
theorem dX11_land_34 : decode cX11_land 34 = .ok (.getfield 76, 3) := by decide +kernel
theorem dX11_land_37 : decode cX11_land 37 = .ok (.getfield 101, 3) := by decide +kernel
theorem dX11_land_40 : decode cX11_land 40 = .ok (.ifCond .gt 23, 3) := by decide +kernel
theorem dX11_land_43 : decode cX11_land 43 = .ok (.aload_n 0, 1) := by decide +kernel
theorem dX11_land_44 : decode cX11_land 44 = .ok (.getfield 85, 3) := by decide +kernel
theorem dX11_land_47 : decode cX11_land 47 = .ok (.getfield 102, 3) := by decide +kernel
theorem dX11_land_50 : decode cX11_land 50 = .ok (.ifCond .gt 13, 3) := by decide +kernel
theorem dX11_land_53 : decode cX11_land 53 = .ok (.aload_n 0, 1) := by decide +kernel
theorem dX11_land_54 : decode cX11_land 54 = .ok (.getfield 85, 3) := by decide +kernel
theorem dX11_land_57 : decode cX11_land 57 = .ok (.getfield 105, 3) := by decide +kernel
theorem dX11_land_60 : decode cX11_land 60 = .ok (.ifCond .le 6, 3) := by decide +kernel
theorem dX11_land_63 : decode cX11_land 63 = .ok (.bipush (-3), 2) := by decide +kernel
theorem dX11_land_65 : decode cX11_land 65 = .ok (.ireturn, 1) := by decide +kernel
theorem dX11_land_66 : decode cX11_land 66 = .ok (.aload_n 0, 1) := by decide +kernel
theorem dX11_land_67 : decode cX11_land 67 = .ok (.getfield 28, 3) := by decide +kernel
theorem dX11_land_70 : decode cX11_land 70 = .ok (.iload_n 1, 1) := by decide +kernel
theorem dX11_land_71 : decode cX11_land 71 = .ok (.putfield 108, 3) := by decide +kernel
theorem dX11_land_74 : decode cX11_land 74 = .ok (.aload_n 0, 1) := by decide +kernel
theorem dX11_land_75 : decode cX11_land 75 = .ok (.getfield 28, 3) := by decide +kernel
theorem dX11_land_78 : decode cX11_land 78 = .ok (.iload_n 2, 1) := by decide +kernel
theorem dX11_land_79 : decode cX11_land 79 = .ok (.putfield 111, 3) := by decide +kernel
theorem dX11_land_82 : decode cX11_land 82 = .ok (.iconst 1, 1) := by decide +kernel
theorem dX11_land_83 : decode cX11_land 83 = .ok (.ireturn, 1) := by decide +kernel
theorem dX11_ground_0 : decode cX11_ground 0 = .ok (.aload_n 0, 1) := by decide +kernel
theorem dX11_ground_1 : decode cX11_ground 1 = .ok (.getfield 28, 3) := by decide +kernel
theorem dX11_ground_4 : decode cX11_ground 4 = .ok (.iload_n 1, 1) := by decide +kernel
theorem dX11_ground_5 : decode cX11_ground 5 = .ok (.i2l, 1) := by decide +kernel
theorem dX11_ground_6 : decode cX11_ground 6 = .ok (.invokevirtual 114, 3) := by decide +kernel
theorem dX11_ground_9 : decode cX11_ground 9 = .ok (.ifCond .eq 12, 3) := by decide +kernel
theorem dX11_ground_12 : decode cX11_ground 12 = .ok (.iload_n 2, 1) := by decide +kernel
theorem dX11_ground_13 : decode cX11_ground 13 = .ok (.iconst 0, 1) := by decide +kernel
theorem dX11_ground_14 : decode cX11_ground 14 = .ok (.iconst 1, 1) := by decide +kernel
theorem dX11_ground_15 : decode cX11_ground 15 = .ok (.invokestatic 93, 3) := by decide +kernel
theorem dX11_ground_18 : decode cX11_ground 18 = .ok (.ifCond .ne 6, 3) := by decide +kernel
theorem dX11_ground_21 : decode cX11_ground 21 = .ok (.bipush (-2), 2) := by decide +kernel
theorem dX11_ground_23 : decode cX11_ground 23 = .ok (.ireturn, 1) := by decide +kernel
theorem dX11_ground_24 : decode cX11_ground 24 = .ok (.iload_n 2, 1) := by decide +kernel
theorem dX11_ground_25 : decode cX11_ground 25 = .ok (.ifCond .ne 14, 3) := by decide +kernel
theorem dX11_ground_28 : decode cX11_ground 28 = .ok (.aload_n 0, 1) := by decide +kernel
theorem dX11_ground_29 : decode cX11_ground 29 = .ok (.getfield 28, 3) := by decide +kernel
theorem dX11_ground_32 : decode cX11_ground 32 = .ok (.iload_n 1, 1) := by decide +kernel
theorem dX11_ground_33 : decode cX11_ground 33 = .ok (.invokevirtual 118, 3) := by decide +kernel
theorem dX11_ground_36 : decode cX11_ground 36 = .ok (.goto 11, 3) := by decide +kernel
theorem dX11_ground_39 : decode cX11_ground 39 = .ok (.aload_n 0, 1) := by decide +kernel
theorem dX11_ground_40 : decode cX11_ground 40 = .ok (.getfield 28, 3) := by decide +kernel
theorem dX11_ground_43 : decode cX11_ground 43 = .ok (.iload_n 1, 1) := by decide +kernel
theorem dX11_ground_44 : decode cX11_ground 44 = .ok (.invokevirtual 122, 3) := by decide +kernel
theorem dX11_ground_47 : decode cX11_ground 47 = .ok (.ireturn, 1) := by decide +kernel
theorem dX11_set_0 : decode cX11_set 0 = .ok (.iload_n 1, 1) := by decide +kernel
theorem dX11_set_1 : decode cX11_set 1 = .ok (.iconst 0, 1) := by decide +kernel
theorem dX11_set_2 : decode cX11_set 2 = .ok (.iconst 4, 1) := by decide +kernel
theorem dX11_set_3 : decode cX11_set 3 = .ok (.invokestatic 93, 3) := by decide +kernel
theorem dX11_set_6 : decode cX11_set 6 = .ok (.ifCond .eq 20, 3) := by decide +kernel
theorem dX11_set_9 : decode cX11_set 9 = .ok (.iload_n 2, 1) := by decide +kernel
theorem dX11_set_10 : decode cX11_set 10 = .ok (.getstatic 125, 3) := by decide +kernel
theorem dX11_set_13 : decode cX11_set 13 = .ok (.iload_n 1, 1) := by decide +kernel
theorem dX11_set_14 : decode cX11_set 14 = .ok (.iaload, 1) := by decide +kernel
theorem dX11_set_15 : decode cX11_set 15 = .ok (.getstatic 129, 3) := by decide +kernel
theorem dX11_set_18 : decode cX11_set 18 = .ok (.iload_n 1, 1) := by decide +kernel
theorem dX11_set_19 : decode cX11_set 19 = .ok (.iaload, 1) := by decide +kernel
theorem dX11_set_20 : decode cX11_set 20 = .ok (.invokestatic 93, 3) := by decide +kernel
theorem dX11_set_23 : decode cX11_set 23 = .ok (.ifCond .ne 6, 3) := by decide +kernel
theorem dX11_set_26 : decode cX11_set 26 = .ok (.bipush (-2), 2) := by decide +kernel
theorem dX11_set_28 : decode cX11_set 28 = .ok (.ireturn, 1) := by decide +kernel
theorem dX11_set_29 : decode cX11_set 29 = .ok (.aload_n 0, 1) := by decide +kernel
theorem dX11_set_30 : decode cX11_set 30 = .ok (.getfield 10, 3) := by decide +kernel
theorem dX11_set_33 : decode cX11_set 33 = .ok (.getfield 132, 3) := by decide +kernel
theorem dX11_set_36 : decode cX11_set 36 = .ok (.iload_n 1, 1) := by decide +kernel
theorem dX11_set_37 : decode cX11_set 37 = .ok (.iaload, 1) := by decide +kernel
theorem dX11_set_38 : decode cX11_set 38 = .ok (.istore_n 3, 1) := by decide +kernel
theorem dX11_set_39 : decode cX11_set 39 = .ok (.aload_n 0, 1) := by decide +kernel
theorem dX11_set_40 : decode cX11_set 40 = .ok (.getfield 10, 3) := by decide +kernel
theorem dX11_set_43 : decode cX11_set 43 = .ok (.getfield 132, 3) := by decide +kernel
theorem dX11_set_46 : decode cX11_set 46 = .ok (.iload_n 1, 1) := by decide +kernel
theorem dX11_set_47 : decode cX11_set 47 = .ok (.iload_n 2, 1) := by decide +kernel
theorem dX11_set_48 : decode cX11_set 48 = .ok (.iastore, 1) := by decide +kernel
theorem dX11_set_49 : decode cX11_set 49 = .ok (.iload_n 3, 1) := by decide +kernel
theorem dX11_set_50 : decode cX11_set 50 = .ok (.ireturn, 1) := by decide +kernel
theorem dX11_loss_0 : decode cX11_loss 0 = .ok (.aload_n 0, 1) := by decide +kernel
theorem dX11_loss_1 : decode cX11_loss 1 = .ok (.getfield 28, 3) := by decide +kernel
theorem dX11_loss_4 : decode cX11_loss 4 = .ok (.iload_n 1, 1) := by decide +kernel
theorem dX11_loss_5 : decode cX11_loss 5 = .ok (.i2l, 1) := by decide +kernel
theorem dX11_loss_6 : decode cX11_loss 6 = .ok (.invokevirtual 114, 3) := by decide +kernel
theorem dX11_loss_9 : decode cX11_loss 9 = .ok (.ifCond .eq 25, 3) := by decide +kernel
theorem dX11_loss_12 : decode cX11_loss 12 = .ok (.aload_n 0, 1) := by decide +kernel
theorem dX11_loss_13 : decode cX11_loss 13 = .ok (.getfield 28, 3) := by decide +kernel
theorem dX11_loss_16 : decode cX11_loss 16 = .ok (.iload_n 3, 1) := by decide +kernel
theorem dX11_loss_17 : decode cX11_loss 17 = .ok (.i2l, 1) := by decide +kernel
theorem dX11_loss_18 : decode cX11_loss 18 = .ok (.invokevirtual 114, 3) := by decide +kernel
theorem dX11_loss_21 : decode cX11_loss 21 = .ok (.ifCond .eq 13, 3) := by decide +kernel
theorem dX11_loss_24 : decode cX11_loss 24 = .ok (.iload 5, 2) := by decide +kernel
theorem dX11_loss_26 : decode cX11_loss 26 = .ok (.iconst 0, 1) := by decide +kernel
theorem dX11_loss_27 : decode cX11_loss 27 = .ok (.iconst 1, 1) := by decide +kernel
theorem dX11_loss_28 : decode cX11_loss 28 = .ok (.invokestatic 93, 3) := by decide +kernel
theorem dX11_loss_31 : decode cX11_loss 31 = .ok (.ifCond .ne 6, 3) := by decide +kernel
theorem dX11_loss_34 : decode cX11_loss 34 = .ok (.bipush (-2), 2) := by decide +kernel
theorem dX11_loss_36 : decode cX11_loss 36 = .ok (.ireturn, 1) := by decide +kernel
theorem dX11_loss_37 : decode cX11_loss 37 = .ok (.iload_n 2, 1) := by decide +kernel
theorem dX11_loss_38 : decode cX11_loss 38 = .ok (.iconst 0, 1) := by decide +kernel
theorem dX11_loss_39 : decode cX11_loss 39 = .ok (.bipush 20, 2) := by decide +kernel
theorem dX11_loss_41 : decode cX11_loss 41 = .ok (.invokestatic 93, 3) := by decide +kernel
theorem dX11_loss_44 : decode cX11_loss 44 = .ok (.ifCond .eq 14, 3) := by decide +kernel
theorem dX11_loss_47 : decode cX11_loss 47 = .ok (.iload 4, 2) := by decide +kernel
theorem dX11_loss_49 : decode cX11_loss 49 = .ok (.iconst 0, 1) := by decide +kernel
theorem dX11_loss_50 : decode cX11_loss 50 = .ok (.bipush 20, 2) := by decide +kernel
theorem dX11_loss_52 : decode cX11_loss 52 = .ok (.invokestatic 93, 3) := by decide +kernel
theorem dX11_loss_55 : decode cX11_loss 55 = .ok (.ifCond .ne 6, 3) := by decide +kernel
theorem dX11_loss_58 : decode cX11_loss 58 = .ok (.bipush (-2), 2) := by decide +kernel
theorem dX11_loss_60 : decode cX11_loss 60 = .ok (.ireturn, 1) := by decide +kernel
theorem dX11_loss_61 : decode cX11_loss 61 = .ok (.aload_n 0, 1) := by decide +kernel
theorem dX11_loss_62 : decode cX11_loss 62 = .ok (.getfield 28, 3) := by decide +kernel
theorem dX11_loss_65 : decode cX11_loss 65 = .ok (.iload_n 1, 1) := by decide +kernel
theorem dX11_loss_66 : decode cX11_loss 66 = .ok (.iload_n 2, 1) := by decide +kernel
theorem dX11_loss_67 : decode cX11_loss 67 = .ok (.iload_n 3, 1) := by decide +kernel
theorem dX11_loss_68 : decode cX11_loss 68 = .ok (.iload 4, 2) := by decide +kernel
theorem dX11_loss_70 : decode cX11_loss 70 = .ok (.iload 5, 2) := by decide +kernel
theorem dX11_loss_72 : decode cX11_loss 72 = .ok (.invokevirtual 135, 3) := by decide +kernel
theorem dX11_loss_75 : decode cX11_loss 75 = .ok (.ireturn, 1) := by decide +kernel
theorem dX11_pass_0 : decode cX11_pass 0 = .ok (.iload_n 1, 1) := by decide +kernel
theorem dX11_pass_1 : decode cX11_pass 1 = .ok (.iconst 1, 1) := by decide +kernel
theorem dX11_pass_2 : decode cX11_pass 2 = .ok (.sipush 1000, 3) := by decide +kernel
theorem dX11_pass_5 : decode cX11_pass 5 = .ok (.invokestatic 93, 3) := by decide +kernel
theorem dX11_pass_8 : decode cX11_pass 8 = .ok (.ifCond .ne 6, 3) := by decide +kernel
theorem dX11_pass_11 : decode cX11_pass 11 = .ok (.bipush (-2), 2) := by decide +kernel
theorem dX11_pass_13 : decode cX11_pass 13 = .ok (.ireturn, 1) := by decide +kernel
theorem dX11_pass_14 : decode cX11_pass 14 = .ok (.aload_n 0, 1) := by decide +kernel
theorem dX11_pass_15 : decode cX11_pass 15 = .ok (.getfield 37, 3) := by decide +kernel
theorem dX11_pass_18 : decode cX11_pass 18 = .ok (.dup, 1) := by decide +kernel
theorem dX11_pass_19 : decode cX11_pass 19 = .ok (.getfield 139, 3) := by decide +kernel
theorem dX11_pass_22 : decode cX11_pass 22 = .ok (.iload_n 1, 1) := by decide +kernel
theorem dX11_pass_23 : decode cX11_pass 23 = .ok (.iadd, 1) := by decide +kernel
theorem dX11_pass_24 : decode cX11_pass 24 = .ok (.putfield 139, 3) := by decide +kernel
theorem dX11_pass_27 : decode cX11_pass 27 = .ok (.aload_n 0, 1) := by decide +kernel
theorem dX11_pass_28 : decode cX11_pass 28 = .ok (.getfield 37, 3) := by decide +kernel
theorem dX11_pass_31 : decode cX11_pass 31 = .ok (.getfield 139, 3) := by decide +kernel
theorem dX11_pass_34 : decode cX11_pass 34 = .ok (.ireturn, 1) := by decide +kernel
theorem dX11_sender_0 : decode cX11_sender 0 = .ok (.iload_n 1, 1) := by decide +kernel
theorem dX11_sender_1 : decode cX11_sender 1 = .ok (.iconst 0, 1) := by decide +kernel
theorem dX11_sender_2 : decode cX11_sender 2 = .ok (.iconst 5, 1) := by decide +kernel
theorem dX11_sender_3 : decode cX11_sender 3 = .ok (.invokestatic 93, 3) := by decide +kernel
theorem dX11_sender_6 : decode cX11_sender 6 = .ok (.ifCond .eq 28, 3) := by decide +kernel
theorem dX11_sender_9 : decode cX11_sender 9 = .ok (.aload_n 0, 1) := by decide +kernel
theorem dX11_sender_10 : decode cX11_sender 10 = .ok (.getfield 28, 3) := by decide +kernel
theorem dX11_sender_13 : decode cX11_sender 13 = .ok (.iload_n 2, 1) := by decide +kernel
theorem dX11_sender_14 : decode cX11_sender 14 = .ok (.i2l, 1) := by decide +kernel
theorem dX11_sender_15 : decode cX11_sender 15 = .ok (.invokevirtual 114, 3) := by decide +kernel
theorem dX11_sender_18 : decode cX11_sender 18 = .ok (.ifCond .eq 16, 3) := by decide +kernel
theorem dX11_sender_21 : decode cX11_sender 21 = .ok (.aload_n 0, 1) := by decide +kernel
theorem dX11_sender_22 : decode cX11_sender 22 = .ok (.getfield 28, 3) := by decide +kernel
theorem dX11_sender_25 : decode cX11_sender 25 = .ok (.iload 6, 2) := by decide +kernel
theorem dX11_sender_27 : decode cX11_sender 27 = .ok (.i2l, 1) := by decide +kernel
theorem dX11_sender_28 : decode cX11_sender 28 = .ok (.invokevirtual 114, 3) := by decide +kernel
theorem dX11_sender_31 : decode cX11_sender 31 = .ok (.ifCond .ne 6, 3) := by decide +kernel
theorem dX11_sender_34 : decode cX11_sender 34 = .ok (.bipush (-2), 2) := by decide +kernel
theorem dX11_sender_36 : decode cX11_sender 36 = .ok (.ireturn, 1) := by decide +kernel
theorem dX11_sender_37 : decode cX11_sender 37 = .ok (.iload_n 3, 1) := by decide +kernel
theorem dX11_sender_38 : decode cX11_sender 38 = .ok (.iconst 1, 1) := by decide +kernel
theorem dX11_sender_39 : decode cX11_sender 39 = .ok (.ldc 142, 2) := by decide +kernel
theorem dX11_sender_41 : decode cX11_sender 41 = .ok (.invokestatic 93, 3) := by decide +kernel
theorem dX11_sender_44 : decode cX11_sender 44 = .ok (.ifCond .eq 26, 3) := by decide +kernel
theorem dX11_sender_47 : decode cX11_sender 47 = .ok (.iload 4, 2) := by decide +kernel
theorem dX11_sender_49 : decode cX11_sender 49 = .ok (.iconst 0, 1) := by decide +kernel
theorem dX11_sender_50 : decode cX11_sender 50 = .ok (.bipush 20, 2) := by decide +kernel
theorem dX11_sender_52 : decode cX11_sender 52 = .ok (.invokestatic 93, 3) := by decide +kernel
theorem dX11_sender_55 : decode cX11_sender 55 = .ok (.ifCond .eq 15, 3) := by decide +kernel
theorem dX11_sender_58 : decode cX11_sender 58 = .ok (.iload 5, 2) := by decide +kernel
theorem dX11_sender_60 : decode cX11_sender 60 = .ok (.iconst 1, 1) := by decide +kernel
theorem dX11_sender_61 : decode cX11_sender 61 = .ok (.sipush 10000, 3) := by decide +kernel
theorem dX11_sender_64 : decode cX11_sender 64 = .ok (.invokestatic 93, 3) := by decide +kernel
theorem dX11_sender_67 : decode cX11_sender 67 = .ok (.ifCond .ne 6, 3) := by decide +kernel
theorem dX11_sender_70 : decode cX11_sender 70 = .ok (.bipush (-2), 2) := by decide +kernel
theorem dX11_sender_72 : decode cX11_sender 72 = .ok (.ireturn, 1) := by decide +kernel
theorem dX11_sender_73 : decode cX11_sender 73 = .ok (.aload_n 0, 1) := by decide +kernel
theorem dX11_sender_74 : decode cX11_sender 74 = .ok (.getfield 37, 3) := by decide +kernel
theorem dX11_sender_77 : decode cX11_sender 77 = .ok (.getfield 97, 3) := by decide +kernel
theorem dX11_sender_80 : decode cX11_sender 80 = .ok (.bipush 20, 2) := by decide +kernel
theorem dX11_sender_82 : decode cX11_sender 82 = .ok (.if_icmp .lt 6, 3) := by decide +kernel
theorem dX11_sender_85 : decode cX11_sender 85 = .ok (.bipush (-4), 2) := by decide +kernel
theorem dX11_sender_87 : decode cX11_sender 87 = .ok (.ireturn, 1) := by decide +kernel
theorem dX11_sender_88 : decode cX11_sender 88 = .ok (.aload_n 0, 1) := by decide +kernel
theorem dX11_sender_89 : decode cX11_sender 89 = .ok (.getfield 37, 3) := by decide +kernel
theorem dX11_sender_92 : decode cX11_sender 92 = .ok (.getfield 143, 3) := by decide +kernel
theorem dX11_sender_95 : decode cX11_sender 95 = .ok (.aload_n 0, 1) := by decide +kernel
theorem dX11_sender_96 : decode cX11_sender 96 = .ok (.getfield 37, 3) := by decide +kernel
theorem dX11_sender_99 : decode cX11_sender 99 = .ok (.getfield 97, 3) := by decide +kernel
theorem dX11_sender_102 : decode cX11_sender 102 = .ok (.aaload, 1) := by decide +kernel
theorem dX11_sender_103 : decode cX11_sender 103 = .ok (.astore 7, 2) := by decide +kernel
theorem dX11_sender_105 : decode cX11_sender 105 = .ok (.aload 7, 2) := by decide +kernel
theorem dX11_sender_107 : decode cX11_sender 107 = .ok (.iload_n 1, 1) := by decide +kernel
theorem dX11_sender_108 : decode cX11_sender 108 = .ok (.putfield 147, 3) := by decide +kernel
theorem dX11_sender_111 : decode cX11_sender 111 = .ok (.aload 7, 2) := by decide +kernel
theorem dX11_sender_113 : decode cX11_sender 113 = .ok (.iload_n 2, 1) := by decide +kernel
theorem dX11_sender_114 : decode cX11_sender 114 = .ok (.putfield 152, 3) := by decide +kernel
theorem dX11_sender_117 : decode cX11_sender 117 = .ok (.aload 7, 2) := by decide +kernel
theorem dX11_sender_119 : decode cX11_sender 119 = .ok (.iload_n 3, 1) := by decide +kernel
theorem dX11_sender_120 : decode cX11_sender 120 = .ok (.putfield 155, 3) := by decide +kernel
theorem dX11_sender_123 : decode cX11_sender 123 = .ok (.aload 7, 2) := by decide +kernel
theorem dX11_sender_125 : decode cX11_sender 125 = .ok (.iload 4, 2) := by decide +kernel
theorem dX11_sender_127 : decode cX11_sender 127 = .ok (.putfield 158, 3) := by decide +kernel
theorem dX11_sender_130 : decode cX11_sender 130 = .ok (.aload 7, 2) := by decide +kernel
theorem dX11_sender_132 : decode cX11_sender 132 = .ok (.iload 5, 2) := by decide +kernel
theorem dX11_sender_134 : decode cX11_sender 134 = .ok (.putfield 161, 3) := by decide +kernel
theorem dX11_sender_137 : decode cX11_sender 137 = .ok (.aload 7, 2) := by decide +kernel
theorem dX11_sender_139 : decode cX11_sender 139 = .ok (.iload 6, 2) := by decide +kernel
theorem dX11_sender_141 : decode cX11_sender 141 = .ok (.putfield 164, 3) := by decide +kernel
theorem dX11_sender_144 : decode cX11_sender 144 = .ok (.aload_n 0, 1) := by decide +kernel
theorem dX11_sender_145 : decode cX11_sender 145 = .ok (.getfield 37, 3) := by decide +kernel
theorem dX11_sender_148 : decode cX11_sender 148 = .ok (.dup, 1) := by decide +kernel
theorem dX11_sender_149 : decode cX11_sender 149 = .ok (.getfield 97, 3) := by decide +kernel
theorem dX11_sender_152 : decode cX11_sender 152 = .ok (.iconst 1, 1) := by decide +kernel
theorem dX11_sender_153 : decode cX11_sender 153 = .ok (.iadd, 1) := by decide +kernel
theorem dX11_sender_154 : decode cX11_sender 154 = .ok (.putfield 97, 3) := by decide +kernel
theorem dX11_sender_157 : decode cX11_sender 157 = .ok (.aload_n 0, 1) := by decide +kernel
theorem dX11_sender_158 : decode cX11_sender 158 = .ok (.getfield 37, 3) := by decide +kernel
theorem dX11_sender_161 : decode cX11_sender 161 = .ok (.getfield 97, 3) := by decide +kernel
theorem dX11_sender_164 : decode cX11_sender 164 = .ok (.iconst 1, 1) := by decide +kernel
theorem dX11_sender_165 : decode cX11_sender 165 = .ok (.isub, 1) := by decide +kernel
theorem dX11_sender_166 : decode cX11_sender 166 = .ok (.ireturn, 1) := by decide +kernel
theorem dX11_about_0 : decode cX11_about 0 = .ok (.aload_n 0, 1) := by decide +kernel
theorem dX11_about_1 : decode cX11_about 1 = .ok (.getfield 37, 3) := by decide +kernel
theorem dX11_about_4 : decode cX11_about 4 = .ok (.iload_n 1, 1) := by decide +kernel
theorem dX11_about_5 : decode cX11_about 5 = .ok (.invokevirtual 167, 3) := by decide +kernel
theorem dX11_about_8 : decode cX11_about 8 = .ok (.ifCond .eq 15, 3) := by decide +kernel
theorem dX11_about_11 : decode cX11_about 11 = .ok (.aload_n 0, 1) := by decide +kernel
theorem dX11_about_12 : decode cX11_about 12 = .ok (.getfield 37, 3) := by decide +kernel
theorem dX11_about_15 : decode cX11_about 15 = .ok (.iload_n 1, 1) := by decide +kernel
theorem dX11_about_16 : decode cX11_about 16 = .ok (.iload_n 2, 1) := by decide +kernel
theorem dX11_about_17 : decode cX11_about 17 = .ok (.invokevirtual 171, 3) := by decide +kernel
theorem dX11_about_20 : decode cX11_about 20 = .ok (.goto 5, 3) := by decide +kernel
theorem dX11_about_23 : decode cX11_about 23 = .ok (.ldc 175, 2) := by decide +kernel
theorem dX11_about_25 : decode cX11_about 25 = .ok (.ireturn, 1) := by decide +kernel
theorem dX11_change_0 : decode cX11_change 0 = .ok (.aload_n 0, 1) := by decide +kernel
theorem dX11_change_1 : decode cX11_change 1 = .ok (.getfield 37, 3) := by decide +kernel
theorem dX11_change_4 : decode cX11_change 4 = .ok (.iload_n 1, 1) := by decide +kernel
theorem dX11_change_5 : decode cX11_change 5 = .ok (.invokevirtual 167, 3) := by decide +kernel
theorem dX11_change_8 : decode cX11_change 8 = .ok (.ifCond .eq 20, 3) := by decide +kernel
theorem dX11_change_11 : decode cX11_change 11 = .ok (.aload_n 0, 1) := by decide +kernel
theorem dX11_change_12 : decode cX11_change 12 = .ok (.getfield 37, 3) := by decide +kernel
theorem dX11_change_15 : decode cX11_change 15 = .ok (.getfield 143, 3) := by decide +kernel
theorem dX11_change_18 : decode cX11_change 18 = .ok (.iload_n 1, 1) := by decide +kernel
theorem dX11_change_19 : decode cX11_change 19 = .ok (.aaload, 1) := by decide +kernel
theorem dX11_change_20 : decode cX11_change 20 = .ok (.iload_n 2, 1) := by decide +kernel
theorem dX11_change_21 : decode cX11_change 21 = .ok (.iload_n 3, 1) := by decide +kernel
theorem dX11_change_22 : decode cX11_change 22 = .ok (.invokevirtual 176, 3) := by decide +kernel
theorem dX11_change_25 : decode cX11_change 25 = .ok (.goto 5, 3) := by decide +kernel
theorem dX11_change_28 : decode cX11_change 28 = .ok (.bipush (-2), 2) := by decide +kernel
theorem dX11_change_30 : decode cX11_change 30 = .ok (.ireturn, 1) := by decide +kernel
theorem dX11_on_0 : decode cX11_on 0 = .ok (.aload_n 0, 1) := by decide +kernel
theorem dX11_on_1 : decode cX11_on 1 = .ok (.getfield 37, 3) := by decide +kernel
theorem dX11_on_4 : decode cX11_on 4 = .ok (.iload_n 1, 1) := by decide +kernel
theorem dX11_on_5 : decode cX11_on 5 = .ok (.invokevirtual 167, 3) := by decide +kernel
theorem dX11_on_8 : decode cX11_on 8 = .ok (.ifCond .ne 6, 3) := by decide +kernel
theorem dX11_on_11 : decode cX11_on 11 = .ok (.bipush (-2), 2) := by decide +kernel
theorem dX11_on_13 : decode cX11_on 13 = .ok (.ireturn, 1) := by decide +kernel
theorem dX11_on_14 : decode cX11_on 14 = .ok (.aload_n 0, 1) := by decide +kernel
theorem dX11_on_15 : decode cX11_on 15 = .ok (.getfield 37, 3) := by decide +kernel
theorem dX11_on_18 : decode cX11_on 18 = .ok (.getfield 143, 3) := by decide +kernel
theorem dX11_on_21 : decode cX11_on 21 = .ok (.iload_n 1, 1) := by decide +kernel
theorem dX11_on_22 : decode cX11_on 22 = .ok (.aaload, 1) := by decide +kernel
theorem dX11_on_23 : decode cX11_on 23 = .ok (.getfield 179, 3) := by decide +kernel
theorem dX11_on_26 : decode cX11_on 26 = .ok (.istore_n 3, 1) := by decide +kernel
theorem dX11_on_27 : decode cX11_on 27 = .ok (.aload_n 0, 1) := by decide +kernel
theorem dX11_on_28 : decode cX11_on 28 = .ok (.getfield 37, 3) := by decide +kernel
theorem dX11_on_31 : decode cX11_on 31 = .ok (.getfield 143, 3) := by decide +kernel
theorem dX11_on_34 : decode cX11_on 34 = .ok (.iload_n 1, 1) := by decide +kernel
theorem dX11_on_35 : decode cX11_on 35 = .ok (.aaload, 1) := by decide +kernel
theorem dX11_on_36 : decode cX11_on 36 = .ok (.iload_n 2, 1) := by decide +kernel
theorem dX11_on_37 : decode cX11_on 37 = .ok (.putfield 179, 3) := by decide +kernel
theorem dX11_on_40 : decode cX11_on 40 = .ok (.iload_n 3, 1) := by decide +kernel
theorem dX11_on_41 : decode cX11_on 41 = .ok (.iload_n 2, 1) := by decide +kernel
theorem dX11_on_42 : decode cX11_on 42 = .ok (.if_icmp .ne 7, 3) := by decide +kernel
theorem dX11_on_45 : decode cX11_on 45 = .ok (.iconst 0, 1) := by decide +kernel
theorem dX11_on_46 : decode cX11_on 46 = .ok (.goto 4, 3) := by decide +kernel
theorem dX11_on_49 : decode cX11_on 49 = .ok (.iconst 1, 1) := by decide +kernel
theorem dX11_on_50 : decode cX11_on 50 = .ok (.ireturn, 1) := by decide +kernel
theorem dX11_got_0 : decode cX11_got 0 = .ok (.aload_n 0, 1) := by decide +kernel
theorem dX11_got_1 : decode cX11_got 1 = .ok (.getfield 37, 3) := by decide +kernel
theorem dX11_got_4 : decode cX11_got 4 = .ok (.iload_n 1, 1) := by decide +kernel
theorem dX11_got_5 : decode cX11_got 5 = .ok (.invokevirtual 167, 3) := by decide +kernel
theorem dX11_got_8 : decode cX11_got 8 = .ok (.ifCond .eq 15, 3) := by decide +kernel
theorem dX11_got_11 : decode cX11_got 11 = .ok (.aload_n 0, 1) := by decide +kernel
theorem dX11_got_12 : decode cX11_got 12 = .ok (.getfield 28, 3) := by decide +kernel
theorem dX11_got_15 : decode cX11_got 15 = .ok (.iload_n 2, 1) := by decide +kernel
theorem dX11_got_16 : decode cX11_got 16 = .ok (.i2l, 1) := by decide +kernel
theorem dX11_got_17 : decode cX11_got 17 = .ok (.invokevirtual 114, 3) := by decide +kernel
theorem dX11_got_20 : decode cX11_got 20 = .ok (.ifCond .ne 6, 3) := by decide +kernel
theorem dX11_got_23 : decode cX11_got 23 = .ok (.bipush (-2), 2) := by decide +kernel
theorem dX11_got_25 : decode cX11_got 25 = .ok (.ireturn, 1) := by decide +kernel
theorem dX11_got_26 : decode cX11_got 26 = .ok (.aload_n 0, 1) := by decide +kernel
theorem dX11_got_27 : decode cX11_got 27 = .ok (.getfield 37, 3) := by decide +kernel
theorem dX11_got_30 : decode cX11_got 30 = .ok (.iload_n 1, 1) := by decide +kernel
theorem dX11_got_31 : decode cX11_got 31 = .ok (.iload_n 2, 1) := by decide +kernel
theorem dX11_got_32 : decode cX11_got 32 = .ok (.aload_n 0, 1) := by decide +kernel
theorem dX11_got_33 : decode cX11_got 33 = .ok (.getfield 37, 3) := by decide +kernel
theorem dX11_got_36 : decode cX11_got 36 = .ok (.getfield 143, 3) := by decide +kernel
theorem dX11_got_39 : decode cX11_got 39 = .ok (.iload_n 1, 1) := by decide +kernel
theorem dX11_got_40 : decode cX11_got 40 = .ok (.aaload, 1) := by decide +kernel
theorem dX11_got_41 : decode cX11_got 41 = .ok (.invokevirtual 183, 3) := by decide +kernel
theorem dX11_got_44 : decode cX11_got 44 = .ok (.invokevirtual 187, 3) := by decide +kernel
theorem dX11_got_47 : decode cX11_got 47 = .ok (.ireturn, 1) := by decide +kernel
theorem dX11_heard_0 : decode cX11_heard 0 = .ok (.aload_n 0, 1) := by decide +kernel
theorem dX11_heard_1 : decode cX11_heard 1 = .ok (.iload_n 1, 1) := by decide +kernel
theorem dX11_heard_2 : decode cX11_heard 2 = .ok (.invokevirtual 191, 3) := by decide +kernel
theorem dX11_heard_5 : decode cX11_heard 5 = .ok (.istore_n 2, 1) := by decide +kernel
theorem dX11_heard_6 : decode cX11_heard 6 = .ok (.iload_n 2, 1) := by decide +kernel
theorem dX11_heard_7 : decode cX11_heard 7 = .ok (.ifCond .eq 5, 3) := by decide +kernel
theorem dX11_heard_10 : decode cX11_heard 10 = .ok (.iload_n 2, 1) := by decide +kernel
theorem dX11_heard_11 : decode cX11_heard 11 = .ok (.ireturn, 1) := by decide +kernel
theorem dX11_heard_12 : decode cX11_heard 12 = .ok (.aload_n 0, 1) := by decide +kernel
theorem dX11_heard_13 : decode cX11_heard 13 = .ok (.getfield 37, 3) := by decide +kernel
theorem dX11_heard_16 : decode cX11_heard 16 = .ok (.iload_n 1, 1) := by decide +kernel
theorem dX11_heard_17 : decode cX11_heard 17 = .ok (.invokevirtual 194, 3) := by decide +kernel
theorem dX11_heard_20 : decode cX11_heard 20 = .ok (.ifCond .eq 7, 3) := by decide +kernel
theorem dX11_heard_23 : decode cX11_heard 23 = .ok (.iconst 1, 1) := by decide +kernel
theorem dX11_heard_24 : decode cX11_heard 24 = .ok (.goto 4, 3) := by decide +kernel
theorem dX11_heard_27 : decode cX11_heard 27 = .ok (.iconst 0, 1) := by decide +kernel
theorem dX11_heard_28 : decode cX11_heard 28 = .ok (.ireturn, 1) := by decide +kernel
theorem dX11_drowns_0 : decode cX11_drowns 0 = .ok (.aload_n 0, 1) := by decide +kernel
theorem dX11_drowns_1 : decode cX11_drowns 1 = .ok (.iload_n 1, 1) := by decide +kernel
theorem dX11_drowns_2 : decode cX11_drowns 2 = .ok (.invokevirtual 191, 3) := by decide +kernel
theorem dX11_drowns_5 : decode cX11_drowns 5 = .ok (.istore_n 2, 1) := by decide +kernel
theorem dX11_drowns_6 : decode cX11_drowns 6 = .ok (.iload_n 2, 1) := by decide +kernel
theorem dX11_drowns_7 : decode cX11_drowns 7 = .ok (.ifCond .eq 10, 3) := by decide +kernel
theorem dX11_drowns_10 : decode cX11_drowns 10 = .ok (.ldc2_w 197, 3) := by decide +kernel
theorem dX11_drowns_13 : decode cX11_drowns 13 = .ok (.iload_n 2, 1) := by decide +kernel
theorem dX11_drowns_14 : decode cX11_drowns 14 = .ok (.i2l, 1) := by decide +kernel
theorem dX11_drowns_15 : decode cX11_drowns 15 = .ok (.lsub, 1) := by decide +kernel
theorem dX11_drowns_16 : decode cX11_drowns 16 = .ok (.lreturn, 1) := by decide +kernel
theorem dX11_drowns_17 : decode cX11_drowns 17 = .ok (.aload_n 0, 1) := by decide +kernel
theorem dX11_drowns_18 : decode cX11_drowns 18 = .ok (.getfield 37, 3) := by decide +kernel
theorem dX11_drowns_21 : decode cX11_drowns 21 = .ok (.iload_n 1, 1) := by decide +kernel
theorem dX11_drowns_22 : decode cX11_drowns 22 = .ok (.invokevirtual 199, 3) := by decide +kernel
theorem dX11_drowns_25 : decode cX11_drowns 25 = .ok (.pop, 1) := by decide +kernel
theorem dX11_drowns_26 : decode cX11_drowns 26 = .ok (.aload_n 0, 1) := by decide +kernel
theorem dX11_drowns_27 : decode cX11_drowns 27 = .ok (.getfield 37, 3) := by decide +kernel
theorem dX11_drowns_30 : decode cX11_drowns 30 = .ok (.iconst 0, 1) := by decide +kernel
theorem dX11_drowns_31 : decode cX11_drowns 31 = .ok (.invokevirtual 202, 3) := by decide +kernel
theorem dX11_drowns_34 : decode cX11_drowns 34 = .ok (.lreturn, 1) := by decide +kernel
theorem dX11_cause_0 : decode cX11_cause 0 = .ok (.aload_n 0, 1) := by decide +kernel
theorem dX11_cause_1 : decode cX11_cause 1 = .ok (.iload_n 1, 1) := by decide +kernel
theorem dX11_cause_2 : decode cX11_cause 2 = .ok (.invokevirtual 191, 3) := by decide +kernel
theorem dX11_cause_5 : decode cX11_cause 5 = .ok (.istore_n 2, 1) := by decide +kernel
theorem dX11_cause_6 : decode cX11_cause 6 = .ok (.iload_n 2, 1) := by decide +kernel
theorem dX11_cause_7 : decode cX11_cause 7 = .ok (.ifCond .eq 5, 3) := by decide +kernel
theorem dX11_cause_10 : decode cX11_cause 10 = .ok (.iload_n 2, 1) := by decide +kernel
theorem dX11_cause_11 : decode cX11_cause 11 = .ok (.ireturn, 1) := by decide +kernel
theorem dX11_cause_12 : decode cX11_cause 12 = .ok (.aload_n 0, 1) := by decide +kernel
theorem dX11_cause_13 : decode cX11_cause 13 = .ok (.getfield 37, 3) := by decide +kernel
theorem dX11_cause_16 : decode cX11_cause 16 = .ok (.iload_n 1, 1) := by decide +kernel
theorem dX11_cause_17 : decode cX11_cause 17 = .ok (.invokevirtual 199, 3) := by decide +kernel
theorem dX11_cause_20 : decode cX11_cause 20 = .ok (.bipush 10, 2) := by decide +kernel
theorem dX11_cause_22 : decode cX11_cause 22 = .ok (.if_icmp .le 8, 3) := by decide +kernel
theorem dX11_cause_25 : decode cX11_cause 25 = .ok (.bipush (-4), 2) := by decide +kernel
theorem dX11_cause_27 : decode cX11_cause 27 = .ok (.goto 11, 3) := by decide +kernel
theorem dX11_cause_30 : decode cX11_cause 30 = .ok (.aload_n 0, 1) := by decide +kernel
theorem dX11_cause_31 : decode cX11_cause 31 = .ok (.getfield 37, 3) := by decide +kernel
theorem dX11_cause_34 : decode cX11_cause 34 = .ok (.iload_n 1, 1) := by decide +kernel
theorem dX11_cause_35 : decode cX11_cause 35 = .ok (.invokevirtual 206, 3) := by decide +kernel
theorem dX11_cause_38 : decode cX11_cause 38 = .ok (.ireturn, 1) := by decide +kernel
theorem dX11_share_0 : decode cX11_share 0 = .ok (.aload_n 0, 1) := by decide +kernel
theorem dX11_share_1 : decode cX11_share 1 = .ok (.getfield 46, 3) := by decide +kernel
theorem dX11_share_4 : decode cX11_share 4 = .ok (.iload_n 1, 1) := by decide +kernel
theorem dX11_share_5 : decode cX11_share 5 = .ok (.invokevirtual 209, 3) := by decide +kernel
theorem dX11_share_8 : decode cX11_share 8 = .ok (.ifCond .ne 6, 3) := by decide +kernel
theorem dX11_share_11 : decode cX11_share 11 = .ok (.bipush (-2), 2) := by decide +kernel
theorem dX11_share_13 : decode cX11_share 13 = .ok (.ireturn, 1) := by decide +kernel
theorem dX11_share_14 : decode cX11_share 14 = .ok (.aload_n 0, 1) := by decide +kernel
theorem dX11_share_15 : decode cX11_share 15 = .ok (.getfield 46, 3) := by decide +kernel
theorem dX11_share_18 : decode cX11_share 18 = .ok (.iload_n 1, 1) := by decide +kernel
theorem dX11_share_19 : decode cX11_share 19 = .ok (.invokevirtual 212, 3) := by decide +kernel
theorem dX11_share_22 : decode cX11_share 22 = .ok (.aload_n 0, 1) := by decide +kernel
theorem dX11_share_23 : decode cX11_share 23 = .ok (.getfield 46, 3) := by decide +kernel
theorem dX11_share_26 : decode cX11_share 26 = .ok (.getfield 216, 3) := by decide +kernel
theorem dX11_share_29 : decode cX11_share 29 = .ok (.aload_n 0, 1) := by decide +kernel
theorem dX11_share_30 : decode cX11_share 30 = .ok (.getfield 46, 3) := by decide +kernel
theorem dX11_share_33 : decode cX11_share 33 = .ok (.invokevirtual 220, 3) := by decide +kernel
theorem dX11_share_36 : decode cX11_share 36 = .ok (.baload, 1) := by decide +kernel
theorem dX11_share_37 : decode cX11_share 37 = .ok (.ifCond .eq 7, 3) := by decide +kernel
theorem dX11_share_40 : decode cX11_share 40 = .ok (.iconst 1, 1) := by decide +kernel
theorem dX11_share_41 : decode cX11_share 41 = .ok (.goto 4, 3) := by decide +kernel
theorem dX11_share_44 : decode cX11_share 44 = .ok (.iconst 0, 1) := by decide +kernel
theorem dX11_share_45 : decode cX11_share 45 = .ok (.ireturn, 1) := by decide +kernel
theorem dX11_fewest_0 : decode cX11_fewest 0 = .ok (.aload_n 0, 1) := by decide +kernel
theorem dX11_fewest_1 : decode cX11_fewest 1 = .ok (.getfield 46, 3) := by decide +kernel
theorem dX11_fewest_4 : decode cX11_fewest 4 = .ok (.iload_n 1, 1) := by decide +kernel
theorem dX11_fewest_5 : decode cX11_fewest 5 = .ok (.invokevirtual 209, 3) := by decide +kernel
theorem dX11_fewest_8 : decode cX11_fewest 8 = .ok (.ifCond .ne 6, 3) := by decide +kernel
theorem dX11_fewest_11 : decode cX11_fewest 11 = .ok (.bipush (-2), 2) := by decide +kernel
theorem dX11_fewest_13 : decode cX11_fewest 13 = .ok (.ireturn, 1) := by decide +kernel
theorem dX11_fewest_14 : decode cX11_fewest 14 = .ok (.aload_n 0, 1) := by decide +kernel
theorem dX11_fewest_15 : decode cX11_fewest 15 = .ok (.getfield 46, 3) := by decide +kernel
theorem dX11_fewest_18 : decode cX11_fewest 18 = .ok (.iload_n 1, 1) := by decide +kernel
theorem dX11_fewest_19 : decode cX11_fewest 19 = .ok (.invokevirtual 212, 3) := by decide +kernel
theorem dX11_fewest_22 : decode cX11_fewest 22 = .ok (.aload_n 0, 1) := by decide +kernel
theorem dX11_fewest_23 : decode cX11_fewest 23 = .ok (.getfield 46, 3) := by decide +kernel
theorem dX11_fewest_26 : decode cX11_fewest 26 = .ok (.invokevirtual 223, 3) := by decide +kernel
theorem dX11_fewest_29 : decode cX11_fewest 29 = .ok (.ireturn, 1) := by decide +kernel
theorem dX11_part_0 : decode cX11_part 0 = .ok (.aload_n 0, 1) := by decide +kernel
theorem dX11_part_1 : decode cX11_part 1 = .ok (.getfield 46, 3) := by decide +kernel
theorem dX11_part_4 : decode cX11_part 4 = .ok (.iload_n 1, 1) := by decide +kernel
theorem dX11_part_5 : decode cX11_part 5 = .ok (.invokevirtual 209, 3) := by decide +kernel
theorem dX11_part_8 : decode cX11_part 8 = .ok (.ifCond .eq 22, 3) := by decide +kernel
theorem dX11_part_11 : decode cX11_part 11 = .ok (.aload_n 0, 1) := by decide +kernel
theorem dX11_part_12 : decode cX11_part 12 = .ok (.getfield 37, 3) := by decide +kernel
theorem dX11_part_15 : decode cX11_part 15 = .ok (.iload_n 2, 1) := by decide +kernel
theorem dX11_part_16 : decode cX11_part 16 = .ok (.invokevirtual 167, 3) := by decide +kernel
theorem dX11_part_19 : decode cX11_part 19 = .ok (.ifCond .eq 11, 3) := by decide +kernel
theorem dX11_part_22 : decode cX11_part 22 = .ok (.iload_n 1, 1) := by decide +kernel
theorem dX11_part_23 : decode cX11_part 23 = .ok (.iload_n 2, 1) := by decide +kernel
theorem dX11_part_24 : decode cX11_part 24 = .ok (.ishr, 1) := by decide +kernel
theorem dX11_part_25 : decode cX11_part 25 = .ok (.iconst 1, 1) := by decide +kernel
theorem dX11_part_26 : decode cX11_part 26 = .ok (.iand, 1) := by decide +kernel
theorem dX11_part_27 : decode cX11_part 27 = .ok (.ifCond .ne 6, 3) := by decide +kernel
theorem dX11_part_30 : decode cX11_part 30 = .ok (.bipush (-2), 2) := by decide +kernel
theorem dX11_part_32 : decode cX11_part 32 = .ok (.ireturn, 1) := by decide +kernel
theorem dX11_part_33 : decode cX11_part 33 = .ok (.aload_n 0, 1) := by decide +kernel
theorem dX11_part_34 : decode cX11_part 34 = .ok (.getfield 46, 3) := by decide +kernel
theorem dX11_part_37 : decode cX11_part 37 = .ok (.iload_n 1, 1) := by decide +kernel
theorem dX11_part_38 : decode cX11_part 38 = .ok (.invokevirtual 212, 3) := by decide +kernel
theorem dX11_part_41 : decode cX11_part 41 = .ok (.aload_n 0, 1) := by decide +kernel
theorem dX11_part_42 : decode cX11_part 42 = .ok (.getfield 46, 3) := by decide +kernel
theorem dX11_part_45 : decode cX11_part 45 = .ok (.invokevirtual 226, 3) := by decide +kernel
theorem dX11_part_48 : decode cX11_part 48 = .ok (.ifCond .ne 6, 3) := by decide +kernel
theorem dX11_part_51 : decode cX11_part 51 = .ok (.bipush (-3), 2) := by decide +kernel
theorem dX11_part_53 : decode cX11_part 53 = .ok (.ireturn, 1) := by decide +kernel
theorem dX11_part_54 : decode cX11_part 54 = .ok (.aload_n 0, 1) := by decide +kernel
theorem dX11_part_55 : decode cX11_part 55 = .ok (.getfield 46, 3) := by decide +kernel
theorem dX11_part_58 : decode cX11_part 58 = .ok (.getfield 230, 3) := by decide +kernel
theorem dX11_part_61 : decode cX11_part 61 = .ok (.iload_n 1, 1) := by decide +kernel
theorem dX11_part_62 : decode cX11_part 62 = .ok (.iconst 1, 1) := by decide +kernel
theorem dX11_part_63 : decode cX11_part 63 = .ok (.iload_n 2, 1) := by decide +kernel
theorem dX11_part_64 : decode cX11_part 64 = .ok (.ishl, 1) := by decide +kernel
theorem dX11_part_65 : decode cX11_part 65 = .ok (.iconst 1, 1) := by decide +kernel
theorem dX11_part_66 : decode cX11_part 66 = .ok (.isub, 1) := by decide +kernel
theorem dX11_part_67 : decode cX11_part 67 = .ok (.iand, 1) := by decide +kernel
theorem dX11_part_68 : decode cX11_part 68 = .ok (.invokestatic 233, 3) := by decide +kernel
theorem dX11_part_71 : decode cX11_part 71 = .ok (.iaload, 1) := by decide +kernel
theorem dX11_part_72 : decode cX11_part 72 = .ok (.ireturn, 1) := by decide +kernel
theorem dX11_best_0 : decode cX11_best 0 = .ok (.aload_n 0, 1) := by decide +kernel
theorem dX11_best_1 : decode cX11_best 1 = .ok (.getfield 46, 3) := by decide +kernel
theorem dX11_best_4 : decode cX11_best 4 = .ok (.iload_n 1, 1) := by decide +kernel
theorem dX11_best_5 : decode cX11_best 5 = .ok (.invokevirtual 209, 3) := by decide +kernel
theorem dX11_best_8 : decode cX11_best 8 = .ok (.ifCond .eq 13, 3) := by decide +kernel
theorem dX11_best_11 : decode cX11_best 11 = .ok (.iload_n 2, 1) := by decide +kernel
theorem dX11_best_12 : decode cX11_best 12 = .ok (.iconst 1, 1) := by decide +kernel
theorem dX11_best_13 : decode cX11_best 13 = .ok (.bipush 8, 2) := by decide +kernel
theorem dX11_best_15 : decode cX11_best 15 = .ok (.invokestatic 93, 3) := by decide +kernel
theorem dX11_best_18 : decode cX11_best 18 = .ok (.ifCond .ne 6, 3) := by decide +kernel
theorem dX11_best_21 : decode cX11_best 21 = .ok (.bipush (-2), 2) := by decide +kernel
theorem dX11_best_23 : decode cX11_best 23 = .ok (.ireturn, 1) := by decide +kernel
theorem dX11_best_24 : decode cX11_best 24 = .ok (.aload_n 0, 1) := by decide +kernel
theorem dX11_best_25 : decode cX11_best 25 = .ok (.getfield 46, 3) := by decide +kernel
theorem dX11_best_28 : decode cX11_best 28 = .ok (.iload_n 1, 1) := by decide +kernel
theorem dX11_best_29 : decode cX11_best 29 = .ok (.invokevirtual 212, 3) := by decide +kernel
theorem dX11_best_32 : decode cX11_best 32 = .ok (.aload_n 0, 1) := by decide +kernel
theorem dX11_best_33 : decode cX11_best 33 = .ok (.getfield 46, 3) := by decide +kernel
theorem dX11_best_36 : decode cX11_best 36 = .ok (.iload_n 2, 1) := by decide +kernel
theorem dX11_best_37 : decode cX11_best 37 = .ok (.invokevirtual 238, 3) := by decide +kernel
theorem dX11_best_40 : decode cX11_best 40 = .ok (.ireturn, 1) := by decide +kernel
theorem dX11_proof_0 : decode cX11_proof 0 = .ok (.aload_n 0, 1) := by decide +kernel
theorem dX11_proof_1 : decode cX11_proof 1 = .ok (.getfield 46, 3) := by decide +kernel
theorem dX11_proof_4 : decode cX11_proof 4 = .ok (.iload_n 1, 1) := by decide +kernel
theorem dX11_proof_5 : decode cX11_proof 5 = .ok (.invokevirtual 209, 3) := by decide +kernel
theorem dX11_proof_8 : decode cX11_proof 8 = .ok (.ifCond .eq 13, 3) := by decide +kernel
theorem dX11_proof_11 : decode cX11_proof 11 = .ok (.iload_n 2, 1) := by decide +kernel
theorem dX11_proof_12 : decode cX11_proof 12 = .ok (.iconst 1, 1) := by decide +kernel
theorem dX11_proof_13 : decode cX11_proof 13 = .ok (.bipush 8, 2) := by decide +kernel
theorem dX11_proof_15 : decode cX11_proof 15 = .ok (.invokestatic 93, 3) := by decide +kernel
theorem dX11_proof_18 : decode cX11_proof 18 = .ok (.ifCond .ne 6, 3) := by decide +kernel
theorem dX11_proof_21 : decode cX11_proof 21 = .ok (.bipush (-2), 2) := by decide +kernel
theorem dX11_proof_23 : decode cX11_proof 23 = .ok (.ireturn, 1) := by decide +kernel
theorem dX11_proof_24 : decode cX11_proof 24 = .ok (.aload_n 0, 1) := by decide +kernel
theorem dX11_proof_25 : decode cX11_proof 25 = .ok (.getfield 46, 3) := by decide +kernel
theorem dX11_proof_28 : decode cX11_proof 28 = .ok (.iload_n 1, 1) := by decide +kernel
theorem dX11_proof_29 : decode cX11_proof 29 = .ok (.invokevirtual 212, 3) := by decide +kernel
theorem dX11_proof_32 : decode cX11_proof 32 = .ok (.aload_n 0, 1) := by decide +kernel
theorem dX11_proof_33 : decode cX11_proof 33 = .ok (.getfield 46, 3) := by decide +kernel
theorem dX11_proof_36 : decode cX11_proof 36 = .ok (.iload_n 2, 1) := by decide +kernel
theorem dX11_proof_37 : decode cX11_proof 37 = .ok (.invokevirtual 241, 3) := by decide +kernel
theorem dX11_proof_40 : decode cX11_proof 40 = .ok (.ireturn, 1) := by decide +kernel
theorem dX11_assign_0 : decode cX11_assign 0 = .ok (.aload_n 0, 1) := by decide +kernel
theorem dX11_assign_1 : decode cX11_assign 1 = .ok (.getfield 46, 3) := by decide +kernel
theorem dX11_assign_4 : decode cX11_assign 4 = .ok (.iload_n 1, 1) := by decide +kernel
theorem dX11_assign_5 : decode cX11_assign 5 = .ok (.invokevirtual 209, 3) := by decide +kernel
theorem dX11_assign_8 : decode cX11_assign 8 = .ok (.ifCond .ne 6, 3) := by decide +kernel
theorem dX11_assign_11 : decode cX11_assign 11 = .ok (.bipush (-2), 2) := by decide +kernel
theorem dX11_assign_13 : decode cX11_assign 13 = .ok (.ireturn, 1) := by decide +kernel
theorem dX11_assign_14 : decode cX11_assign 14 = .ok (.aload_n 0, 1) := by decide +kernel
theorem dX11_assign_15 : decode cX11_assign 15 = .ok (.getfield 46, 3) := by decide +kernel
theorem dX11_assign_18 : decode cX11_assign 18 = .ok (.iload_n 1, 1) := by decide +kernel
theorem dX11_assign_19 : decode cX11_assign 19 = .ok (.invokevirtual 212, 3) := by decide +kernel
theorem dX11_assign_22 : decode cX11_assign 22 = .ok (.aload_n 0, 1) := by decide +kernel
theorem dX11_assign_23 : decode cX11_assign 23 = .ok (.getfield 46, 3) := by decide +kernel
theorem dX11_assign_26 : decode cX11_assign 26 = .ok (.invokevirtual 226, 3) := by decide +kernel
theorem dX11_assign_29 : decode cX11_assign 29 = .ok (.ifCond .ne 6, 3) := by decide +kernel
theorem dX11_assign_32 : decode cX11_assign 32 = .ok (.bipush (-3), 2) := by decide +kernel
theorem dX11_assign_34 : decode cX11_assign 34 = .ok (.ireturn, 1) := by decide +kernel
theorem dX11_assign_35 : decode cX11_assign 35 = .ok (.iconst 0, 1) := by decide +kernel
theorem dX11_assign_36 : decode cX11_assign 36 = .ok (.istore_n 2, 1) := by decide +kernel
theorem dX11_assign_37 : decode cX11_assign 37 = .ok (.iload_n 2, 1) := by decide +kernel
theorem dX11_assign_38 : decode cX11_assign 38 = .ok (.aload_n 0, 1) := by decide +kernel
theorem dX11_assign_39 : decode cX11_assign 39 = .ok (.getfield 46, 3) := by decide +kernel
theorem dX11_assign_42 : decode cX11_assign 42 = .ok (.getfield 244, 3) := by decide +kernel
theorem dX11_assign_45 : decode cX11_assign 45 = .ok (.if_icmp .ge 38, 3) := by decide +kernel
theorem dX11_assign_48 : decode cX11_assign 48 = .ok (.aload_n 0, 1) := by decide +kernel
theorem dX11_assign_49 : decode cX11_assign 49 = .ok (.getfield 37, 3) := by decide +kernel
theorem dX11_assign_52 : decode cX11_assign 52 = .ok (.getfield 143, 3) := by decide +kernel
theorem dX11_assign_55 : decode cX11_assign 55 = .ok (.aload_n 0, 1) := by decide +kernel
theorem dX11_assign_56 : decode cX11_assign 56 = .ok (.getfield 46, 3) := by decide +kernel
theorem dX11_assign_59 : decode cX11_assign 59 = .ok (.getfield 245, 3) := by decide +kernel
theorem dX11_assign_62 : decode cX11_assign 62 = .ok (.iload_n 2, 1) := by decide +kernel
theorem dX11_assign_63 : decode cX11_assign 63 = .ok (.iaload, 1) := by decide +kernel
theorem dX11_assign_64 : decode cX11_assign 64 = .ok (.aaload, 1) := by decide +kernel
theorem dX11_assign_65 : decode cX11_assign 65 = .ok (.aload_n 0, 1) := by decide +kernel
theorem dX11_assign_66 : decode cX11_assign 66 = .ok (.getfield 46, 3) := by decide +kernel
theorem dX11_assign_69 : decode cX11_assign 69 = .ok (.getfield 230, 3) := by decide +kernel
theorem dX11_assign_72 : decode cX11_assign 72 = .ok (.iload_n 2, 1) := by decide +kernel
theorem dX11_assign_73 : decode cX11_assign 73 = .ok (.iaload, 1) := by decide +kernel
theorem dX11_assign_74 : decode cX11_assign 74 = .ok (.putfield 248, 3) := by decide +kernel
theorem dX11_assign_77 : decode cX11_assign 77 = .ok (.iinc 2 1, 3) := by decide +kernel
theorem dX11_assign_80 : decode cX11_assign 80 = .ok (.goto (-43), 3) := by decide +kernel
theorem dX11_assign_83 : decode cX11_assign 83 = .ok (.aload_n 0, 1) := by decide +kernel
theorem dX11_assign_84 : decode cX11_assign 84 = .ok (.getfield 46, 3) := by decide +kernel
theorem dX11_assign_87 : decode cX11_assign 87 = .ok (.invokevirtual 223, 3) := by decide +kernel
theorem dX11_assign_90 : decode cX11_assign 90 = .ok (.ireturn, 1) := by decide +kernel
theorem dX11_odds_0 : decode cX11_odds 0 = .ok (.iload_n 1, 1) := by decide +kernel
theorem dX11_odds_1 : decode cX11_odds 1 = .ok (.iconst 1, 1) := by decide +kernel
theorem dX11_odds_2 : decode cX11_odds 2 = .ok (.bipush 8, 2) := by decide +kernel
theorem dX11_odds_4 : decode cX11_odds 4 = .ok (.invokestatic 93, 3) := by decide +kernel
theorem dX11_odds_7 : decode cX11_odds 7 = .ok (.ifCond .eq 22, 3) := by decide +kernel
theorem dX11_odds_10 : decode cX11_odds 10 = .ok (.iload_n 2, 1) := by decide +kernel
theorem dX11_odds_11 : decode cX11_odds 11 = .ok (.iconst 0, 1) := by decide +kernel
theorem dX11_odds_12 : decode cX11_odds 12 = .ok (.iload_n 1, 1) := by decide +kernel
theorem dX11_odds_13 : decode cX11_odds 13 = .ok (.invokestatic 93, 3) := by decide +kernel
theorem dX11_odds_16 : decode cX11_odds 16 = .ok (.ifCond .eq 13, 3) := by decide +kernel
theorem dX11_odds_19 : decode cX11_odds 19 = .ok (.iload_n 3, 1) := by decide +kernel
theorem dX11_odds_20 : decode cX11_odds 20 = .ok (.iconst 0, 1) := by decide +kernel
theorem dX11_odds_21 : decode cX11_odds 21 = .ok (.bipush 100, 2) := by decide +kernel
theorem dX11_odds_23 : decode cX11_odds 23 = .ok (.invokestatic 93, 3) := by decide +kernel
theorem dX11_odds_26 : decode cX11_odds 26 = .ok (.ifCond .ne 6, 3) := by decide +kernel
theorem dX11_odds_29 : decode cX11_odds 29 = .ok (.bipush (-2), 2) := by decide +kernel
theorem dX11_odds_31 : decode cX11_odds 31 = .ok (.ireturn, 1) := by decide +kernel
theorem dX11_odds_32 : decode cX11_odds 32 = .ok (.iload_n 2, 1) := by decide +kernel
theorem dX11_odds_33 : decode cX11_odds 33 = .ok (.iload_n 1, 1) := by decide +kernel
theorem dX11_odds_34 : decode cX11_odds 34 = .ok (.iload_n 3, 1) := by decide +kernel
theorem dX11_odds_35 : decode cX11_odds 35 = .ok (.invokestatic 251, 3) := by decide +kernel
theorem dX11_odds_38 : decode cX11_odds 38 = .ok (.ireturn, 1) := by decide +kernel
theorem dX11_flow_0 : decode cX11_flow 0 = .ok (.iload_n 1, 1) := by decide +kernel
theorem dX11_flow_1 : decode cX11_flow 1 = .ok (.iconst 1, 1) := by decide +kernel
theorem dX11_flow_2 : decode cX11_flow 2 = .ok (.bipush 8, 2) := by decide +kernel
theorem dX11_flow_4 : decode cX11_flow 4 = .ok (.invokestatic 93, 3) := by decide +kernel
theorem dX11_flow_7 : decode cX11_flow 7 = .ok (.ifCond .eq 22, 3) := by decide +kernel
theorem dX11_flow_10 : decode cX11_flow 10 = .ok (.iload_n 2, 1) := by decide +kernel
theorem dX11_flow_11 : decode cX11_flow 11 = .ok (.iconst 0, 1) := by decide +kernel
theorem dX11_flow_12 : decode cX11_flow 12 = .ok (.iload_n 1, 1) := by decide +kernel
theorem dX11_flow_13 : decode cX11_flow 13 = .ok (.invokestatic 93, 3) := by decide +kernel
theorem dX11_flow_16 : decode cX11_flow 16 = .ok (.ifCond .eq 13, 3) := by decide +kernel
theorem dX11_flow_19 : decode cX11_flow 19 = .ok (.iload_n 3, 1) := by decide +kernel
theorem dX11_flow_20 : decode cX11_flow 20 = .ok (.iconst 0, 1) := by decide +kernel
theorem dX11_flow_21 : decode cX11_flow 21 = .ok (.bipush 100, 2) := by decide +kernel
theorem dX11_flow_23 : decode cX11_flow 23 = .ok (.invokestatic 93, 3) := by decide +kernel
theorem dX11_flow_26 : decode cX11_flow 26 = .ok (.ifCond .ne 6, 3) := by decide +kernel
theorem dX11_flow_29 : decode cX11_flow 29 = .ok (.bipush (-2), 2) := by decide +kernel
theorem dX11_flow_31 : decode cX11_flow 31 = .ok (.ireturn, 1) := by decide +kernel
theorem dX11_flow_32 : decode cX11_flow 32 = .ok (.iload 4, 2) := by decide +kernel
theorem dX11_flow_34 : decode cX11_flow 34 = .ok (.iconst 1, 1) := by decide +kernel
theorem dX11_flow_35 : decode cX11_flow 35 = .ok (.bipush 8, 2) := by decide +kernel
theorem dX11_flow_37 : decode cX11_flow 37 = .ok (.invokestatic 93, 3) := by decide +kernel
theorem dX11_flow_40 : decode cX11_flow 40 = .ok (.ifCond .eq 14, 3) := by decide +kernel
theorem dX11_flow_43 : decode cX11_flow 43 = .ok (.iload 5, 2) := by decide +kernel
theorem dX11_flow_45 : decode cX11_flow 45 = .ok (.iconst 0, 1) := by decide +kernel
theorem dX11_flow_46 : decode cX11_flow 46 = .ok (.iload 4, 2) := by decide +kernel
theorem dX11_flow_48 : decode cX11_flow 48 = .ok (.invokestatic 93, 3) := by decide +kernel
theorem dX11_flow_51 : decode cX11_flow 51 = .ok (.ifCond .ne 6, 3) := by decide +kernel
theorem dX11_flow_54 : decode cX11_flow 54 = .ok (.bipush (-2), 2) := by decide +kernel
theorem dX11_flow_56 : decode cX11_flow 56 = .ok (.ireturn, 1) := by decide +kernel
theorem dX11_flow_57 : decode cX11_flow 57 = .ok (.bipush 100, 2) := by decide +kernel
theorem dX11_flow_59 : decode cX11_flow 59 = .ok (.iload_n 2, 1) := by decide +kernel
theorem dX11_flow_60 : decode cX11_flow 60 = .ok (.iload_n 1, 1) := by decide +kernel
theorem dX11_flow_61 : decode cX11_flow 61 = .ok (.iload_n 3, 1) := by decide +kernel
theorem dX11_flow_62 : decode cX11_flow 62 = .ok (.invokestatic 251, 3) := by decide +kernel
theorem dX11_flow_65 : decode cX11_flow 65 = .ok (.sipush 10000, 3) := by decide +kernel
theorem dX11_flow_68 : decode cX11_flow 68 = .ok (.idiv, 1) := by decide +kernel
theorem dX11_flow_69 : decode cX11_flow 69 = .ok (.isub, 1) := by decide +kernel
theorem dX11_flow_70 : decode cX11_flow 70 = .ok (.istore 6, 2) := by decide +kernel
theorem dX11_flow_72 : decode cX11_flow 72 = .ok (.iload 4, 2) := by decide +kernel
theorem dX11_flow_74 : decode cX11_flow 74 = .ok (.iload 5, 2) := by decide +kernel
theorem dX11_flow_76 : decode cX11_flow 76 = .ok (.isub, 1) := by decide +kernel
theorem dX11_flow_77 : decode cX11_flow 77 = .ok (.iload 4, 2) := by decide +kernel
theorem dX11_flow_79 : decode cX11_flow 79 = .ok (.iload 6, 2) := by decide +kernel
theorem dX11_flow_81 : decode cX11_flow 81 = .ok (.invokestatic 251, 3) := by decide +kernel
theorem dX11_flow_84 : decode cX11_flow 84 = .ok (.ireturn, 1) := by decide +kernel
theorem dX11_hops_0 : decode cX11_hops 0 = .ok (.iload_n 1, 1) := by decide +kernel
theorem dX11_hops_1 : decode cX11_hops 1 = .ok (.iload_n 2, 1) := by decide +kernel
theorem dX11_hops_2 : decode cX11_hops 2 = .ok (.iload_n 3, 1) := by decide +kernel
theorem dX11_hops_3 : decode cX11_hops 3 = .ok (.invokestatic 254, 3) := by decide +kernel
theorem dX11_hops_6 : decode cX11_hops 6 = .ok (.ifCond .eq 15, 3) := by decide +kernel
theorem dX11_hops_9 : decode cX11_hops 9 = .ok (.iload 4, 2) := by decide +kernel
theorem dX11_hops_11 : decode cX11_hops 11 = .ok (.iconst 0, 1) := by decide +kernel
theorem dX11_hops_12 : decode cX11_hops 12 = .ok (.iload_n 1, 1) := by decide +kernel
theorem dX11_hops_13 : decode cX11_hops 13 = .ok (.iconst 1, 1) := by decide +kernel
theorem dX11_hops_14 : decode cX11_hops 14 = .ok (.isub, 1) := by decide +kernel
theorem dX11_hops_15 : decode cX11_hops 15 = .ok (.invokestatic 93, 3) := by decide +kernel
theorem dX11_hops_18 : decode cX11_hops 18 = .ok (.ifCond .ne 6, 3) := by decide +kernel
theorem dX11_hops_21 : decode cX11_hops 21 = .ok (.bipush (-2), 2) := by decide +kernel
theorem dX11_hops_23 : decode cX11_hops 23 = .ok (.ireturn, 1) := by decide +kernel
theorem dX11_hops_24 : decode cX11_hops 24 = .ok (.iload_n 1, 1) := by decide +kernel
theorem dX11_hops_25 : decode cX11_hops 25 = .ok (.iload_n 2, 1) := by decide +kernel
theorem dX11_hops_26 : decode cX11_hops 26 = .ok (.iload_n 3, 1) := by decide +kernel
theorem dX11_hops_27 : decode cX11_hops 27 = .ok (.iload 4, 2) := by decide +kernel
theorem dX11_hops_29 : decode cX11_hops 29 = .ok (.invokestatic 257, 3) := by decide +kernel
theorem dX11_hops_32 : decode cX11_hops 32 = .ok (.ireturn, 1) := by decide +kernel
theorem dX11_most_0 : decode cX11_most 0 = .ok (.iload_n 1, 1) := by decide +kernel
theorem dX11_most_1 : decode cX11_most 1 = .ok (.iload_n 2, 1) := by decide +kernel
theorem dX11_most_2 : decode cX11_most 2 = .ok (.iload_n 3, 1) := by decide +kernel
theorem dX11_most_3 : decode cX11_most 3 = .ok (.invokestatic 254, 3) := by decide +kernel
theorem dX11_most_6 : decode cX11_most 6 = .ok (.ifCond .ne 6, 3) := by decide +kernel
theorem dX11_most_9 : decode cX11_most 9 = .ok (.bipush (-2), 2) := by decide +kernel
theorem dX11_most_11 : decode cX11_most 11 = .ok (.ireturn, 1) := by decide +kernel
theorem dX11_most_12 : decode cX11_most 12 = .ok (.iconst 0, 1) := by decide +kernel
theorem dX11_most_13 : decode cX11_most 13 = .ok (.istore 4, 2) := by decide +kernel
theorem dX11_most_15 : decode cX11_most 15 = .ok (.iload_n 2, 1) := by decide +kernel
theorem dX11_most_16 : decode cX11_most 16 = .ok (.iload_n 3, 1) := by decide +kernel
theorem dX11_most_17 : decode cX11_most 17 = .ok (.if_icmp .ne 7, 3) := by decide +kernel
theorem dX11_most_20 : decode cX11_most 20 = .ok (.iconst 1, 1) := by decide +kernel
theorem dX11_most_21 : decode cX11_most 21 = .ok (.goto 4, 3) := by decide +kernel
theorem dX11_most_24 : decode cX11_most 24 = .ok (.iconst 0, 1) := by decide +kernel
theorem dX11_most_25 : decode cX11_most 25 = .ok (.istore 5, 2) := by decide +kernel
theorem dX11_most_27 : decode cX11_most 27 = .ok (.iload 5, 2) := by decide +kernel
theorem dX11_most_29 : decode cX11_most 29 = .ok (.iload_n 1, 1) := by decide +kernel
theorem dX11_most_30 : decode cX11_most 30 = .ok (.if_icmp .ge 24, 3) := by decide +kernel
theorem dX11_most_33 : decode cX11_most 33 = .ok (.iload 4, 2) := by decide +kernel
theorem dX11_most_35 : decode cX11_most 35 = .ok (.iload_n 1, 1) := by decide +kernel
theorem dX11_most_36 : decode cX11_most 36 = .ok (.iload_n 2, 1) := by decide +kernel
theorem dX11_most_37 : decode cX11_most 37 = .ok (.iload_n 3, 1) := by decide +kernel
theorem dX11_most_38 : decode cX11_most 38 = .ok (.iload 5, 2) := by decide +kernel
theorem dX11_most_40 : decode cX11_most 40 = .ok (.invokestatic 257, 3) := by decide +kernel
theorem dX11_most_43 : decode cX11_most 43 = .ok (.invokestatic 261, 3) := by decide +kernel
theorem dX11_most_46 : decode cX11_most 46 = .ok (.istore 4, 2) := by decide +kernel
theorem dX11_most_48 : decode cX11_most 48 = .ok (.iinc 5 1, 3) := by decide +kernel
theorem dX11_most_51 : decode cX11_most 51 = .ok (.goto (-24), 3) := by decide +kernel
theorem dX11_most_54 : decode cX11_most 54 = .ok (.iload 4, 2) := by decide +kernel
theorem dX11_most_56 : decode cX11_most 56 = .ok (.ireturn, 1) := by decide +kernel
theorem dX11_listen_0 : decode cX11_listen 0 = .ok (.iload_n 1, 1) := by decide +kernel
theorem dX11_listen_1 : decode cX11_listen 1 = .ok (.iconst 0, 1) := by decide +kernel
theorem dX11_listen_2 : decode cX11_listen 2 = .ok (.bipush 11, 2) := by decide +kernel
theorem dX11_listen_4 : decode cX11_listen 4 = .ok (.invokestatic 93, 3) := by decide +kernel
theorem dX11_listen_7 : decode cX11_listen 7 = .ok (.ifCond .eq 14, 3) := by decide +kernel
theorem dX11_listen_10 : decode cX11_listen 10 = .ok (.iload_n 3, 1) := by decide +kernel
theorem dX11_listen_11 : decode cX11_listen 11 = .ok (.iconst 1, 1) := by decide +kernel
theorem dX11_listen_12 : decode cX11_listen 12 = .ok (.sipush 200, 3) := by decide +kernel
theorem dX11_listen_15 : decode cX11_listen 15 = .ok (.invokestatic 93, 3) := by decide +kernel
theorem dX11_listen_18 : decode cX11_listen 18 = .ok (.ifCond .ne 6, 3) := by decide +kernel
theorem dX11_listen_21 : decode cX11_listen 21 = .ok (.bipush (-2), 2) := by decide +kernel
theorem dX11_listen_23 : decode cX11_listen 23 = .ok (.ireturn, 1) := by decide +kernel
theorem dX11_listen_24 : decode cX11_listen 24 = .ok (.aload_n 0, 1) := by decide +kernel
theorem dX11_listen_25 : decode cX11_listen 25 = .ok (.getfield 53, 3) := by decide +kernel
theorem dX11_listen_28 : decode cX11_listen 28 = .ok (.iload_n 1, 1) := by decide +kernel
theorem dX11_listen_29 : decode cX11_listen 29 = .ok (.invokevirtual 266, 3) := by decide +kernel
theorem dX11_listen_32 : decode cX11_listen 32 = .ok (.aload_n 0, 1) := by decide +kernel
theorem dX11_listen_33 : decode cX11_listen 33 = .ok (.getfield 53, 3) := by decide +kernel
theorem dX11_listen_36 : decode cX11_listen 36 = .ok (.getfield 269, 3) := by decide +kernel
theorem dX11_listen_39 : decode cX11_listen 39 = .ok (.ifCond .ne 8, 3) := by decide +kernel
theorem dX11_listen_42 : decode cX11_listen 42 = .ok (.bipush (-3), 2) := by decide +kernel
theorem dX11_listen_44 : decode cX11_listen 44 = .ok (.goto 12, 3) := by decide +kernel
theorem dX11_listen_47 : decode cX11_listen 47 = .ok (.aload_n 0, 1) := by decide +kernel
theorem dX11_listen_48 : decode cX11_listen 48 = .ok (.getfield 53, 3) := by decide +kernel
theorem dX11_listen_51 : decode cX11_listen 51 = .ok (.iload_n 2, 1) := by decide +kernel
theorem dX11_listen_52 : decode cX11_listen 52 = .ok (.iload_n 3, 1) := by decide +kernel
theorem dX11_listen_53 : decode cX11_listen 53 = .ok (.invokevirtual 270, 3) := by decide +kernel
theorem dX11_listen_56 : decode cX11_listen 56 = .ok (.ireturn, 1) := by decide +kernel
theorem dX11_spoke_0 : decode cX11_spoke 0 = .ok (.aload_n 0, 1) := by decide +kernel
theorem dX11_spoke_1 : decode cX11_spoke 1 = .ok (.getfield 37, 3) := by decide +kernel
theorem dX11_spoke_4 : decode cX11_spoke 4 = .ok (.iload_n 1, 1) := by decide +kernel
theorem dX11_spoke_5 : decode cX11_spoke 5 = .ok (.invokevirtual 167, 3) := by decide +kernel
theorem dX11_spoke_8 : decode cX11_spoke 8 = .ok (.ifCond .eq 12, 3) := by decide +kernel
theorem dX11_spoke_11 : decode cX11_spoke 11 = .ok (.iload_n 2, 1) := by decide +kernel
theorem dX11_spoke_12 : decode cX11_spoke 12 = .ok (.iconst 0, 1) := by decide +kernel
theorem dX11_spoke_13 : decode cX11_spoke 13 = .ok (.iconst 2, 1) := by decide +kernel
theorem dX11_spoke_14 : decode cX11_spoke 14 = .ok (.invokestatic 93, 3) := by decide +kernel
theorem dX11_spoke_17 : decode cX11_spoke 17 = .ok (.ifCond .ne 6, 3) := by decide +kernel
theorem dX11_spoke_20 : decode cX11_spoke 20 = .ok (.bipush (-2), 2) := by decide +kernel
theorem dX11_spoke_22 : decode cX11_spoke 22 = .ok (.ireturn, 1) := by decide +kernel
theorem dX11_spoke_23 : decode cX11_spoke 23 = .ok (.iload_n 2, 1) := by decide +kernel
theorem dX11_spoke_24 : decode cX11_spoke 24 = .ok (.ifCond .ne 13, 3) := by decide +kernel
theorem dX11_spoke_27 : decode cX11_spoke 27 = .ok (.aload_n 0, 1) := by decide +kernel
theorem dX11_spoke_28 : decode cX11_spoke 28 = .ok (.getfield 53, 3) := by decide +kernel
theorem dX11_spoke_31 : decode cX11_spoke 31 = .ok (.getfield 273, 3) := by decide +kernel
theorem dX11_spoke_34 : decode cX11_spoke 34 = .ok (.iload_n 1, 1) := by decide +kernel
theorem dX11_spoke_35 : decode cX11_spoke 35 = .ok (.iaload, 1) := by decide +kernel
theorem dX11_spoke_36 : decode cX11_spoke 36 = .ok (.ireturn, 1) := by decide +kernel
theorem dX11_spoke_37 : decode cX11_spoke 37 = .ok (.iload_n 2, 1) := by decide +kernel
theorem dX11_spoke_38 : decode cX11_spoke 38 = .ok (.iconst 1, 1) := by decide +kernel
theorem dX11_spoke_39 : decode cX11_spoke 39 = .ok (.if_icmp .ne 15, 3) := by decide +kernel
theorem dX11_spoke_42 : decode cX11_spoke 42 = .ok (.aload_n 0, 1) := by decide +kernel
theorem dX11_spoke_43 : decode cX11_spoke 43 = .ok (.getfield 53, 3) := by decide +kernel
theorem dX11_spoke_46 : decode cX11_spoke 46 = .ok (.getfield 276, 3) := by decide +kernel
theorem dX11_spoke_49 : decode cX11_spoke 49 = .ok (.iload_n 1, 1) := by decide +kernel
theorem dX11_spoke_50 : decode cX11_spoke 50 = .ok (.iaload, 1) := by decide +kernel
theorem dX11_spoke_51 : decode cX11_spoke 51 = .ok (.goto 12, 3) := by decide +kernel
theorem dX11_spoke_54 : decode cX11_spoke 54 = .ok (.aload_n 0, 1) := by decide +kernel
theorem dX11_spoke_55 : decode cX11_spoke 55 = .ok (.getfield 53, 3) := by decide +kernel
theorem dX11_spoke_58 : decode cX11_spoke 58 = .ok (.getfield 279, 3) := by decide +kernel
theorem dX11_spoke_61 : decode cX11_spoke 61 = .ok (.iload_n 1, 1) := by decide +kernel
theorem dX11_spoke_62 : decode cX11_spoke 62 = .ok (.iaload, 1) := by decide +kernel
theorem dX11_spoke_63 : decode cX11_spoke 63 = .ok (.ireturn, 1) := by decide +kernel
theorem dX11_hidden_0 : decode cX11_hidden 0 = .ok (.iload_n 1, 1) := by decide +kernel
theorem dX11_hidden_1 : decode cX11_hidden 1 = .ok (.iconst 0, 1) := by decide +kernel
theorem dX11_hidden_2 : decode cX11_hidden 2 = .ok (.bipush 11, 2) := by decide +kernel
theorem dX11_hidden_4 : decode cX11_hidden 4 = .ok (.invokestatic 93, 3) := by decide +kernel
theorem dX11_hidden_7 : decode cX11_hidden 7 = .ok (.ifCond .ne 6, 3) := by decide +kernel
theorem dX11_hidden_10 : decode cX11_hidden 10 = .ok (.bipush (-2), 2) := by decide +kernel
theorem dX11_hidden_12 : decode cX11_hidden 12 = .ok (.ireturn, 1) := by decide +kernel
theorem dX11_hidden_13 : decode cX11_hidden 13 = .ok (.aload_n 0, 1) := by decide +kernel
theorem dX11_hidden_14 : decode cX11_hidden 14 = .ok (.getfield 53, 3) := by decide +kernel
theorem dX11_hidden_17 : decode cX11_hidden 17 = .ok (.iload_n 1, 1) := by decide +kernel
theorem dX11_hidden_18 : decode cX11_hidden 18 = .ok (.invokevirtual 266, 3) := by decide +kernel
theorem dX11_hidden_21 : decode cX11_hidden 21 = .ok (.aload_n 0, 1) := by decide +kernel
theorem dX11_hidden_22 : decode cX11_hidden 22 = .ok (.getfield 53, 3) := by decide +kernel
theorem dX11_hidden_25 : decode cX11_hidden 25 = .ok (.invokevirtual 282, 3) := by decide +kernel
theorem dX11_hidden_28 : decode cX11_hidden 28 = .ok (.ireturn, 1) := by decide +kernel
theorem dX11_bid_0 : decode cX11_bid 0 = .ok (.aload_n 0, 1) := by decide +kernel
theorem dX11_bid_1 : decode cX11_bid 1 = .ok (.getfield 37, 3) := by decide +kernel
theorem dX11_bid_4 : decode cX11_bid 4 = .ok (.iload_n 1, 1) := by decide +kernel
theorem dX11_bid_5 : decode cX11_bid 5 = .ok (.invokevirtual 167, 3) := by decide +kernel
theorem dX11_bid_8 : decode cX11_bid 8 = .ok (.ifCond .eq 25, 3) := by decide +kernel
theorem dX11_bid_11 : decode cX11_bid 11 = .ok (.iload_n 2, 1) := by decide +kernel
theorem dX11_bid_12 : decode cX11_bid 12 = .ok (.iconst 1, 1) := by decide +kernel
theorem dX11_bid_13 : decode cX11_bid 13 = .ok (.sipush 4095, 3) := by decide +kernel
theorem dX11_bid_16 : decode cX11_bid 16 = .ok (.invokestatic 93, 3) := by decide +kernel
theorem dX11_bid_19 : decode cX11_bid 19 = .ok (.ifCond .eq 14, 3) := by decide +kernel
theorem dX11_bid_22 : decode cX11_bid 22 = .ok (.iload_n 3, 1) := by decide +kernel
theorem dX11_bid_23 : decode cX11_bid 23 = .ok (.iconst 1, 1) := by decide +kernel
theorem dX11_bid_24 : decode cX11_bid 24 = .ok (.sipush 10000, 3) := by decide +kernel
theorem dX11_bid_27 : decode cX11_bid 27 = .ok (.invokestatic 93, 3) := by decide +kernel
theorem dX11_bid_30 : decode cX11_bid 30 = .ok (.ifCond .ne 6, 3) := by decide +kernel
theorem dX11_bid_33 : decode cX11_bid 33 = .ok (.bipush (-2), 2) := by decide +kernel
theorem dX11_bid_35 : decode cX11_bid 35 = .ok (.ireturn, 1) := by decide +kernel
theorem dX11_bid_36 : decode cX11_bid 36 = .ok (.aload_n 0, 1) := by decide +kernel
theorem dX11_bid_37 : decode cX11_bid 37 = .ok (.getfield 60, 3) := by decide +kernel
theorem dX11_bid_40 : decode cX11_bid 40 = .ok (.getfield 285, 3) := by decide +kernel
theorem dX11_bid_43 : decode cX11_bid 43 = .ok (.bipush 8, 2) := by decide +kernel
theorem dX11_bid_45 : decode cX11_bid 45 = .ok (.if_icmp .lt 8, 3) := by decide +kernel
theorem dX11_bid_48 : decode cX11_bid 48 = .ok (.bipush (-4), 2) := by decide +kernel
theorem dX11_bid_50 : decode cX11_bid 50 = .ok (.goto 12, 3) := by decide +kernel
theorem dX11_bid_53 : decode cX11_bid 53 = .ok (.aload_n 0, 1) := by decide +kernel
theorem dX11_bid_54 : decode cX11_bid 54 = .ok (.getfield 60, 3) := by decide +kernel
theorem dX11_bid_57 : decode cX11_bid 57 = .ok (.iload_n 2, 1) := by decide +kernel
theorem dX11_bid_58 : decode cX11_bid 58 = .ok (.iload_n 3, 1) := by decide +kernel
theorem dX11_bid_59 : decode cX11_bid 59 = .ok (.invokevirtual 286, 3) := by decide +kernel
theorem dX11_bid_62 : decode cX11_bid 62 = .ok (.ireturn, 1) := by decide +kernel
theorem dX11_call_0 : decode cX11_call 0 = .ok (.aload_n 0, 1) := by decide +kernel
theorem dX11_call_1 : decode cX11_call 1 = .ok (.getfield 60, 3) := by decide +kernel
theorem dX11_call_4 : decode cX11_call 4 = .ok (.getfield 285, 3) := by decide +kernel
theorem dX11_call_7 : decode cX11_call 7 = .ok (.istore_n 1, 1) := by decide +kernel
theorem dX11_call_8 : decode cX11_call 8 = .ok (.aload_n 0, 1) := by decide +kernel
theorem dX11_call_9 : decode cX11_call 9 = .ok (.getfield 60, 3) := by decide +kernel
theorem dX11_call_12 : decode cX11_call 12 = .ok (.iconst 0, 1) := by decide +kernel
theorem dX11_call_13 : decode cX11_call 13 = .ok (.putfield 285, 3) := by decide +kernel
theorem dX11_call_16 : decode cX11_call 16 = .ok (.iload_n 1, 1) := by decide +kernel
theorem dX11_call_17 : decode cX11_call 17 = .ok (.ireturn, 1) := by decide +kernel
theorem dX11_won_0 : decode cX11_won 0 = .ok (.aload_n 0, 1) := by decide +kernel
theorem dX11_won_1 : decode cX11_won 1 = .ok (.getfield 60, 3) := by decide +kernel
theorem dX11_won_4 : decode cX11_won 4 = .ok (.iconst 0, 1) := by decide +kernel
theorem dX11_won_5 : decode cX11_won 5 = .ok (.invokevirtual 289, 3) := by decide +kernel
theorem dX11_won_8 : decode cX11_won 8 = .ok (.ireturn, 1) := by decide +kernel
theorem dX11_pays_0 : decode cX11_pays 0 = .ok (.iload_n 1, 1) := by decide +kernel
theorem dX11_pays_1 : decode cX11_pays 1 = .ok (.iconst 0, 1) := by decide +kernel
theorem dX11_pays_2 : decode cX11_pays 2 = .ok (.aload_n 0, 1) := by decide +kernel
theorem dX11_pays_3 : decode cX11_pays 3 = .ok (.getfield 60, 3) := by decide +kernel
theorem dX11_pays_6 : decode cX11_pays 6 = .ok (.getfield 285, 3) := by decide +kernel
theorem dX11_pays_9 : decode cX11_pays 9 = .ok (.iconst 1, 1) := by decide +kernel
theorem dX11_pays_10 : decode cX11_pays 10 = .ok (.isub, 1) := by decide +kernel
theorem dX11_pays_11 : decode cX11_pays 11 = .ok (.invokestatic 93, 3) := by decide +kernel
theorem dX11_pays_14 : decode cX11_pays 14 = .ok (.ifCond .eq 14, 3) := by decide +kernel
theorem dX11_pays_17 : decode cX11_pays 17 = .ok (.aload_n 0, 1) := by decide +kernel
theorem dX11_pays_18 : decode cX11_pays 18 = .ok (.getfield 60, 3) := by decide +kernel
theorem dX11_pays_21 : decode cX11_pays 21 = .ok (.iload_n 1, 1) := by decide +kernel
theorem dX11_pays_22 : decode cX11_pays 22 = .ok (.invokevirtual 292, 3) := by decide +kernel
theorem dX11_pays_25 : decode cX11_pays 25 = .ok (.goto 5, 3) := by decide +kernel
theorem dX11_pays_28 : decode cX11_pays 28 = .ok (.bipush (-2), 2) := by decide +kernel
theorem dX11_pays_30 : decode cX11_pays 30 = .ok (.ireturn, 1) := by decide +kernel
theorem dX11_type_0 : decode cX11_type 0 = .ok (.iload_n 1, 1) := by decide +kernel
theorem dX11_type_1 : decode cX11_type 1 = .ok (.iconst 0, 1) := by decide +kernel
theorem dX11_type_2 : decode cX11_type 2 = .ok (.sipush 255, 3) := by decide +kernel
theorem dX11_type_5 : decode cX11_type 5 = .ok (.invokestatic 93, 3) := by decide +kernel
theorem dX11_type_8 : decode cX11_type 8 = .ok (.ifCond .ne 6, 3) := by decide +kernel
theorem dX11_type_11 : decode cX11_type 11 = .ok (.bipush (-2), 2) := by decide +kernel
theorem dX11_type_13 : decode cX11_type 13 = .ok (.ireturn, 1) := by decide +kernel
theorem dX11_type_14 : decode cX11_type 14 = .ok (.aload_n 0, 1) := by decide +kernel
theorem dX11_type_15 : decode cX11_type 15 = .ok (.getfield 67, 3) := by decide +kernel
theorem dX11_type_18 : decode cX11_type 18 = .ok (.getfield 295, 3) := by decide +kernel
theorem dX11_type_21 : decode cX11_type 21 = .ok (.bipush 120, 2) := by decide +kernel
theorem dX11_type_23 : decode cX11_type 23 = .ok (.if_icmp .lt 8, 3) := by decide +kernel
theorem dX11_type_26 : decode cX11_type 26 = .ok (.bipush (-4), 2) := by decide +kernel
theorem dX11_type_28 : decode cX11_type 28 = .ok (.goto 11, 3) := by decide +kernel
theorem dX11_type_31 : decode cX11_type 31 = .ok (.aload_n 0, 1) := by decide +kernel
theorem dX11_type_32 : decode cX11_type 32 = .ok (.getfield 67, 3) := by decide +kernel
theorem dX11_type_35 : decode cX11_type 35 = .ok (.iload_n 1, 1) := by decide +kernel
theorem dX11_type_36 : decode cX11_type 36 = .ok (.invokevirtual 298, 3) := by decide +kernel
theorem dX11_type_39 : decode cX11_type 39 = .ok (.ireturn, 1) := by decide +kernel
theorem dX11_wipe_0 : decode cX11_wipe 0 = .ok (.aload_n 0, 1) := by decide +kernel
theorem dX11_wipe_1 : decode cX11_wipe 1 = .ok (.getfield 67, 3) := by decide +kernel
theorem dX11_wipe_4 : decode cX11_wipe 4 = .ok (.getfield 295, 3) := by decide +kernel
theorem dX11_wipe_7 : decode cX11_wipe 7 = .ok (.istore_n 1, 1) := by decide +kernel
theorem dX11_wipe_8 : decode cX11_wipe 8 = .ok (.aload_n 0, 1) := by decide +kernel
theorem dX11_wipe_9 : decode cX11_wipe 9 = .ok (.getfield 67, 3) := by decide +kernel
theorem dX11_wipe_12 : decode cX11_wipe 12 = .ok (.iconst 0, 1) := by decide +kernel
theorem dX11_wipe_13 : decode cX11_wipe 13 = .ok (.putfield 295, 3) := by decide +kernel
theorem dX11_wipe_16 : decode cX11_wipe 16 = .ok (.iload_n 1, 1) := by decide +kernel
theorem dX11_wipe_17 : decode cX11_wipe 17 = .ok (.ireturn, 1) := by decide +kernel
theorem dX11_fault_0 : decode cX11_fault 0 = .ok (.aload_n 0, 1) := by decide +kernel
theorem dX11_fault_1 : decode cX11_fault 1 = .ok (.getfield 67, 3) := by decide +kernel
theorem dX11_fault_4 : decode cX11_fault 4 = .ok (.invokevirtual 301, 3) := by decide +kernel
theorem dX11_fault_7 : decode cX11_fault 7 = .ok (.aload_n 0, 1) := by decide +kernel
theorem dX11_fault_8 : decode cX11_fault 8 = .ok (.getfield 67, 3) := by decide +kernel
theorem dX11_fault_11 : decode cX11_fault 11 = .ok (.getfield 304, 3) := by decide +kernel
theorem dX11_fault_14 : decode cX11_fault 14 = .ok (.ireturn, 1) := by decide +kernel
theorem dX11_may_0 : decode cX11_may 0 = .ok (.iload_n 1, 1) := by decide +kernel
theorem dX11_may_1 : decode cX11_may 1 = .ok (.iload_n 2, 1) := by decide +kernel
theorem dX11_may_2 : decode cX11_may 2 = .ok (.iload_n 3, 1) := by decide +kernel
theorem dX11_may_3 : decode cX11_may 3 = .ok (.invokestatic 307, 3) := by decide +kernel
theorem dX11_may_6 : decode cX11_may 6 = .ok (.ifCond .ne 6, 3) := by decide +kernel
theorem dX11_may_9 : decode cX11_may 9 = .ok (.bipush (-2), 2) := by decide +kernel
theorem dX11_may_11 : decode cX11_may 11 = .ok (.ireturn, 1) := by decide +kernel
theorem dX11_may_12 : decode cX11_may 12 = .ok (.aload_n 0, 1) := by decide +kernel
theorem dX11_may_13 : decode cX11_may 13 = .ok (.getfield 67, 3) := by decide +kernel
theorem dX11_may_16 : decode cX11_may 16 = .ok (.iload_n 1, 1) := by decide +kernel
theorem dX11_may_17 : decode cX11_may 17 = .ok (.iload_n 2, 1) := by decide +kernel
theorem dX11_may_18 : decode cX11_may 18 = .ok (.iload_n 3, 1) := by decide +kernel
theorem dX11_may_19 : decode cX11_may 19 = .ok (.invokevirtual 310, 3) := by decide +kernel
theorem dX11_may_22 : decode cX11_may 22 = .ok (.istore 4, 2) := by decide +kernel
theorem dX11_may_24 : decode cX11_may 24 = .ok (.iload 4, 2) := by decide +kernel
theorem dX11_may_26 : decode cX11_may 26 = .ok (.iconst (-1), 1) := by decide +kernel
theorem dX11_may_27 : decode cX11_may 27 = .ok (.if_icmp .eq 20, 3) := by decide +kernel
theorem dX11_may_30 : decode cX11_may 30 = .ok (.aload_n 0, 1) := by decide +kernel
theorem dX11_may_31 : decode cX11_may 31 = .ok (.getfield 67, 3) := by decide +kernel
theorem dX11_may_34 : decode cX11_may 34 = .ok (.getfield 313, 3) := by decide +kernel
theorem dX11_may_37 : decode cX11_may 37 = .ok (.iload 4, 2) := by decide +kernel
theorem dX11_may_39 : decode cX11_may 39 = .ok (.baload, 1) := by decide +kernel
theorem dX11_may_40 : decode cX11_may 40 = .ok (.ifCond .eq 7, 3) := by decide +kernel
theorem dX11_may_43 : decode cX11_may 43 = .ok (.iconst 1, 1) := by decide +kernel
theorem dX11_may_44 : decode cX11_may 44 = .ok (.goto 4, 3) := by decide +kernel
theorem dX11_may_47 : decode cX11_may 47 = .ok (.iconst 0, 1) := by decide +kernel
theorem dX11_may_48 : decode cX11_may 48 = .ok (.ireturn, 1) := by decide +kernel
theorem dX11_rule_0 : decode cX11_rule 0 = .ok (.iload_n 1, 1) := by decide +kernel
theorem dX11_rule_1 : decode cX11_rule 1 = .ok (.iload_n 2, 1) := by decide +kernel
theorem dX11_rule_2 : decode cX11_rule 2 = .ok (.iload_n 3, 1) := by decide +kernel
theorem dX11_rule_3 : decode cX11_rule 3 = .ok (.invokestatic 307, 3) := by decide +kernel
theorem dX11_rule_6 : decode cX11_rule 6 = .ok (.ifCond .eq 16, 3) := by decide +kernel
theorem dX11_rule_9 : decode cX11_rule 9 = .ok (.aload_n 0, 1) := by decide +kernel
theorem dX11_rule_10 : decode cX11_rule 10 = .ok (.getfield 67, 3) := by decide +kernel
theorem dX11_rule_13 : decode cX11_rule 13 = .ok (.iload_n 1, 1) := by decide +kernel
theorem dX11_rule_14 : decode cX11_rule 14 = .ok (.iload_n 2, 1) := by decide +kernel
theorem dX11_rule_15 : decode cX11_rule 15 = .ok (.iload_n 3, 1) := by decide +kernel
theorem dX11_rule_16 : decode cX11_rule 16 = .ok (.invokevirtual 310, 3) := by decide +kernel
theorem dX11_rule_19 : decode cX11_rule 19 = .ok (.goto 5, 3) := by decide +kernel
theorem dX11_rule_22 : decode cX11_rule 22 = .ok (.bipush (-2), 2) := by decide +kernel
theorem dX11_rule_24 : decode cX11_rule 24 = .ok (.ireturn, 1) := by decide +kernel
theorem dX11_box_0 : decode cX11_box 0 = .ok (.aload_n 0, 1) := by decide +kernel
theorem dX11_box_1 : decode cX11_box 1 = .ok (.getfield 28, 3) := by decide +kernel
theorem dX11_box_4 : decode cX11_box 4 = .ok (.iload_n 1, 1) := by decide +kernel
theorem dX11_box_5 : decode cX11_box 5 = .ok (.i2l, 1) := by decide +kernel
theorem dX11_box_6 : decode cX11_box 6 = .ok (.invokevirtual 114, 3) := by decide +kernel
theorem dX11_box_9 : decode cX11_box 9 = .ok (.ifCond .ne 6, 3) := by decide +kernel
theorem dX11_box_12 : decode cX11_box 12 = .ok (.bipush (-2), 2) := by decide +kernel
theorem dX11_box_14 : decode cX11_box 14 = .ok (.ireturn, 1) := by decide +kernel
theorem dX11_box_15 : decode cX11_box 15 = .ok (.aload_n 0, 1) := by decide +kernel
theorem dX11_box_16 : decode cX11_box 16 = .ok (.getfield 76, 3) := by decide +kernel
theorem dX11_box_19 : decode cX11_box 19 = .ok (.getfield 101, 3) := by decide +kernel
theorem dX11_box_22 : decode cX11_box 22 = .ok (.bipush 8, 2) := by decide +kernel
theorem dX11_box_24 : decode cX11_box 24 = .ok (.if_icmp .lt 8, 3) := by decide +kernel
theorem dX11_box_27 : decode cX11_box 27 = .ok (.bipush (-4), 2) := by decide +kernel
theorem dX11_box_29 : decode cX11_box 29 = .ok (.goto 11, 3) := by decide +kernel
theorem dX11_box_32 : decode cX11_box 32 = .ok (.aload_n 0, 1) := by decide +kernel
theorem dX11_box_33 : decode cX11_box 33 = .ok (.getfield 76, 3) := by decide +kernel
theorem dX11_box_36 : decode cX11_box 36 = .ok (.iload_n 1, 1) := by decide +kernel
theorem dX11_box_37 : decode cX11_box 37 = .ok (.invokevirtual 316, 3) := by decide +kernel
theorem dX11_box_40 : decode cX11_box 40 = .ok (.ireturn, 1) := by decide +kernel
theorem dX11_log_0 : decode cX11_log 0 = .ok (.iload_n 1, 1) := by decide +kernel
theorem dX11_log_1 : decode cX11_log 1 = .ok (.iconst 0, 1) := by decide +kernel
theorem dX11_log_2 : decode cX11_log 2 = .ok (.aload_n 0, 1) := by decide +kernel
theorem dX11_log_3 : decode cX11_log 3 = .ok (.getfield 76, 3) := by decide +kernel
theorem dX11_log_6 : decode cX11_log 6 = .ok (.getfield 101, 3) := by decide +kernel
theorem dX11_log_9 : decode cX11_log 9 = .ok (.iconst 1, 1) := by decide +kernel
theorem dX11_log_10 : decode cX11_log 10 = .ok (.isub, 1) := by decide +kernel
theorem dX11_log_11 : decode cX11_log 11 = .ok (.invokestatic 93, 3) := by decide +kernel
theorem dX11_log_14 : decode cX11_log 14 = .ok (.ifCond .eq 14, 3) := by decide +kernel
theorem dX11_log_17 : decode cX11_log 17 = .ok (.iload_n 2, 1) := by decide +kernel
theorem dX11_log_18 : decode cX11_log 18 = .ok (.iconst (-1), 1) := by decide +kernel
theorem dX11_log_19 : decode cX11_log 19 = .ok (.ldc_w 318, 3) := by decide +kernel
theorem dX11_log_22 : decode cX11_log 22 = .ok (.invokestatic 93, 3) := by decide +kernel
theorem dX11_log_25 : decode cX11_log 25 = .ok (.ifCond .ne 6, 3) := by decide +kernel
theorem dX11_log_28 : decode cX11_log 28 = .ok (.bipush (-3), 2) := by decide +kernel
theorem dX11_log_30 : decode cX11_log 30 = .ok (.ireturn, 1) := by decide +kernel
theorem dX11_log_31 : decode cX11_log 31 = .ok (.aload_n 0, 1) := by decide +kernel
theorem dX11_log_32 : decode cX11_log 32 = .ok (.getfield 76, 3) := by decide +kernel
theorem dX11_log_35 : decode cX11_log 35 = .ok (.getfield 319, 3) := by decide +kernel
theorem dX11_log_38 : decode cX11_log 38 = .ok (.iload_n 1, 1) := by decide +kernel
theorem dX11_log_39 : decode cX11_log 39 = .ok (.iaload, 1) := by decide +kernel
theorem dX11_log_40 : decode cX11_log 40 = .ok (.istore_n 3, 1) := by decide +kernel
theorem dX11_log_41 : decode cX11_log 41 = .ok (.aload_n 0, 1) := by decide +kernel
theorem dX11_log_42 : decode cX11_log 42 = .ok (.getfield 76, 3) := by decide +kernel
theorem dX11_log_45 : decode cX11_log 45 = .ok (.getfield 319, 3) := by decide +kernel
theorem dX11_log_48 : decode cX11_log 48 = .ok (.iload_n 1, 1) := by decide +kernel
theorem dX11_log_49 : decode cX11_log 49 = .ok (.iload_n 2, 1) := by decide +kernel
theorem dX11_log_50 : decode cX11_log 50 = .ok (.iastore, 1) := by decide +kernel
theorem dX11_log_51 : decode cX11_log 51 = .ok (.iload_n 3, 1) := by decide +kernel
theorem dX11_log_52 : decode cX11_log 52 = .ok (.ireturn, 1) := by decide +kernel
theorem dX11_hear_0 : decode cX11_hear 0 = .ok (.aload_n 0, 1) := by decide +kernel
theorem dX11_hear_1 : decode cX11_hear 1 = .ok (.getfield 37, 3) := by decide +kernel
theorem dX11_hear_4 : decode cX11_hear 4 = .ok (.iload_n 1, 1) := by decide +kernel
theorem dX11_hear_5 : decode cX11_hear 5 = .ok (.invokevirtual 167, 3) := by decide +kernel
theorem dX11_hear_8 : decode cX11_hear 8 = .ok (.ifCond .ne 6, 3) := by decide +kernel
theorem dX11_hear_11 : decode cX11_hear 11 = .ok (.bipush (-2), 2) := by decide +kernel
theorem dX11_hear_13 : decode cX11_hear 13 = .ok (.ireturn, 1) := by decide +kernel
theorem dX11_hear_14 : decode cX11_hear 14 = .ok (.iconst 0, 1) := by decide +kernel
theorem dX11_hear_15 : decode cX11_hear 15 = .ok (.istore_n 2, 1) := by decide +kernel
theorem dX11_hear_16 : decode cX11_hear 16 = .ok (.iload_n 2, 1) := by decide +kernel
theorem dX11_hear_17 : decode cX11_hear 17 = .ok (.aload_n 0, 1) := by decide +kernel
theorem dX11_hear_18 : decode cX11_hear 18 = .ok (.getfield 76, 3) := by decide +kernel
theorem dX11_hear_21 : decode cX11_hear 21 = .ok (.getfield 101, 3) := by decide +kernel
theorem dX11_hear_24 : decode cX11_hear 24 = .ok (.if_icmp .ge 36, 3) := by decide +kernel
theorem dX11_hear_27 : decode cX11_hear 27 = .ok (.aload_n 0, 1) := by decide +kernel
theorem dX11_hear_28 : decode cX11_hear 28 = .ok (.getfield 76, 3) := by decide +kernel
theorem dX11_hear_31 : decode cX11_hear 31 = .ok (.getfield 319, 3) := by decide +kernel
theorem dX11_hear_34 : decode cX11_hear 34 = .ok (.iload_n 2, 1) := by decide +kernel
theorem dX11_hear_35 : decode cX11_hear 35 = .ok (.aload_n 0, 1) := by decide +kernel
theorem dX11_hear_36 : decode cX11_hear 36 = .ok (.getfield 37, 3) := by decide +kernel
theorem dX11_hear_39 : decode cX11_hear 39 = .ok (.iload_n 1, 1) := by decide +kernel
theorem dX11_hear_40 : decode cX11_hear 40 = .ok (.aload_n 0, 1) := by decide +kernel
theorem dX11_hear_41 : decode cX11_hear 41 = .ok (.getfield 76, 3) := by decide +kernel
theorem dX11_hear_44 : decode cX11_hear 44 = .ok (.getfield 322, 3) := by decide +kernel
theorem dX11_hear_47 : decode cX11_hear 47 = .ok (.iload_n 2, 1) := by decide +kernel
theorem dX11_hear_48 : decode cX11_hear 48 = .ok (.iaload, 1) := by decide +kernel
theorem dX11_hear_49 : decode cX11_hear 49 = .ok (.iconst 0, 1) := by decide +kernel
theorem dX11_hear_50 : decode cX11_hear 50 = .ok (.invokevirtual 187, 3) := by decide +kernel
theorem dX11_hear_53 : decode cX11_hear 53 = .ok (.iastore, 1) := by decide +kernel
theorem dX11_hear_54 : decode cX11_hear 54 = .ok (.iinc 2 1, 3) := by decide +kernel
theorem dX11_hear_57 : decode cX11_hear 57 = .ok (.goto (-41), 3) := by decide +kernel
theorem dX11_hear_60 : decode cX11_hear 60 = .ok (.aload_n 0, 1) := by decide +kernel
theorem dX11_hear_61 : decode cX11_hear 61 = .ok (.getfield 76, 3) := by decide +kernel
theorem dX11_hear_64 : decode cX11_hear 64 = .ok (.getfield 101, 3) := by decide +kernel
theorem dX11_hear_67 : decode cX11_hear 67 = .ok (.ireturn, 1) := by decide +kernel
theorem dX11_cells_0 : decode cX11_cells 0 = .ok (.iload_n 1, 1) := by decide +kernel
theorem dX11_cells_1 : decode cX11_cells 1 = .ok (.iconst 1, 1) := by decide +kernel
theorem dX11_cells_2 : decode cX11_cells 2 = .ok (.ldc 142, 2) := by decide +kernel
theorem dX11_cells_4 : decode cX11_cells 4 = .ok (.invokestatic 93, 3) := by decide +kernel
theorem dX11_cells_7 : decode cX11_cells 7 = .ok (.ifCond .eq 13, 3) := by decide +kernel
theorem dX11_cells_10 : decode cX11_cells 10 = .ok (.iload_n 2, 1) := by decide +kernel
theorem dX11_cells_11 : decode cX11_cells 11 = .ok (.iconst 0, 1) := by decide +kernel
theorem dX11_cells_12 : decode cX11_cells 12 = .ok (.bipush 100, 2) := by decide +kernel
theorem dX11_cells_14 : decode cX11_cells 14 = .ok (.invokestatic 93, 3) := by decide +kernel
theorem dX11_cells_17 : decode cX11_cells 17 = .ok (.ifCond .ne 6, 3) := by decide +kernel
theorem dX11_cells_20 : decode cX11_cells 20 = .ok (.bipush (-2), 2) := by decide +kernel
theorem dX11_cells_22 : decode cX11_cells 22 = .ok (.ireturn, 1) := by decide +kernel
theorem dX11_cells_23 : decode cX11_cells 23 = .ok (.iconst 0, 1) := by decide +kernel
theorem dX11_cells_24 : decode cX11_cells 24 = .ok (.istore_n 3, 1) := by decide +kernel
theorem dX11_cells_25 : decode cX11_cells 25 = .ok (.iconst 0, 1) := by decide +kernel
theorem dX11_cells_26 : decode cX11_cells 26 = .ok (.istore 4, 2) := by decide +kernel
theorem dX11_cells_28 : decode cX11_cells 28 = .ok (.iload 4, 2) := by decide +kernel
theorem dX11_cells_30 : decode cX11_cells 30 = .ok (.aload_n 0, 1) := by decide +kernel
theorem dX11_cells_31 : decode cX11_cells 31 = .ok (.getfield 28, 3) := by decide +kernel
theorem dX11_cells_34 : decode cX11_cells 34 = .ok (.invokevirtual 325, 3) := by decide +kernel
theorem dX11_cells_37 : decode cX11_cells 37 = .ok (.if_icmp .ge 26, 3) := by decide +kernel
theorem dX11_cells_40 : decode cX11_cells 40 = .ok (.aload_n 0, 1) := by decide +kernel
theorem dX11_cells_41 : decode cX11_cells 41 = .ok (.getfield 76, 3) := by decide +kernel
theorem dX11_cells_44 : decode cX11_cells 44 = .ok (.iload 4, 2) := by decide +kernel
theorem dX11_cells_46 : decode cX11_cells 46 = .ok (.iload_n 1, 1) := by decide +kernel
theorem dX11_cells_47 : decode cX11_cells 47 = .ok (.iload_n 2, 1) := by decide +kernel
theorem dX11_cells_48 : decode cX11_cells 48 = .ok (.invokevirtual 328, 3) := by decide +kernel
theorem dX11_cells_51 : decode cX11_cells 51 = .ok (.ifCond .eq 6, 3) := by decide +kernel
theorem dX11_cells_54 : decode cX11_cells 54 = .ok (.iinc 3 1, 3) := by decide +kernel
theorem dX11_cells_57 : decode cX11_cells 57 = .ok (.iinc 4 1, 3) := by decide +kernel
theorem dX11_cells_60 : decode cX11_cells 60 = .ok (.goto (-32), 3) := by decide +kernel
theorem dX11_cells_63 : decode cX11_cells 63 = .ok (.iload_n 3, 1) := by decide +kernel
theorem dX11_cells_64 : decode cX11_cells 64 = .ok (.ireturn, 1) := by decide +kernel
theorem dX11_cell_0 : decode cX11_cell 0 = .ok (.iload_n 1, 1) := by decide +kernel
theorem dX11_cell_1 : decode cX11_cell 1 = .ok (.iconst 1, 1) := by decide +kernel
theorem dX11_cell_2 : decode cX11_cell 2 = .ok (.ldc 142, 2) := by decide +kernel
theorem dX11_cell_4 : decode cX11_cell 4 = .ok (.invokestatic 93, 3) := by decide +kernel
theorem dX11_cell_7 : decode cX11_cell 7 = .ok (.ifCond .eq 17, 3) := by decide +kernel
theorem dX11_cell_10 : decode cX11_cell 10 = .ok (.iload_n 2, 1) := by decide +kernel
theorem dX11_cell_11 : decode cX11_cell 11 = .ok (.iconst 0, 1) := by decide +kernel
theorem dX11_cell_12 : decode cX11_cell 12 = .ok (.bipush 100, 2) := by decide +kernel
theorem dX11_cell_14 : decode cX11_cell 14 = .ok (.invokestatic 93, 3) := by decide +kernel
theorem dX11_cell_17 : decode cX11_cell 17 = .ok (.ifCond .eq 7, 3) := by decide +kernel
theorem dX11_cell_20 : decode cX11_cell 20 = .ok (.iload_n 3, 1) := by decide +kernel
theorem dX11_cell_21 : decode cX11_cell 21 = .ok (.ifCond .ge 6, 3) := by decide +kernel
theorem dX11_cell_24 : decode cX11_cell 24 = .ok (.bipush (-2), 2) := by decide +kernel
theorem dX11_cell_26 : decode cX11_cell 26 = .ok (.ireturn, 1) := by decide +kernel
theorem dX11_cell_27 : decode cX11_cell 27 = .ok (.iconst 0, 1) := by decide +kernel
theorem dX11_cell_28 : decode cX11_cell 28 = .ok (.istore 4, 2) := by decide +kernel
theorem dX11_cell_30 : decode cX11_cell 30 = .ok (.iconst 0, 1) := by decide +kernel
theorem dX11_cell_31 : decode cX11_cell 31 = .ok (.istore 5, 2) := by decide +kernel
theorem dX11_cell_33 : decode cX11_cell 33 = .ok (.iload 5, 2) := by decide +kernel
theorem dX11_cell_35 : decode cX11_cell 35 = .ok (.aload_n 0, 1) := by decide +kernel
theorem dX11_cell_36 : decode cX11_cell 36 = .ok (.getfield 28, 3) := by decide +kernel
theorem dX11_cell_39 : decode cX11_cell 39 = .ok (.invokevirtual 325, 3) := by decide +kernel
theorem dX11_cell_42 : decode cX11_cell 42 = .ok (.if_icmp .ge 46, 3) := by decide +kernel
theorem dX11_cell_45 : decode cX11_cell 45 = .ok (.iload_n 3, 1) := by decide +kernel
theorem dX11_cell_46 : decode cX11_cell 46 = .ok (.aload_n 0, 1) := by decide +kernel
theorem dX11_cell_47 : decode cX11_cell 47 = .ok (.getfield 28, 3) := by decide +kernel
theorem dX11_cell_50 : decode cX11_cell 50 = .ok (.invokevirtual 325, 3) := by decide +kernel
theorem dX11_cell_53 : decode cX11_cell 53 = .ok (.if_icmp .ge 35, 3) := by decide +kernel
theorem dX11_cell_56 : decode cX11_cell 56 = .ok (.aload_n 0, 1) := by decide +kernel
theorem dX11_cell_57 : decode cX11_cell 57 = .ok (.getfield 76, 3) := by decide +kernel
theorem dX11_cell_60 : decode cX11_cell 60 = .ok (.iload 5, 2) := by decide +kernel
theorem dX11_cell_62 : decode cX11_cell 62 = .ok (.iload_n 1, 1) := by decide +kernel
theorem dX11_cell_63 : decode cX11_cell 63 = .ok (.iload_n 2, 1) := by decide +kernel
theorem dX11_cell_64 : decode cX11_cell 64 = .ok (.invokevirtual 328, 3) := by decide +kernel
theorem dX11_cell_67 : decode cX11_cell 67 = .ok (.ifCond .eq 15, 3) := by decide +kernel
theorem dX11_cell_70 : decode cX11_cell 70 = .ok (.iload 4, 2) := by decide +kernel
theorem dX11_cell_72 : decode cX11_cell 72 = .ok (.iload_n 3, 1) := by decide +kernel
theorem dX11_cell_73 : decode cX11_cell 73 = .ok (.if_icmp .ne 6, 3) := by decide +kernel
theorem dX11_cell_76 : decode cX11_cell 76 = .ok (.iload 5, 2) := by decide +kernel
theorem dX11_cell_78 : decode cX11_cell 78 = .ok (.ireturn, 1) := by decide +kernel
theorem dX11_cell_79 : decode cX11_cell 79 = .ok (.iinc 4 1, 3) := by decide +kernel
theorem dX11_cell_82 : decode cX11_cell 82 = .ok (.iinc 5 1, 3) := by decide +kernel
theorem dX11_cell_85 : decode cX11_cell 85 = .ok (.goto (-52), 3) := by decide +kernel
theorem dX11_cell_88 : decode cX11_cell 88 = .ok (.iconst (-1), 1) := by decide +kernel
theorem dX11_cell_89 : decode cX11_cell 89 = .ok (.ireturn, 1) := by decide +kernel
theorem dX11_cheats_0 : decode cX11_cheats 0 = .ok (.aload_n 0, 1) := by decide +kernel
theorem dX11_cheats_1 : decode cX11_cheats 1 = .ok (.getfield 37, 3) := by decide +kernel
theorem dX11_cheats_4 : decode cX11_cheats 4 = .ok (.iload_n 1, 1) := by decide +kernel
theorem dX11_cheats_5 : decode cX11_cheats 5 = .ok (.invokevirtual 167, 3) := by decide +kernel
theorem dX11_cheats_8 : decode cX11_cheats 8 = .ok (.ifCond .eq 23, 3) := by decide +kernel
theorem dX11_cheats_11 : decode cX11_cheats 11 = .ok (.iload_n 2, 1) := by decide +kernel
theorem dX11_cheats_12 : decode cX11_cheats 12 = .ok (.iconst 0, 1) := by decide +kernel
theorem dX11_cheats_13 : decode cX11_cheats 13 = .ok (.bipush 30, 2) := by decide +kernel
theorem dX11_cheats_15 : decode cX11_cheats 15 = .ok (.invokestatic 93, 3) := by decide +kernel
theorem dX11_cheats_18 : decode cX11_cheats 18 = .ok (.ifCond .eq 13, 3) := by decide +kernel
theorem dX11_cheats_21 : decode cX11_cheats 21 = .ok (.iload_n 3, 1) := by decide +kernel
theorem dX11_cheats_22 : decode cX11_cheats 22 = .ok (.iconst 0, 1) := by decide +kernel
theorem dX11_cheats_23 : decode cX11_cheats 23 = .ok (.bipush 100, 2) := by decide +kernel
theorem dX11_cheats_25 : decode cX11_cheats 25 = .ok (.invokestatic 93, 3) := by decide +kernel
theorem dX11_cheats_28 : decode cX11_cheats 28 = .ok (.ifCond .ne 6, 3) := by decide +kernel
theorem dX11_cheats_31 : decode cX11_cheats 31 = .ok (.bipush (-2), 2) := by decide +kernel
theorem dX11_cheats_33 : decode cX11_cheats 33 = .ok (.ireturn, 1) := by decide +kernel
theorem dX11_cheats_34 : decode cX11_cheats 34 = .ok (.aload_n 0, 1) := by decide +kernel
theorem dX11_cheats_35 : decode cX11_cheats 35 = .ok (.getfield 76, 3) := by decide +kernel
theorem dX11_cheats_38 : decode cX11_cheats 38 = .ok (.invokevirtual 331, 3) := by decide +kernel
theorem dX11_cheats_41 : decode cX11_cheats 41 = .ok (.ifCond .ne 6, 3) := by decide +kernel
theorem dX11_cheats_44 : decode cX11_cheats 44 = .ok (.bipush (-3), 2) := by decide +kernel
theorem dX11_cheats_46 : decode cX11_cheats 46 = .ok (.ireturn, 1) := by decide +kernel
theorem dX11_cheats_47 : decode cX11_cheats 47 = .ok (.aload_n 0, 1) := by decide +kernel
theorem dX11_cheats_48 : decode cX11_cheats 48 = .ok (.getfield 37, 3) := by decide +kernel
theorem dX11_cheats_51 : decode cX11_cheats 51 = .ok (.iload_n 1, 1) := by decide +kernel
theorem dX11_cheats_52 : decode cX11_cheats 52 = .ok (.invokevirtual 334, 3) := by decide +kernel
theorem dX11_cheats_55 : decode cX11_cheats 55 = .ok (.istore 4, 2) := by decide +kernel
theorem dX11_cheats_57 : decode cX11_cheats 57 = .ok (.aload_n 0, 1) := by decide +kernel
theorem dX11_cheats_58 : decode cX11_cheats 58 = .ok (.getfield 37, 3) := by decide +kernel
theorem dX11_cheats_61 : decode cX11_cheats 61 = .ok (.getfield 143, 3) := by decide +kernel
theorem dX11_cheats_64 : decode cX11_cheats 64 = .ok (.iload_n 1, 1) := by decide +kernel
theorem dX11_cheats_65 : decode cX11_cheats 65 = .ok (.aaload, 1) := by decide +kernel
theorem dX11_cheats_66 : decode cX11_cheats 66 = .ok (.getfield 155, 3) := by decide +kernel
theorem dX11_cheats_69 : decode cX11_cheats 69 = .ok (.istore 5, 2) := by decide +kernel
theorem dX11_cheats_71 : decode cX11_cheats 71 = .ok (.iconst 0, 1) := by decide +kernel
theorem dX11_cheats_72 : decode cX11_cheats 72 = .ok (.istore 6, 2) := by decide +kernel
theorem dX11_cheats_74 : decode cX11_cheats 74 = .ok (.iload 6, 2) := by decide +kernel
theorem dX11_cheats_76 : decode cX11_cheats 76 = .ok (.aload_n 0, 1) := by decide +kernel
theorem dX11_cheats_77 : decode cX11_cheats 77 = .ok (.getfield 28, 3) := by decide +kernel
theorem dX11_cheats_80 : decode cX11_cheats 80 = .ok (.invokevirtual 325, 3) := by decide +kernel
theorem dX11_cheats_83 : decode cX11_cheats 83 = .ok (.if_icmp .ge 43, 3) := by decide +kernel
theorem dX11_cheats_86 : decode cX11_cheats 86 = .ok (.aload_n 0, 1) := by decide +kernel
theorem dX11_cheats_87 : decode cX11_cheats 87 = .ok (.getfield 28, 3) := by decide +kernel
theorem dX11_cheats_90 : decode cX11_cheats 90 = .ok (.iload 6, 2) := by decide +kernel
theorem dX11_cheats_92 : decode cX11_cheats 92 = .ok (.iload 4, 2) := by decide +kernel
theorem dX11_cheats_94 : decode cX11_cheats 94 = .ok (.invokevirtual 337, 3) := by decide +kernel
theorem dX11_cheats_97 : decode cX11_cheats 97 = .ok (.iload_n 2, 1) := by decide +kernel
theorem dX11_cheats_98 : decode cX11_cheats 98 = .ok (.iload_n 2, 1) := by decide +kernel
theorem dX11_cheats_99 : decode cX11_cheats 99 = .ok (.imul, 1) := by decide +kernel
theorem dX11_cheats_100 : decode cX11_cheats 100 = .ok (.if_icmp .gt 20, 3) := by decide +kernel
theorem dX11_cheats_103 : decode cX11_cheats 103 = .ok (.aload_n 0, 1) := by decide +kernel
theorem dX11_cheats_104 : decode cX11_cheats 104 = .ok (.getfield 76, 3) := by decide +kernel
theorem dX11_cheats_107 : decode cX11_cheats 107 = .ok (.iload 6, 2) := by decide +kernel
theorem dX11_cheats_109 : decode cX11_cheats 109 = .ok (.iload 5, 2) := by decide +kernel
theorem dX11_cheats_111 : decode cX11_cheats 111 = .ok (.iload_n 3, 1) := by decide +kernel
theorem dX11_cheats_112 : decode cX11_cheats 112 = .ok (.invokevirtual 328, 3) := by decide +kernel
theorem dX11_cheats_115 : decode cX11_cheats 115 = .ok (.ifCond .eq 5, 3) := by decide +kernel
theorem dX11_cheats_118 : decode cX11_cheats 118 = .ok (.iconst 0, 1) := by decide +kernel
theorem dX11_cheats_119 : decode cX11_cheats 119 = .ok (.ireturn, 1) := by decide +kernel
theorem dX11_cheats_120 : decode cX11_cheats 120 = .ok (.iinc 6 1, 3) := by decide +kernel
theorem dX11_cheats_123 : decode cX11_cheats 123 = .ok (.goto (-49), 3) := by decide +kernel
theorem dX11_cheats_126 : decode cX11_cheats 126 = .ok (.iconst 1, 1) := by decide +kernel
theorem dX11_cheats_127 : decode cX11_cheats 127 = .ok (.ireturn, 1) := by decide +kernel
theorem dX11_site_0 : decode cX11_site 0 = .ok (.aload_n 0, 1) := by decide +kernel
theorem dX11_site_1 : decode cX11_site 1 = .ok (.getfield 28, 3) := by decide +kernel
theorem dX11_site_4 : decode cX11_site 4 = .ok (.iload_n 1, 1) := by decide +kernel
theorem dX11_site_5 : decode cX11_site 5 = .ok (.i2l, 1) := by decide +kernel
theorem dX11_site_6 : decode cX11_site 6 = .ok (.invokevirtual 114, 3) := by decide +kernel
theorem dX11_site_9 : decode cX11_site 9 = .ok (.ifCond .eq 13, 3) := by decide +kernel
theorem dX11_site_12 : decode cX11_site 12 = .ok (.iload_n 2, 1) := by decide +kernel
theorem dX11_site_13 : decode cX11_site 13 = .ok (.iconst 0, 1) := by decide +kernel
theorem dX11_site_14 : decode cX11_site 14 = .ok (.bipush 20, 2) := by decide +kernel
theorem dX11_site_16 : decode cX11_site 16 = .ok (.invokestatic 93, 3) := by decide +kernel
theorem dX11_site_19 : decode cX11_site 19 = .ok (.ifCond .ne 6, 3) := by decide +kernel
theorem dX11_site_22 : decode cX11_site 22 = .ok (.bipush (-2), 2) := by decide +kernel
theorem dX11_site_24 : decode cX11_site 24 = .ok (.ireturn, 1) := by decide +kernel
theorem dX11_site_25 : decode cX11_site 25 = .ok (.iload_n 3, 1) := by decide +kernel
theorem dX11_site_26 : decode cX11_site 26 = .ok (.iconst 1, 1) := by decide +kernel
theorem dX11_site_27 : decode cX11_site 27 = .ok (.ldc 142, 2) := by decide +kernel
theorem dX11_site_29 : decode cX11_site 29 = .ok (.invokestatic 93, 3) := by decide +kernel
theorem dX11_site_32 : decode cX11_site 32 = .ok (.ifCond .eq 20, 3) := by decide +kernel
theorem dX11_site_35 : decode cX11_site 35 = .ok (.iload 4, 2) := by decide +kernel
theorem dX11_site_37 : decode cX11_site 37 = .ok (.iconst 1, 1) := by decide +kernel
theorem dX11_site_38 : decode cX11_site 38 = .ok (.ldc 142, 2) := by decide +kernel
theorem dX11_site_40 : decode cX11_site 40 = .ok (.invokestatic 93, 3) := by decide +kernel
theorem dX11_site_43 : decode cX11_site 43 = .ok (.ifCond .eq 9, 3) := by decide +kernel
theorem dX11_site_46 : decode cX11_site 46 = .ok (.iload_n 3, 1) := by decide +kernel
theorem dX11_site_47 : decode cX11_site 47 = .ok (.iload 4, 2) := by decide +kernel
theorem dX11_site_49 : decode cX11_site 49 = .ok (.if_icmp .lt 6, 3) := by decide +kernel
theorem dX11_site_52 : decode cX11_site 52 = .ok (.bipush (-2), 2) := by decide +kernel
theorem dX11_site_54 : decode cX11_site 54 = .ok (.ireturn, 1) := by decide +kernel
theorem dX11_site_55 : decode cX11_site 55 = .ok (.iload 5, 2) := by decide +kernel
theorem dX11_site_57 : decode cX11_site 57 = .ok (.iconst 1, 1) := by decide +kernel
theorem dX11_site_58 : decode cX11_site 58 = .ok (.sipush 1000, 3) := by decide +kernel
theorem dX11_site_61 : decode cX11_site 61 = .ok (.invokestatic 93, 3) := by decide +kernel
theorem dX11_site_64 : decode cX11_site 64 = .ok (.ifCond .eq 22, 3) := by decide +kernel
theorem dX11_site_67 : decode cX11_site 67 = .ok (.iload 6, 2) := by decide +kernel
theorem dX11_site_69 : decode cX11_site 69 = .ok (.iconst 1, 1) := by decide +kernel
theorem dX11_site_70 : decode cX11_site 70 = .ok (.sipush 1000, 3) := by decide +kernel
theorem dX11_site_73 : decode cX11_site 73 = .ok (.invokestatic 93, 3) := by decide +kernel
theorem dX11_site_76 : decode cX11_site 76 = .ok (.ifCond .eq 10, 3) := by decide +kernel
theorem dX11_site_79 : decode cX11_site 79 = .ok (.iload 5, 2) := by decide +kernel
theorem dX11_site_81 : decode cX11_site 81 = .ok (.iload 6, 2) := by decide +kernel
theorem dX11_site_83 : decode cX11_site 83 = .ok (.if_icmp .le 6, 3) := by decide +kernel
theorem dX11_site_86 : decode cX11_site 86 = .ok (.bipush (-2), 2) := by decide +kernel
theorem dX11_site_88 : decode cX11_site 88 = .ok (.ireturn, 1) := by decide +kernel
theorem dX11_site_89 : decode cX11_site 89 = .ok (.aload_n 0, 1) := by decide +kernel
theorem dX11_site_90 : decode cX11_site 90 = .ok (.getfield 85, 3) := by decide +kernel
theorem dX11_site_93 : decode cX11_site 93 = .ok (.getfield 102, 3) := by decide +kernel
theorem dX11_site_96 : decode cX11_site 96 = .ok (.bipush 6, 2) := by decide +kernel
theorem dX11_site_98 : decode cX11_site 98 = .ok (.if_icmp .lt 6, 3) := by decide +kernel
theorem dX11_site_101 : decode cX11_site 101 = .ok (.bipush (-4), 2) := by decide +kernel
theorem dX11_site_103 : decode cX11_site 103 = .ok (.ireturn, 1) := by decide +kernel
theorem dX11_site_104 : decode cX11_site 104 = .ok (.aload_n 0, 1) := by decide +kernel
theorem dX11_site_105 : decode cX11_site 105 = .ok (.getfield 85, 3) := by decide +kernel
theorem dX11_site_108 : decode cX11_site 108 = .ok (.iload_n 1, 1) := by decide +kernel
theorem dX11_site_109 : decode cX11_site 109 = .ok (.iload_n 2, 1) := by decide +kernel
theorem dX11_site_110 : decode cX11_site 110 = .ok (.iload_n 3, 1) := by decide +kernel
theorem dX11_site_111 : decode cX11_site 111 = .ok (.iload 4, 2) := by decide +kernel
theorem dX11_site_113 : decode cX11_site 113 = .ok (.iload 5, 2) := by decide +kernel
theorem dX11_site_115 : decode cX11_site 115 = .ok (.iload 6, 2) := by decide +kernel
theorem dX11_site_117 : decode cX11_site 117 = .ok (.invokevirtual 340, 3) := by decide +kernel
theorem dX11_site_120 : decode cX11_site 120 = .ok (.ireturn, 1) := by decide +kernel
theorem dX11_ear_0 : decode cX11_ear 0 = .ok (.aload_n 0, 1) := by decide +kernel
theorem dX11_ear_1 : decode cX11_ear 1 = .ok (.getfield 28, 3) := by decide +kernel
theorem dX11_ear_4 : decode cX11_ear 4 = .ok (.iload_n 1, 1) := by decide +kernel
theorem dX11_ear_5 : decode cX11_ear 5 = .ok (.i2l, 1) := by decide +kernel
theorem dX11_ear_6 : decode cX11_ear 6 = .ok (.invokevirtual 114, 3) := by decide +kernel
theorem dX11_ear_9 : decode cX11_ear 9 = .ok (.ifCond .eq 13, 3) := by decide +kernel
theorem dX11_ear_12 : decode cX11_ear 12 = .ok (.iload_n 2, 1) := by decide +kernel
theorem dX11_ear_13 : decode cX11_ear 13 = .ok (.iconst 1, 1) := by decide +kernel
theorem dX11_ear_14 : decode cX11_ear 14 = .ok (.bipush 100, 2) := by decide +kernel
theorem dX11_ear_16 : decode cX11_ear 16 = .ok (.invokestatic 93, 3) := by decide +kernel
theorem dX11_ear_19 : decode cX11_ear 19 = .ok (.ifCond .ne 6, 3) := by decide +kernel
theorem dX11_ear_22 : decode cX11_ear 22 = .ok (.bipush (-2), 2) := by decide +kernel
theorem dX11_ear_24 : decode cX11_ear 24 = .ok (.ireturn, 1) := by decide +kernel
theorem dX11_ear_25 : decode cX11_ear 25 = .ok (.aload_n 0, 1) := by decide +kernel
theorem dX11_ear_26 : decode cX11_ear 26 = .ok (.getfield 85, 3) := by decide +kernel
theorem dX11_ear_29 : decode cX11_ear 29 = .ok (.getfield 105, 3) := by decide +kernel
theorem dX11_ear_32 : decode cX11_ear 32 = .ok (.bipush 12, 2) := by decide +kernel
theorem dX11_ear_34 : decode cX11_ear 34 = .ok (.if_icmp .lt 8, 3) := by decide +kernel
theorem dX11_ear_37 : decode cX11_ear 37 = .ok (.bipush (-4), 2) := by decide +kernel
theorem dX11_ear_39 : decode cX11_ear 39 = .ok (.goto 12, 3) := by decide +kernel
theorem dX11_ear_42 : decode cX11_ear 42 = .ok (.aload_n 0, 1) := by decide +kernel
theorem dX11_ear_43 : decode cX11_ear 43 = .ok (.getfield 85, 3) := by decide +kernel
theorem dX11_ear_46 : decode cX11_ear 46 = .ok (.iload_n 1, 1) := by decide +kernel
theorem dX11_ear_47 : decode cX11_ear 47 = .ok (.iload_n 2, 1) := by decide +kernel
theorem dX11_ear_48 : decode cX11_ear 48 = .ok (.invokevirtual 344, 3) := by decide +kernel
theorem dX11_ear_51 : decode cX11_ear 51 = .ok (.ireturn, 1) := by decide +kernel
theorem dX11_serves_0 : decode cX11_serves 0 = .ok (.iload_n 1, 1) := by decide +kernel
theorem dX11_serves_1 : decode cX11_serves 1 = .ok (.iconst 0, 1) := by decide +kernel
theorem dX11_serves_2 : decode cX11_serves 2 = .ok (.aload_n 0, 1) := by decide +kernel
theorem dX11_serves_3 : decode cX11_serves 3 = .ok (.getfield 85, 3) := by decide +kernel
theorem dX11_serves_6 : decode cX11_serves 6 = .ok (.invokevirtual 347, 3) := by decide +kernel
theorem dX11_serves_9 : decode cX11_serves 9 = .ok (.iconst 1, 1) := by decide +kernel
theorem dX11_serves_10 : decode cX11_serves 10 = .ok (.isub, 1) := by decide +kernel
theorem dX11_serves_11 : decode cX11_serves 11 = .ok (.invokestatic 93, 3) := by decide +kernel
theorem dX11_serves_14 : decode cX11_serves 14 = .ok (.ifCond .ne 6, 3) := by decide +kernel
theorem dX11_serves_17 : decode cX11_serves 17 = .ok (.bipush (-2), 2) := by decide +kernel
theorem dX11_serves_19 : decode cX11_serves 19 = .ok (.ireturn, 1) := by decide +kernel
theorem dX11_serves_20 : decode cX11_serves 20 = .ok (.aload_n 0, 1) := by decide +kernel
theorem dX11_serves_21 : decode cX11_serves 21 = .ok (.getfield 85, 3) := by decide +kernel
theorem dX11_serves_24 : decode cX11_serves 24 = .ok (.invokevirtual 350, 3) := by decide +kernel
theorem dX11_serves_27 : decode cX11_serves 27 = .ok (.aload_n 0, 1) := by decide +kernel
theorem dX11_serves_28 : decode cX11_serves 28 = .ok (.getfield 85, 3) := by decide +kernel
theorem dX11_serves_31 : decode cX11_serves 31 = .ok (.iload_n 1, 1) := by decide +kernel
theorem dX11_serves_32 : decode cX11_serves 32 = .ok (.invokevirtual 353, 3) := by decide +kernel
theorem dX11_serves_35 : decode cX11_serves 35 = .ok (.ireturn, 1) := by decide +kernel
theorem dX11_plan_0 : decode cX11_plan 0 = .ok (.iload_n 1, 1) := by decide +kernel
theorem dX11_plan_1 : decode cX11_plan 1 = .ok (.iconst 0, 1) := by decide +kernel
theorem dX11_plan_2 : decode cX11_plan 2 = .ok (.sipush 10000, 3) := by decide +kernel
theorem dX11_plan_5 : decode cX11_plan 5 = .ok (.invokestatic 93, 3) := by decide +kernel
theorem dX11_plan_8 : decode cX11_plan 8 = .ok (.ifCond .eq 12, 3) := by decide +kernel
theorem dX11_plan_11 : decode cX11_plan 11 = .ok (.iload_n 2, 1) := by decide +kernel
theorem dX11_plan_12 : decode cX11_plan 12 = .ok (.iconst 0, 1) := by decide +kernel
theorem dX11_plan_13 : decode cX11_plan 13 = .ok (.iconst 2, 1) := by decide +kernel
theorem dX11_plan_14 : decode cX11_plan 14 = .ok (.invokestatic 93, 3) := by decide +kernel
theorem dX11_plan_17 : decode cX11_plan 17 = .ok (.ifCond .ne 6, 3) := by decide +kernel
theorem dX11_plan_20 : decode cX11_plan 20 = .ok (.bipush (-2), 2) := by decide +kernel
theorem dX11_plan_22 : decode cX11_plan 22 = .ok (.ireturn, 1) := by decide +kernel
theorem dX11_plan_23 : decode cX11_plan 23 = .ok (.aload_n 0, 1) := by decide +kernel
theorem dX11_plan_24 : decode cX11_plan 24 = .ok (.getfield 85, 3) := by decide +kernel
theorem dX11_plan_27 : decode cX11_plan 27 = .ok (.iload_n 1, 1) := by decide +kernel
theorem dX11_plan_28 : decode cX11_plan 28 = .ok (.invokevirtual 356, 3) := by decide +kernel
theorem dX11_plan_31 : decode cX11_plan 31 = .ok (.iload_n 2, 1) := by decide +kernel
theorem dX11_plan_32 : decode cX11_plan 32 = .ok (.ifCond .ne 11, 3) := by decide +kernel
theorem dX11_plan_35 : decode cX11_plan 35 = .ok (.aload_n 0, 1) := by decide +kernel
theorem dX11_plan_36 : decode cX11_plan 36 = .ok (.getfield 85, 3) := by decide +kernel
theorem dX11_plan_39 : decode cX11_plan 39 = .ok (.getfield 359, 3) := by decide +kernel
theorem dX11_plan_42 : decode cX11_plan 42 = .ok (.ireturn, 1) := by decide +kernel
theorem dX11_plan_43 : decode cX11_plan 43 = .ok (.iload_n 2, 1) := by decide +kernel
theorem dX11_plan_44 : decode cX11_plan 44 = .ok (.iconst 1, 1) := by decide +kernel
theorem dX11_plan_45 : decode cX11_plan 45 = .ok (.if_icmp .ne 13, 3) := by decide +kernel
theorem dX11_plan_48 : decode cX11_plan 48 = .ok (.aload_n 0, 1) := by decide +kernel
theorem dX11_plan_49 : decode cX11_plan 49 = .ok (.getfield 85, 3) := by decide +kernel
theorem dX11_plan_52 : decode cX11_plan 52 = .ok (.getfield 362, 3) := by decide +kernel
theorem dX11_plan_55 : decode cX11_plan 55 = .ok (.goto 10, 3) := by decide +kernel
theorem dX11_plan_58 : decode cX11_plan 58 = .ok (.aload_n 0, 1) := by decide +kernel
theorem dX11_plan_59 : decode cX11_plan 59 = .ok (.getfield 85, 3) := by decide +kernel
theorem dX11_plan_62 : decode cX11_plan 62 = .ok (.getfield 365, 3) := by decide +kernel
theorem dX11_plan_65 : decode cX11_plan 65 = .ok (.ireturn, 1) := by decide +kernel
theorem dX11_sheet_0 : decode cX11_sheet 0 = .ok (.iload_n 1, 1) := by decide +kernel
theorem dX11_sheet_1 : decode cX11_sheet 1 = .ok (.invokestatic 368, 3) := by decide +kernel
theorem dX11_sheet_4 : decode cX11_sheet 4 = .ok (.ifCond .eq 17, 3) := by decide +kernel
theorem dX11_sheet_7 : decode cX11_sheet 7 = .ok (.iload_n 2, 1) := by decide +kernel
theorem dX11_sheet_8 : decode cX11_sheet 8 = .ok (.invokestatic 371, 3) := by decide +kernel
theorem dX11_sheet_11 : decode cX11_sheet 11 = .ok (.ifCond .eq 10, 3) := by decide +kernel
theorem dX11_sheet_14 : decode cX11_sheet 14 = .ok (.iload_n 3, 1) := by decide +kernel
theorem dX11_sheet_15 : decode cX11_sheet 15 = .ok (.sipush 400, 3) := by decide +kernel
theorem dX11_sheet_18 : decode cX11_sheet 18 = .ok (.if_icmp .le 6, 3) := by decide +kernel
theorem dX11_sheet_21 : decode cX11_sheet 21 = .ok (.bipush (-2), 2) := by decide +kernel
theorem dX11_sheet_23 : decode cX11_sheet 23 = .ok (.ireturn, 1) := by decide +kernel
theorem dX11_sheet_24 : decode cX11_sheet 24 = .ok (.iload_n 3, 1) := by decide +kernel
theorem dX11_sheet_25 : decode cX11_sheet 25 = .ok (.ifCond .ge 9, 3) := by decide +kernel
theorem dX11_sheet_28 : decode cX11_sheet 28 = .ok (.aload_n 0, 1) := by decide +kernel
theorem dX11_sheet_29 : decode cX11_sheet 29 = .ok (.iconst 5, 1) := by decide +kernel
theorem dX11_sheet_30 : decode cX11_sheet 30 = .ok (.invokevirtual 374, 3) := by decide +kernel
theorem dX11_sheet_33 : decode cX11_sheet 33 = .ok (.ireturn, 1) := by decide +kernel
theorem dX11_sheet_34 : decode cX11_sheet 34 = .ok (.aload_n 0, 1) := by decide +kernel
theorem dX11_sheet_35 : decode cX11_sheet 35 = .ok (.getfield 18, 3) := by decide +kernel
theorem dX11_sheet_38 : decode cX11_sheet 38 = .ok (.iload_n 1, 1) := by decide +kernel
theorem dX11_sheet_39 : decode cX11_sheet 39 = .ok (.aaload, 1) := by decide +kernel
theorem dX11_sheet_40 : decode cX11_sheet 40 = .ok (.iload_n 2, 1) := by decide +kernel
theorem dX11_sheet_41 : decode cX11_sheet 41 = .ok (.iload_n 3, 1) := by decide +kernel
theorem dX11_sheet_42 : decode cX11_sheet 42 = .ok (.invokevirtual 377, 3) := by decide +kernel
theorem dX11_sheet_45 : decode cX11_sheet 45 = .ok (.iload_n 3, 1) := by decide +kernel
theorem dX11_sheet_46 : decode cX11_sheet 46 = .ok (.ireturn, 1) := by decide +kernel
theorem dX11_lose_0 : decode cX11_lose 0 = .ok (.iload_n 1, 1) := by decide +kernel
theorem dX11_lose_1 : decode cX11_lose 1 = .ok (.invokestatic 368, 3) := by decide +kernel
theorem dX11_lose_4 : decode cX11_lose 4 = .ok (.ifCond .ne 6, 3) := by decide +kernel
theorem dX11_lose_7 : decode cX11_lose 7 = .ok (.bipush (-2), 2) := by decide +kernel
theorem dX11_lose_9 : decode cX11_lose 9 = .ok (.ireturn, 1) := by decide +kernel
theorem dX11_lose_10 : decode cX11_lose 10 = .ok (.aload_n 0, 1) := by decide +kernel
theorem dX11_lose_11 : decode cX11_lose 11 = .ok (.getfield 18, 3) := by decide +kernel
theorem dX11_lose_14 : decode cX11_lose 14 = .ok (.iload_n 1, 1) := by decide +kernel
theorem dX11_lose_15 : decode cX11_lose 15 = .ok (.aaload, 1) := by decide +kernel
theorem dX11_lose_16 : decode cX11_lose 16 = .ok (.getfield 381, 3) := by decide +kernel
theorem dX11_lose_19 : decode cX11_lose 19 = .ok (.ifCond .eq 9, 3) := by decide +kernel
theorem dX11_lose_22 : decode cX11_lose 22 = .ok (.aload_n 0, 1) := by decide +kernel
theorem dX11_lose_23 : decode cX11_lose 23 = .ok (.iconst 1, 1) := by decide +kernel
theorem dX11_lose_24 : decode cX11_lose 24 = .ok (.invokevirtual 374, 3) := by decide +kernel
theorem dX11_lose_27 : decode cX11_lose 27 = .ok (.ireturn, 1) := by decide +kernel
theorem dX11_lose_28 : decode cX11_lose 28 = .ok (.aload_n 0, 1) := by decide +kernel
theorem dX11_lose_29 : decode cX11_lose 29 = .ok (.getfield 18, 3) := by decide +kernel
theorem dX11_lose_32 : decode cX11_lose 32 = .ok (.iload_n 1, 1) := by decide +kernel
theorem dX11_lose_33 : decode cX11_lose 33 = .ok (.aaload, 1) := by decide +kernel
theorem dX11_lose_34 : decode cX11_lose 34 = .ok (.iconst 1, 1) := by decide +kernel
theorem dX11_lose_35 : decode cX11_lose 35 = .ok (.putfield 381, 3) := by decide +kernel
theorem dX11_lose_38 : decode cX11_lose 38 = .ok (.aload_n 0, 1) := by decide +kernel
theorem dX11_lose_39 : decode cX11_lose 39 = .ok (.getfield 18, 3) := by decide +kernel
theorem dX11_lose_42 : decode cX11_lose 42 = .ok (.iload_n 1, 1) := by decide +kernel
theorem dX11_lose_43 : decode cX11_lose 43 = .ok (.aaload, 1) := by decide +kernel
theorem dX11_lose_44 : decode cX11_lose 44 = .ok (.getfield 384, 3) := by decide +kernel
theorem dX11_lose_47 : decode cX11_lose 47 = .ok (.ireturn, 1) := by decide +kernel
theorem dX11_put_0 : decode cX11_put 0 = .ok (.iload_n 1, 1) := by decide +kernel
theorem dX11_put_1 : decode cX11_put 1 = .ok (.invokestatic 368, 3) := by decide +kernel
theorem dX11_put_4 : decode cX11_put 4 = .ok (.ifCond .eq 10, 3) := by decide +kernel
theorem dX11_put_7 : decode cX11_put 7 = .ok (.iload_n 2, 1) := by decide +kernel
theorem dX11_put_8 : decode cX11_put 8 = .ok (.invokestatic 371, 3) := by decide +kernel
theorem dX11_put_11 : decode cX11_put 11 = .ok (.ifCond .ne 6, 3) := by decide +kernel
theorem dX11_put_14 : decode cX11_put 14 = .ok (.bipush (-2), 2) := by decide +kernel
theorem dX11_put_16 : decode cX11_put 16 = .ok (.ireturn, 1) := by decide +kernel
theorem dX11_put_17 : decode cX11_put 17 = .ok (.aload_n 0, 1) := by decide +kernel
theorem dX11_put_18 : decode cX11_put 18 = .ok (.getfield 18, 3) := by decide +kernel
theorem dX11_put_21 : decode cX11_put 21 = .ok (.iload_n 1, 1) := by decide +kernel
theorem dX11_put_22 : decode cX11_put 22 = .ok (.aaload, 1) := by decide +kernel
theorem dX11_put_23 : decode cX11_put 23 = .ok (.iload_n 2, 1) := by decide +kernel
theorem dX11_put_24 : decode cX11_put 24 = .ok (.iload_n 3, 1) := by decide +kernel
theorem dX11_put_25 : decode cX11_put 25 = .ok (.invokestatic 386, 3) := by decide +kernel
theorem dX11_put_28 : decode cX11_put 28 = .ok (.istore 6, 2) := by decide +kernel
theorem dX11_put_30 : decode cX11_put 30 = .ok (.iload 6, 2) := by decide +kernel
theorem dX11_put_32 : decode cX11_put 32 = .ok (.ifCond .eq 10, 3) := by decide +kernel
theorem dX11_put_35 : decode cX11_put 35 = .ok (.aload_n 0, 1) := by decide +kernel
theorem dX11_put_36 : decode cX11_put 36 = .ok (.iload 6, 2) := by decide +kernel
theorem dX11_put_38 : decode cX11_put 38 = .ok (.invokevirtual 374, 3) := by decide +kernel
theorem dX11_put_41 : decode cX11_put 41 = .ok (.ireturn, 1) := by decide +kernel
theorem dX11_put_42 : decode cX11_put 42 = .ok (.aload_n 0, 1) := by decide +kernel
theorem dX11_put_43 : decode cX11_put 43 = .ok (.getfield 18, 3) := by decide +kernel
theorem dX11_put_46 : decode cX11_put 46 = .ok (.iload_n 1, 1) := by decide +kernel
theorem dX11_put_47 : decode cX11_put 47 = .ok (.aaload, 1) := by decide +kernel
theorem dX11_put_48 : decode cX11_put 48 = .ok (.iload_n 3, 1) := by decide +kernel
theorem dX11_put_49 : decode cX11_put 49 = .ok (.lload 4, 2) := by decide +kernel
theorem dX11_put_51 : decode cX11_put 51 = .ok (.invokevirtual 390, 3) := by decide +kernel
theorem dX11_put_54 : decode cX11_put 54 = .ok (.iconst 1, 1) := by decide +kernel
theorem dX11_put_55 : decode cX11_put 55 = .ok (.ireturn, 1) := by decide +kernel
theorem dX11_get_0 : decode cX11_get 0 = .ok (.iload_n 1, 1) := by decide +kernel
theorem dX11_get_1 : decode cX11_get 1 = .ok (.invokestatic 368, 3) := by decide +kernel
theorem dX11_get_4 : decode cX11_get 4 = .ok (.ifCond .eq 10, 3) := by decide +kernel
theorem dX11_get_7 : decode cX11_get 7 = .ok (.iload_n 2, 1) := by decide +kernel
theorem dX11_get_8 : decode cX11_get 8 = .ok (.invokestatic 371, 3) := by decide +kernel
theorem dX11_get_11 : decode cX11_get 11 = .ok (.ifCond .ne 7, 3) := by decide +kernel
theorem dX11_get_14 : decode cX11_get 14 = .ok (.ldc2_w 197, 3) := by decide +kernel
theorem dX11_get_17 : decode cX11_get 17 = .ok (.lreturn, 1) := by decide +kernel
theorem dX11_get_18 : decode cX11_get 18 = .ok (.aload_n 0, 1) := by decide +kernel
theorem dX11_get_19 : decode cX11_get 19 = .ok (.getfield 18, 3) := by decide +kernel
theorem dX11_get_22 : decode cX11_get 22 = .ok (.iload_n 1, 1) := by decide +kernel
theorem dX11_get_23 : decode cX11_get 23 = .ok (.aaload, 1) := by decide +kernel
theorem dX11_get_24 : decode cX11_get 24 = .ok (.iload_n 2, 1) := by decide +kernel
theorem dX11_get_25 : decode cX11_get 25 = .ok (.iload_n 3, 1) := by decide +kernel
theorem dX11_get_26 : decode cX11_get 26 = .ok (.invokestatic 386, 3) := by decide +kernel
theorem dX11_get_29 : decode cX11_get 29 = .ok (.istore 4, 2) := by decide +kernel
theorem dX11_get_31 : decode cX11_get 31 = .ok (.iload 4, 2) := by decide +kernel
theorem dX11_get_33 : decode cX11_get 33 = .ok (.ifCond .eq 13, 3) := by decide +kernel
theorem dX11_get_36 : decode cX11_get 36 = .ok (.aload_n 0, 1) := by decide +kernel
theorem dX11_get_37 : decode cX11_get 37 = .ok (.iload 4, 2) := by decide +kernel
theorem dX11_get_39 : decode cX11_get 39 = .ok (.putfield 394, 3) := by decide +kernel
theorem dX11_get_42 : decode cX11_get 42 = .ok (.ldc2_w 197, 3) := by decide +kernel
theorem dX11_get_45 : decode cX11_get 45 = .ok (.lreturn, 1) := by decide +kernel
theorem dX11_get_46 : decode cX11_get 46 = .ok (.aload_n 0, 1) := by decide +kernel
theorem dX11_get_47 : decode cX11_get 47 = .ok (.getfield 18, 3) := by decide +kernel
theorem dX11_get_50 : decode cX11_get 50 = .ok (.iload_n 1, 1) := by decide +kernel
theorem dX11_get_51 : decode cX11_get 51 = .ok (.aaload, 1) := by decide +kernel
theorem dX11_get_52 : decode cX11_get 52 = .ok (.getfield 397, 3) := by decide +kernel
theorem dX11_get_55 : decode cX11_get 55 = .ok (.iload_n 3, 1) := by decide +kernel
theorem dX11_get_56 : decode cX11_get 56 = .ok (.laload, 1) := by decide +kernel
theorem dX11_get_57 : decode cX11_get 57 = .ok (.lreturn, 1) := by decide +kernel
theorem dX11_copy_0 : decode cX11_copy 0 = .ok (.iload_n 1, 1) := by decide +kernel
theorem dX11_copy_1 : decode cX11_copy 1 = .ok (.invokestatic 368, 3) := by decide +kernel
theorem dX11_copy_4 : decode cX11_copy 4 = .ok (.ifCond .eq 10, 3) := by decide +kernel
theorem dX11_copy_7 : decode cX11_copy 7 = .ok (.iload_n 3, 1) := by decide +kernel
theorem dX11_copy_8 : decode cX11_copy 8 = .ok (.invokestatic 368, 3) := by decide +kernel
theorem dX11_copy_11 : decode cX11_copy 11 = .ok (.ifCond .ne 6, 3) := by decide +kernel
theorem dX11_copy_14 : decode cX11_copy 14 = .ok (.bipush (-2), 2) := by decide +kernel
theorem dX11_copy_16 : decode cX11_copy 16 = .ok (.ireturn, 1) := by decide +kernel
theorem dX11_copy_17 : decode cX11_copy 17 = .ok (.aload_n 0, 1) := by decide +kernel
theorem dX11_copy_18 : decode cX11_copy 18 = .ok (.getfield 18, 3) := by decide +kernel
theorem dX11_copy_21 : decode cX11_copy 21 = .ok (.iload_n 1, 1) := by decide +kernel
theorem dX11_copy_22 : decode cX11_copy 22 = .ok (.aaload, 1) := by decide +kernel
theorem dX11_copy_23 : decode cX11_copy 23 = .ok (.astore 6, 2) := by decide +kernel
theorem dX11_copy_25 : decode cX11_copy 25 = .ok (.aload_n 0, 1) := by decide +kernel
theorem dX11_copy_26 : decode cX11_copy 26 = .ok (.getfield 18, 3) := by decide +kernel
theorem dX11_copy_29 : decode cX11_copy 29 = .ok (.iload_n 3, 1) := by decide +kernel
theorem dX11_copy_30 : decode cX11_copy 30 = .ok (.aaload, 1) := by decide +kernel
theorem dX11_copy_31 : decode cX11_copy 31 = .ok (.astore 7, 2) := by decide +kernel
theorem dX11_copy_33 : decode cX11_copy 33 = .ok (.aload 6, 2) := by decide +kernel
theorem dX11_copy_35 : decode cX11_copy 35 = .ok (.getfield 381, 3) := by decide +kernel
theorem dX11_copy_38 : decode cX11_copy 38 = .ok (.ifCond .ne 11, 3) := by decide +kernel
theorem dX11_copy_41 : decode cX11_copy 41 = .ok (.aload 7, 2) := by decide +kernel
theorem dX11_copy_43 : decode cX11_copy 43 = .ok (.getfield 381, 3) := by decide +kernel
theorem dX11_copy_46 : decode cX11_copy 46 = .ok (.ifCond .eq 9, 3) := by decide +kernel
theorem dX11_copy_49 : decode cX11_copy 49 = .ok (.aload_n 0, 1) := by decide +kernel
theorem dX11_copy_50 : decode cX11_copy 50 = .ok (.iconst 1, 1) := by decide +kernel
theorem dX11_copy_51 : decode cX11_copy 51 = .ok (.invokevirtual 374, 3) := by decide +kernel
theorem dX11_copy_54 : decode cX11_copy 54 = .ok (.ireturn, 1) := by decide +kernel
theorem dX11_copy_55 : decode cX11_copy 55 = .ok (.aload 6, 2) := by decide +kernel
theorem dX11_copy_57 : decode cX11_copy 57 = .ok (.getfield 400, 3) := by decide +kernel
theorem dX11_copy_60 : decode cX11_copy 60 = .ok (.aload 7, 2) := by decide +kernel
theorem dX11_copy_62 : decode cX11_copy 62 = .ok (.getfield 400, 3) := by decide +kernel
theorem dX11_copy_65 : decode cX11_copy 65 = .ok (.if_icmp .eq 9, 3) := by decide +kernel
theorem dX11_copy_68 : decode cX11_copy 68 = .ok (.aload_n 0, 1) := by decide +kernel
theorem dX11_copy_69 : decode cX11_copy 69 = .ok (.iconst 4, 1) := by decide +kernel
theorem dX11_copy_70 : decode cX11_copy 70 = .ok (.invokevirtual 374, 3) := by decide +kernel
theorem dX11_copy_73 : decode cX11_copy 73 = .ok (.ireturn, 1) := by decide +kernel
theorem dX11_copy_74 : decode cX11_copy 74 = .ok (.aload 6, 2) := by decide +kernel
theorem dX11_copy_76 : decode cX11_copy 76 = .ok (.iload_n 2, 1) := by decide +kernel
theorem dX11_copy_77 : decode cX11_copy 77 = .ok (.iload 5, 2) := by decide +kernel
theorem dX11_copy_79 : decode cX11_copy 79 = .ok (.invokevirtual 403, 3) := by decide +kernel
theorem dX11_copy_82 : decode cX11_copy 82 = .ok (.ifCond .eq 15, 3) := by decide +kernel
theorem dX11_copy_85 : decode cX11_copy 85 = .ok (.aload 7, 2) := by decide +kernel
theorem dX11_copy_87 : decode cX11_copy 87 = .ok (.iload 4, 2) := by decide +kernel
