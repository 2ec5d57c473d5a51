theorem dX4_mayBeTogether_35 : decode cX4_mayBeTogether 35 = .ok (.iconst 1, 1) := by decide +kernel
theorem dX4_mayBeTogether_36 : decode cX4_mayBeTogether 36 = .ok (.ireturn, 1) := by decide +kernel
theorem dX4_isHeardIn_0 : decode cX4_isHeardIn 0 = .ok (.aload_n 0, 1) := by decide +kernel
theorem dX4_isHeardIn_1 : decode cX4_isHeardIn 1 = .ok (.getfield 9, 3) := by decide +kernel
theorem dX4_isHeardIn_4 : decode cX4_isHeardIn 4 = .ok (.getfield 83, 3) := by decide +kernel
theorem dX4_isHeardIn_7 : decode cX4_isHeardIn 7 = .ok (.iconst 2, 1) := by decide +kernel
theorem dX4_isHeardIn_8 : decode cX4_isHeardIn 8 = .ok (.iaload, 1) := by decide +kernel
theorem dX4_isHeardIn_9 : decode cX4_isHeardIn 9 = .ok (.i2l, 1) := by decide +kernel
theorem dX4_isHeardIn_10 : decode cX4_isHeardIn 10 = .ok (.lstore_n 3, 1) := by decide +kernel
theorem dX4_isHeardIn_11 : decode cX4_isHeardIn 11 = .ok (.iconst 0, 1) := by decide +kernel
theorem dX4_isHeardIn_12 : decode cX4_isHeardIn 12 = .ok (.istore 5, 2) := by decide +kernel
theorem dX4_isHeardIn_14 : decode cX4_isHeardIn 14 = .ok (.iload 5, 2) := by decide +kernel
theorem dX4_isHeardIn_16 : decode cX4_isHeardIn 16 = .ok (.aload_n 0, 1) := by decide +kernel
theorem dX4_isHeardIn_17 : decode cX4_isHeardIn 17 = .ok (.getfield 51, 3) := by decide +kernel
theorem dX4_isHeardIn_20 : decode cX4_isHeardIn 20 = .ok (.if_icmp .ge 40, 3) := by decide +kernel
theorem dX4_isHeardIn_23 : decode cX4_isHeardIn 23 = .ok (.iload 5, 2) := by decide +kernel
theorem dX4_isHeardIn_25 : decode cX4_isHeardIn 25 = .ok (.iload_n 1, 1) := by decide +kernel
theorem dX4_isHeardIn_26 : decode cX4_isHeardIn 26 = .ok (.if_icmp .eq 28, 3) := by decide +kernel
theorem dX4_isHeardIn_29 : decode cX4_isHeardIn 29 = .ok (.iload_n 2, 1) := by decide +kernel
theorem dX4_isHeardIn_30 : decode cX4_isHeardIn 30 = .ok (.iload 5, 2) := by decide +kernel
theorem dX4_isHeardIn_32 : decode cX4_isHeardIn 32 = .ok (.ishr, 1) := by decide +kernel
theorem dX4_isHeardIn_33 : decode cX4_isHeardIn 33 = .ok (.iconst 1, 1) := by decide +kernel
theorem dX4_isHeardIn_34 : decode cX4_isHeardIn 34 = .ok (.iand, 1) := by decide +kernel
theorem dX4_isHeardIn_35 : decode cX4_isHeardIn 35 = .ok (.ifCond .eq 19, 3) := by decide +kernel
theorem dX4_isHeardIn_38 : decode cX4_isHeardIn 38 = .ok (.lload_n 3, 1) := by decide +kernel
theorem dX4_isHeardIn_39 : decode cX4_isHeardIn 39 = .ok (.aload_n 0, 1) := by decide +kernel
theorem dX4_isHeardIn_40 : decode cX4_isHeardIn 40 = .ok (.getfield 23, 3) := by decide +kernel
theorem dX4_isHeardIn_43 : decode cX4_isHeardIn 43 = .ok (.iload_n 1, 1) := by decide +kernel
theorem dX4_isHeardIn_44 : decode cX4_isHeardIn 44 = .ok (.bipush 8, 2) := by decide +kernel
theorem dX4_isHeardIn_46 : decode cX4_isHeardIn 46 = .ok (.imul, 1) := by decide +kernel
theorem dX4_isHeardIn_47 : decode cX4_isHeardIn 47 = .ok (.iload 5, 2) := by decide +kernel
theorem dX4_isHeardIn_49 : decode cX4_isHeardIn 49 = .ok (.iadd, 1) := by decide +kernel
theorem dX4_isHeardIn_50 : decode cX4_isHeardIn 50 = .ok (.iaload, 1) := by decide +kernel
theorem dX4_isHeardIn_51 : decode cX4_isHeardIn 51 = .ok (.i2l, 1) := by decide +kernel
theorem dX4_isHeardIn_52 : decode cX4_isHeardIn 52 = .ok (.ladd, 1) := by decide +kernel
theorem dX4_isHeardIn_53 : decode cX4_isHeardIn 53 = .ok (.lstore_n 3, 1) := by decide +kernel
theorem dX4_isHeardIn_54 : decode cX4_isHeardIn 54 = .ok (.iinc 5 1, 3) := by decide +kernel
theorem dX4_isHeardIn_57 : decode cX4_isHeardIn 57 = .ok (.goto (-43), 3) := by decide +kernel
theorem dX4_isHeardIn_60 : decode cX4_isHeardIn 60 = .ok (.aload_n 0, 1) := by decide +kernel
theorem dX4_isHeardIn_61 : decode cX4_isHeardIn 61 = .ok (.getfield 15, 3) := by decide +kernel
theorem dX4_isHeardIn_64 : decode cX4_isHeardIn 64 = .ok (.getfield 52, 3) := by decide +kernel
theorem dX4_isHeardIn_67 : decode cX4_isHeardIn 67 = .ok (.aload_n 0, 1) := by decide +kernel
theorem dX4_isHeardIn_68 : decode cX4_isHeardIn 68 = .ok (.getfield 19, 3) := by decide +kernel
theorem dX4_isHeardIn_71 : decode cX4_isHeardIn 71 = .ok (.iload_n 1, 1) := by decide +kernel
theorem dX4_isHeardIn_72 : decode cX4_isHeardIn 72 = .ok (.iaload, 1) := by decide +kernel
theorem dX4_isHeardIn_73 : decode cX4_isHeardIn 73 = .ok (.aaload, 1) := by decide +kernel
theorem dX4_isHeardIn_74 : decode cX4_isHeardIn 74 = .ok (.aload_n 0, 1) := by decide +kernel
theorem dX4_isHeardIn_75 : decode cX4_isHeardIn 75 = .ok (.getfield 23, 3) := by decide +kernel
theorem dX4_isHeardIn_78 : decode cX4_isHeardIn 78 = .ok (.iload_n 1, 1) := by decide +kernel
theorem dX4_isHeardIn_79 : decode cX4_isHeardIn 79 = .ok (.bipush 8, 2) := by decide +kernel
theorem dX4_isHeardIn_81 : decode cX4_isHeardIn 81 = .ok (.imul, 1) := by decide +kernel
theorem dX4_isHeardIn_82 : decode cX4_isHeardIn 82 = .ok (.iload_n 1, 1) := by decide +kernel
theorem dX4_isHeardIn_83 : decode cX4_isHeardIn 83 = .ok (.iadd, 1) := by decide +kernel
theorem dX4_isHeardIn_84 : decode cX4_isHeardIn 84 = .ok (.iaload, 1) := by decide +kernel
theorem dX4_isHeardIn_85 : decode cX4_isHeardIn 85 = .ok (.lload_n 3, 1) := by decide +kernel
theorem dX4_isHeardIn_86 : decode cX4_isHeardIn 86 = .ok (.invokevirtual 88, 3) := by decide +kernel
theorem dX4_isHeardIn_89 : decode cX4_isHeardIn 89 = .ok (.ireturn, 1) := by decide +kernel
theorem dX4_countSlots_0 : decode cX4_countSlots 0 = .ok (.aload_n 0, 1) := by decide +kernel
theorem dX4_countSlots_1 : decode cX4_countSlots 1 = .ok (.getfield 30, 3) := by decide +kernel
theorem dX4_countSlots_4 : decode cX4_countSlots 4 = .ok (.iconst 0, 1) := by decide +kernel
theorem dX4_countSlots_5 : decode cX4_countSlots 5 = .ok (.iconst 0, 1) := by decide +kernel
theorem dX4_countSlots_6 : decode cX4_countSlots 6 = .ok (.iastore, 1) := by decide +kernel
theorem dX4_countSlots_7 : decode cX4_countSlots 7 = .ok (.iconst 1, 1) := by decide +kernel
theorem dX4_countSlots_8 : decode cX4_countSlots 8 = .ok (.istore_n 1, 1) := by decide +kernel
theorem dX4_countSlots_9 : decode cX4_countSlots 9 = .ok (.iload_n 1, 1) := by decide +kernel
theorem dX4_countSlots_10 : decode cX4_countSlots 10 = .ok (.aload_n 0, 1) := by decide +kernel
theorem dX4_countSlots_11 : decode cX4_countSlots 11 = .ok (.invokevirtual 69, 3) := by decide +kernel
theorem dX4_countSlots_14 : decode cX4_countSlots 14 = .ok (.if_icmp .gt 77, 3) := by decide +kernel
theorem dX4_countSlots_17 : decode cX4_countSlots 17 = .ok (.iload_n 1, 1) := by decide +kernel
theorem dX4_countSlots_18 : decode cX4_countSlots 18 = .ok (.iload_n 1, 1) := by decide +kernel
theorem dX4_countSlots_19 : decode cX4_countSlots 19 = .ok (.ineg, 1) := by decide +kernel
theorem dX4_countSlots_20 : decode cX4_countSlots 20 = .ok (.iand, 1) := by decide +kernel
theorem dX4_countSlots_21 : decode cX4_countSlots 21 = .ok (.istore_n 2, 1) := by decide +kernel
theorem dX4_countSlots_22 : decode cX4_countSlots 22 = .ok (.aload_n 0, 1) := by decide +kernel
theorem dX4_countSlots_23 : decode cX4_countSlots 23 = .ok (.getfield 30, 3) := by decide +kernel
theorem dX4_countSlots_26 : decode cX4_countSlots 26 = .ok (.iload_n 1, 1) := by decide +kernel
theorem dX4_countSlots_27 : decode cX4_countSlots 27 = .ok (.bipush 99, 2) := by decide +kernel
theorem dX4_countSlots_29 : decode cX4_countSlots 29 = .ok (.iastore, 1) := by decide +kernel
theorem dX4_countSlots_30 : decode cX4_countSlots 30 = .ok (.iload_n 1, 1) := by decide +kernel
theorem dX4_countSlots_31 : decode cX4_countSlots 31 = .ok (.istore_n 3, 1) := by decide +kernel
theorem dX4_countSlots_32 : decode cX4_countSlots 32 = .ok (.iload_n 3, 1) := by decide +kernel
theorem dX4_countSlots_33 : decode cX4_countSlots 33 = .ok (.ifCond .le 52, 3) := by decide +kernel
theorem dX4_countSlots_36 : decode cX4_countSlots 36 = .ok (.iload_n 3, 1) := by decide +kernel
theorem dX4_countSlots_37 : decode cX4_countSlots 37 = .ok (.iload_n 2, 1) := by decide +kernel
theorem dX4_countSlots_38 : decode cX4_countSlots 38 = .ok (.iand, 1) := by decide +kernel
theorem dX4_countSlots_39 : decode cX4_countSlots 39 = .ok (.ifCond .eq 37, 3) := by decide +kernel
theorem dX4_countSlots_42 : decode cX4_countSlots 42 = .ok (.aload_n 0, 1) := by decide +kernel
theorem dX4_countSlots_43 : decode cX4_countSlots 43 = .ok (.getfield 26, 3) := by decide +kernel
theorem dX4_countSlots_46 : decode cX4_countSlots 46 = .ok (.iload_n 3, 1) := by decide +kernel
theorem dX4_countSlots_47 : decode cX4_countSlots 47 = .ok (.baload, 1) := by decide +kernel
theorem dX4_countSlots_48 : decode cX4_countSlots 48 = .ok (.ifCond .eq 28, 3) := by decide +kernel
theorem dX4_countSlots_51 : decode cX4_countSlots 51 = .ok (.aload_n 0, 1) := by decide +kernel
theorem dX4_countSlots_52 : decode cX4_countSlots 52 = .ok (.getfield 30, 3) := by decide +kernel
theorem dX4_countSlots_55 : decode cX4_countSlots 55 = .ok (.iload_n 1, 1) := by decide +kernel
theorem dX4_countSlots_56 : decode cX4_countSlots 56 = .ok (.aload_n 0, 1) := by decide +kernel
theorem dX4_countSlots_57 : decode cX4_countSlots 57 = .ok (.getfield 30, 3) := by decide +kernel
theorem dX4_countSlots_60 : decode cX4_countSlots 60 = .ok (.iload_n 1, 1) := by decide +kernel
theorem dX4_countSlots_61 : decode cX4_countSlots 61 = .ok (.iaload, 1) := by decide +kernel
theorem dX4_countSlots_62 : decode cX4_countSlots 62 = .ok (.iconst 1, 1) := by decide +kernel
theorem dX4_countSlots_63 : decode cX4_countSlots 63 = .ok (.aload_n 0, 1) := by decide +kernel
theorem dX4_countSlots_64 : decode cX4_countSlots 64 = .ok (.getfield 30, 3) := by decide +kernel
theorem dX4_countSlots_67 : decode cX4_countSlots 67 = .ok (.iload_n 1, 1) := by decide +kernel
theorem dX4_countSlots_68 : decode cX4_countSlots 68 = .ok (.iload_n 3, 1) := by decide +kernel
theorem dX4_countSlots_69 : decode cX4_countSlots 69 = .ok (.ixor, 1) := by decide +kernel
theorem dX4_countSlots_70 : decode cX4_countSlots 70 = .ok (.iaload, 1) := by decide +kernel
theorem dX4_countSlots_71 : decode cX4_countSlots 71 = .ok (.iadd, 1) := by decide +kernel
theorem dX4_countSlots_72 : decode cX4_countSlots 72 = .ok (.invokestatic 92, 3) := by decide +kernel
theorem dX4_countSlots_75 : decode cX4_countSlots 75 = .ok (.iastore, 1) := by decide +kernel
theorem dX4_countSlots_76 : decode cX4_countSlots 76 = .ok (.iload_n 3, 1) := by decide +kernel
theorem dX4_countSlots_77 : decode cX4_countSlots 77 = .ok (.iconst 1, 1) := by decide +kernel
theorem dX4_countSlots_78 : decode cX4_countSlots 78 = .ok (.isub, 1) := by decide +kernel
theorem dX4_countSlots_79 : decode cX4_countSlots 79 = .ok (.iload_n 1, 1) := by decide +kernel
theorem dX4_countSlots_80 : decode cX4_countSlots 80 = .ok (.iand, 1) := by decide +kernel
theorem dX4_countSlots_81 : decode cX4_countSlots 81 = .ok (.istore_n 3, 1) := by decide +kernel
theorem dX4_countSlots_82 : decode cX4_countSlots 82 = .ok (.goto (-50), 3) := by decide +kernel
theorem dX4_countSlots_85 : decode cX4_countSlots 85 = .ok (.iinc 1 1, 3) := by decide +kernel
theorem dX4_countSlots_88 : decode cX4_countSlots 88 = .ok (.goto (-79), 3) := by decide +kernel
theorem dX4_countSlots_91 : decode cX4_countSlots 91 = .ok (.return_, 1) := by decide +kernel
theorem dX4_fewestSlots_0 : decode cX4_fewestSlots 0 = .ok (.aload_n 0, 1) := by decide +kernel
theorem dX4_fewestSlots_1 : decode cX4_fewestSlots 1 = .ok (.getfield 30, 3) := by decide +kernel
theorem dX4_fewestSlots_4 : decode cX4_fewestSlots 4 = .ok (.aload_n 0, 1) := by decide +kernel
theorem dX4_fewestSlots_5 : decode cX4_fewestSlots 5 = .ok (.invokevirtual 69, 3) := by decide +kernel
theorem dX4_fewestSlots_8 : decode cX4_fewestSlots 8 = .ok (.iaload, 1) := by decide +kernel
theorem dX4_fewestSlots_9 : decode cX4_fewestSlots 9 = .ok (.bipush 99, 2) := by decide +kernel
theorem dX4_fewestSlots_11 : decode cX4_fewestSlots 11 = .ok (.if_icmp .ne 7, 3) := by decide +kernel
theorem dX4_fewestSlots_14 : decode cX4_fewestSlots 14 = .ok (.iconst (-1), 1) := by decide +kernel
theorem dX4_fewestSlots_15 : decode cX4_fewestSlots 15 = .ok (.goto 12, 3) := by decide +kernel
theorem dX4_fewestSlots_18 : decode cX4_fewestSlots 18 = .ok (.aload_n 0, 1) := by decide +kernel
theorem dX4_fewestSlots_19 : decode cX4_fewestSlots 19 = .ok (.getfield 30, 3) := by decide +kernel
theorem dX4_fewestSlots_22 : decode cX4_fewestSlots 22 = .ok (.aload_n 0, 1) := by decide +kernel
theorem dX4_fewestSlots_23 : decode cX4_fewestSlots 23 = .ok (.invokevirtual 69, 3) := by decide +kernel
theorem dX4_fewestSlots_26 : decode cX4_fewestSlots 26 = .ok (.iaload, 1) := by decide +kernel
theorem dX4_fewestSlots_27 : decode cX4_fewestSlots 27 = .ok (.ireturn, 1) := by decide +kernel
theorem dX4_divide_0 : decode cX4_divide 0 = .ok (.aload_n 0, 1) := by decide +kernel
theorem dX4_divide_1 : decode cX4_divide 1 = .ok (.getfield 33, 3) := by decide +kernel
theorem dX4_divide_4 : decode cX4_divide 4 = .ok (.iconst 0, 1) := by decide +kernel
theorem dX4_divide_5 : decode cX4_divide 5 = .ok (.invokestatic 98, 3) := by decide +kernel
theorem dX4_divide_8 : decode cX4_divide 8 = .ok (.aload_n 0, 1) := by decide +kernel
theorem dX4_divide_9 : decode cX4_divide 9 = .ok (.getfield 30, 3) := by decide +kernel
theorem dX4_divide_12 : decode cX4_divide 12 = .ok (.aload_n 0, 1) := by decide +kernel
theorem dX4_divide_13 : decode cX4_divide 13 = .ok (.invokevirtual 69, 3) := by decide +kernel
theorem dX4_divide_16 : decode cX4_divide 16 = .ok (.iaload, 1) := by decide +kernel
theorem dX4_divide_17 : decode cX4_divide 17 = .ok (.bipush 99, 2) := by decide +kernel
theorem dX4_divide_19 : decode cX4_divide 19 = .ok (.if_icmp .eq 15, 3) := by decide +kernel
theorem dX4_divide_22 : decode cX4_divide 22 = .ok (.aload_n 0, 1) := by decide +kernel
theorem dX4_divide_23 : decode cX4_divide 23 = .ok (.iconst 0, 1) := by decide +kernel
theorem dX4_divide_24 : decode cX4_divide 24 = .ok (.invokestatic 104, 3) := by decide +kernel
theorem dX4_divide_27 : decode cX4_divide 27 = .ok (.ifCond .eq 7, 3) := by decide +kernel
theorem dX4_divide_30 : decode cX4_divide 30 = .ok (.iconst 1, 1) := by decide +kernel
theorem dX4_divide_31 : decode cX4_divide 31 = .ok (.goto 4, 3) := by decide +kernel
theorem dX4_divide_34 : decode cX4_divide 34 = .ok (.iconst 0, 1) := by decide +kernel
theorem dX4_divide_35 : decode cX4_divide 35 = .ok (.ireturn, 1) := by decide +kernel
theorem dX4_place_0 : decode cX4_place 0 = .ok (.iload_n 1, 1) := by decide +kernel
theorem dX4_place_1 : decode cX4_place 1 = .ok (.aload_n 0, 1) := by decide +kernel
theorem dX4_place_2 : decode cX4_place 2 = .ok (.getfield 51, 3) := by decide +kernel
theorem dX4_place_5 : decode cX4_place 5 = .ok (.if_icmp .lt 5, 3) := by decide +kernel
theorem dX4_place_8 : decode cX4_place 8 = .ok (.iconst 1, 1) := by decide +kernel
theorem dX4_place_9 : decode cX4_place 9 = .ok (.ireturn, 1) := by decide +kernel
theorem dX4_place_10 : decode cX4_place 10 = .ok (.aload_n 0, 1) := by decide +kernel
theorem dX4_place_11 : decode cX4_place 11 = .ok (.getfield 30, 3) := by decide +kernel
theorem dX4_place_14 : decode cX4_place 14 = .ok (.aload_n 0, 1) := by decide +kernel
theorem dX4_place_15 : decode cX4_place 15 = .ok (.invokevirtual 69, 3) := by decide +kernel
theorem dX4_place_18 : decode cX4_place 18 = .ok (.iaload, 1) := by decide +kernel
theorem dX4_place_19 : decode cX4_place 19 = .ok (.istore_n 2, 1) := by decide +kernel
theorem dX4_place_20 : decode cX4_place 20 = .ok (.iconst 0, 1) := by decide +kernel
theorem dX4_place_21 : decode cX4_place 21 = .ok (.istore_n 3, 1) := by decide +kernel
theorem dX4_place_22 : decode cX4_place 22 = .ok (.iload_n 3, 1) := by decide +kernel
theorem dX4_place_23 : decode cX4_place 23 = .ok (.iload_n 2, 1) := by decide +kernel
theorem dX4_place_24 : decode cX4_place 24 = .ok (.if_icmp .ge 89, 3) := by decide +kernel
theorem dX4_place_27 : decode cX4_place 27 = .ok (.iload_n 3, 1) := by decide +kernel
theorem dX4_place_28 : decode cX4_place 28 = .ok (.bipush 8, 2) := by decide +kernel
theorem dX4_place_30 : decode cX4_place 30 = .ok (.if_icmp .ge 83, 3) := by decide +kernel
theorem dX4_place_33 : decode cX4_place 33 = .ok (.aload_n 0, 1) := by decide +kernel
theorem dX4_place_34 : decode cX4_place 34 = .ok (.getfield 26, 3) := by decide +kernel
theorem dX4_place_37 : decode cX4_place 37 = .ok (.aload_n 0, 1) := by decide +kernel
theorem dX4_place_38 : decode cX4_place 38 = .ok (.getfield 33, 3) := by decide +kernel
theorem dX4_place_41 : decode cX4_place 41 = .ok (.iload_n 3, 1) := by decide +kernel
theorem dX4_place_42 : decode cX4_place 42 = .ok (.iaload, 1) := by decide +kernel
theorem dX4_place_43 : decode cX4_place 43 = .ok (.iconst 1, 1) := by decide +kernel
theorem dX4_place_44 : decode cX4_place 44 = .ok (.iload_n 1, 1) := by decide +kernel
theorem dX4_place_45 : decode cX4_place 45 = .ok (.ishl, 1) := by decide +kernel
theorem dX4_place_46 : decode cX4_place 46 = .ok (.ior, 1) := by decide +kernel
theorem dX4_place_47 : decode cX4_place 47 = .ok (.baload, 1) := by decide +kernel
theorem dX4_place_48 : decode cX4_place 48 = .ok (.ifCond .eq 48, 3) := by decide +kernel
theorem dX4_place_51 : decode cX4_place 51 = .ok (.aload_n 0, 1) := by decide +kernel
theorem dX4_place_52 : decode cX4_place 52 = .ok (.getfield 33, 3) := by decide +kernel
theorem dX4_place_55 : decode cX4_place 55 = .ok (.iload_n 3, 1) := by decide +kernel
theorem dX4_place_56 : decode cX4_place 56 = .ok (.dup2, 1) := by decide +kernel
theorem dX4_place_57 : decode cX4_place 57 = .ok (.iaload, 1) := by decide +kernel
theorem dX4_place_58 : decode cX4_place 58 = .ok (.iconst 1, 1) := by decide +kernel
theorem dX4_place_59 : decode cX4_place 59 = .ok (.iload_n 1, 1) := by decide +kernel
theorem dX4_place_60 : decode cX4_place 60 = .ok (.ishl, 1) := by decide +kernel
theorem dX4_place_61 : decode cX4_place 61 = .ok (.ior, 1) := by decide +kernel
theorem dX4_place_62 : decode cX4_place 62 = .ok (.iastore, 1) := by decide +kernel
theorem dX4_place_63 : decode cX4_place 63 = .ok (.aload_n 0, 1) := by decide +kernel
theorem dX4_place_64 : decode cX4_place 64 = .ok (.getfield 36, 3) := by decide +kernel
theorem dX4_place_67 : decode cX4_place 67 = .ok (.iload_n 1, 1) := by decide +kernel
theorem dX4_place_68 : decode cX4_place 68 = .ok (.iload_n 3, 1) := by decide +kernel
theorem dX4_place_69 : decode cX4_place 69 = .ok (.iastore, 1) := by decide +kernel
theorem dX4_place_70 : decode cX4_place 70 = .ok (.aload_n 0, 1) := by decide +kernel
theorem dX4_place_71 : decode cX4_place 71 = .ok (.iload_n 1, 1) := by decide +kernel
theorem dX4_place_72 : decode cX4_place 72 = .ok (.iconst 1, 1) := by decide +kernel
theorem dX4_place_73 : decode cX4_place 73 = .ok (.iadd, 1) := by decide +kernel
theorem dX4_place_74 : decode cX4_place 74 = .ok (.invokestatic 104, 3) := by decide +kernel
theorem dX4_place_77 : decode cX4_place 77 = .ok (.ifCond .eq 5, 3) := by decide +kernel
theorem dX4_place_80 : decode cX4_place 80 = .ok (.iconst 1, 1) := by decide +kernel
theorem dX4_place_81 : decode cX4_place 81 = .ok (.ireturn, 1) := by decide +kernel
theorem dX4_place_82 : decode cX4_place 82 = .ok (.aload_n 0, 1) := by decide +kernel
theorem dX4_place_83 : decode cX4_place 83 = .ok (.getfield 33, 3) := by decide +kernel
theorem dX4_place_86 : decode cX4_place 86 = .ok (.iload_n 3, 1) := by decide +kernel
theorem dX4_place_87 : decode cX4_place 87 = .ok (.dup2, 1) := by decide +kernel
theorem dX4_place_88 : decode cX4_place 88 = .ok (.iaload, 1) := by decide +kernel
theorem dX4_place_89 : decode cX4_place 89 = .ok (.iconst 1, 1) := by decide +kernel
theorem dX4_place_90 : decode cX4_place 90 = .ok (.iload_n 1, 1) := by decide +kernel
theorem dX4_place_91 : decode cX4_place 91 = .ok (.ishl, 1) := by decide +kernel
theorem dX4_place_92 : decode cX4_place 92 = .ok (.iconst (-1), 1) := by decide +kernel
theorem dX4_place_93 : decode cX4_place 93 = .ok (.ixor, 1) := by decide +kernel
theorem dX4_place_94 : decode cX4_place 94 = .ok (.iand, 1) := by decide +kernel
theorem dX4_place_95 : decode cX4_place 95 = .ok (.iastore, 1) := by decide +kernel
theorem dX4_place_96 : decode cX4_place 96 = .ok (.aload_n 0, 1) := by decide +kernel
theorem dX4_place_97 : decode cX4_place 97 = .ok (.getfield 33, 3) := by decide +kernel
theorem dX4_place_100 : decode cX4_place 100 = .ok (.iload_n 3, 1) := by decide +kernel
theorem dX4_place_101 : decode cX4_place 101 = .ok (.iaload, 1) := by decide +kernel
theorem dX4_place_102 : decode cX4_place 102 = .ok (.ifCond .ne 5, 3) := by decide +kernel
theorem dX4_place_105 : decode cX4_place 105 = .ok (.iconst 0, 1) := by decide +kernel
theorem dX4_place_106 : decode cX4_place 106 = .ok (.ireturn, 1) := by decide +kernel
theorem dX4_place_107 : decode cX4_place 107 = .ok (.iinc 3 1, 3) := by decide +kernel
theorem dX4_place_110 : decode cX4_place 110 = .ok (.goto (-88), 3) := by decide +kernel
theorem dX4_place_113 : decode cX4_place 113 = .ok (.iconst 0, 1) := by decide +kernel
theorem dX4_place_114 : decode cX4_place 114 = .ok (.ireturn, 1) := by decide +kernel
theorem dX4_mostWorth_0 : decode cX4_mostWorth 0 = .ok (.iconst 0, 1) := by decide +kernel
theorem dX4_mostWorth_1 : decode cX4_mostWorth 1 = .ok (.istore_n 2, 1) := by decide +kernel
theorem dX4_mostWorth_2 : decode cX4_mostWorth 2 = .ok (.iconst 1, 1) := by decide +kernel
theorem dX4_mostWorth_3 : decode cX4_mostWorth 3 = .ok (.istore_n 3, 1) := by decide +kernel
theorem dX4_mostWorth_4 : decode cX4_mostWorth 4 = .ok (.iload_n 3, 1) := by decide +kernel
theorem dX4_mostWorth_5 : decode cX4_mostWorth 5 = .ok (.aload_n 0, 1) := by decide +kernel
theorem dX4_mostWorth_6 : decode cX4_mostWorth 6 = .ok (.invokevirtual 69, 3) := by decide +kernel
theorem dX4_mostWorth_9 : decode cX4_mostWorth 9 = .ok (.if_icmp .gt 55, 3) := by decide +kernel
theorem dX4_mostWorth_12 : decode cX4_mostWorth 12 = .ok (.aload_n 0, 1) := by decide +kernel
theorem dX4_mostWorth_13 : decode cX4_mostWorth 13 = .ok (.getfield 30, 3) := by decide +kernel
theorem dX4_mostWorth_16 : decode cX4_mostWorth 16 = .ok (.iload_n 3, 1) := by decide +kernel
theorem dX4_mostWorth_17 : decode cX4_mostWorth 17 = .ok (.iaload, 1) := by decide +kernel
theorem dX4_mostWorth_18 : decode cX4_mostWorth 18 = .ok (.iload_n 1, 1) := by decide +kernel
theorem dX4_mostWorth_19 : decode cX4_mostWorth 19 = .ok (.if_icmp .gt 39, 3) := by decide +kernel
theorem dX4_mostWorth_22 : decode cX4_mostWorth 22 = .ok (.aload_n 0, 1) := by decide +kernel
theorem dX4_mostWorth_23 : decode cX4_mostWorth 23 = .ok (.iload_n 3, 1) := by decide +kernel
theorem dX4_mostWorth_24 : decode cX4_mostWorth 24 = .ok (.invokevirtual 108, 3) := by decide +kernel
theorem dX4_mostWorth_27 : decode cX4_mostWorth 27 = .ok (.aload_n 0, 1) := by decide +kernel
theorem dX4_mostWorth_28 : decode cX4_mostWorth 28 = .ok (.iload_n 2, 1) := by decide +kernel
theorem dX4_mostWorth_29 : decode cX4_mostWorth 29 = .ok (.invokevirtual 108, 3) := by decide +kernel
theorem dX4_mostWorth_32 : decode cX4_mostWorth 32 = .ok (.isub, 1) := by decide +kernel
theorem dX4_mostWorth_33 : decode cX4_mostWorth 33 = .ok (.istore 4, 2) := by decide +kernel
theorem dX4_mostWorth_35 : decode cX4_mostWorth 35 = .ok (.iload 4, 2) := by decide +kernel
theorem dX4_mostWorth_37 : decode cX4_mostWorth 37 = .ok (.ifCond .gt 19, 3) := by decide +kernel
theorem dX4_mostWorth_40 : decode cX4_mostWorth 40 = .ok (.iload 4, 2) := by decide +kernel
theorem dX4_mostWorth_42 : decode cX4_mostWorth 42 = .ok (.ifCond .ne 16, 3) := by decide +kernel
theorem dX4_mostWorth_45 : decode cX4_mostWorth 45 = .ok (.iload_n 3, 1) := by decide +kernel
theorem dX4_mostWorth_46 : decode cX4_mostWorth 46 = .ok (.invokestatic 39, 3) := by decide +kernel
theorem dX4_mostWorth_49 : decode cX4_mostWorth 49 = .ok (.iload_n 2, 1) := by decide +kernel
theorem dX4_mostWorth_50 : decode cX4_mostWorth 50 = .ok (.invokestatic 39, 3) := by decide +kernel
theorem dX4_mostWorth_53 : decode cX4_mostWorth 53 = .ok (.if_icmp .ge 5, 3) := by decide +kernel
theorem dX4_mostWorth_56 : decode cX4_mostWorth 56 = .ok (.iload_n 3, 1) := by decide +kernel
theorem dX4_mostWorth_57 : decode cX4_mostWorth 57 = .ok (.istore_n 2, 1) := by decide +kernel
theorem dX4_mostWorth_58 : decode cX4_mostWorth 58 = .ok (.iinc 3 1, 3) := by decide +kernel
theorem dX4_mostWorth_61 : decode cX4_mostWorth 61 = .ok (.goto (-57), 3) := by decide +kernel
theorem dX4_mostWorth_64 : decode cX4_mostWorth 64 = .ok (.aload_n 0, 1) := by decide +kernel
theorem dX4_mostWorth_65 : decode cX4_mostWorth 65 = .ok (.iload_n 2, 1) := by decide +kernel
theorem dX4_mostWorth_66 : decode cX4_mostWorth 66 = .ok (.invokevirtual 111, 3) := by decide +kernel
theorem dX4_mostWorth_69 : decode cX4_mostWorth 69 = .ok (.ireturn, 1) := by decide +kernel
theorem dX4_worthOf_0 : decode cX4_worthOf 0 = .ok (.iconst 0, 1) := by decide +kernel
theorem dX4_worthOf_1 : decode cX4_worthOf 1 = .ok (.istore_n 2, 1) := by decide +kernel
theorem dX4_worthOf_2 : decode cX4_worthOf 2 = .ok (.iconst 0, 1) := by decide +kernel
theorem dX4_worthOf_3 : decode cX4_worthOf 3 = .ok (.istore_n 3, 1) := by decide +kernel
theorem dX4_worthOf_4 : decode cX4_worthOf 4 = .ok (.iload_n 3, 1) := by decide +kernel
theorem dX4_worthOf_5 : decode cX4_worthOf 5 = .ok (.aload_n 0, 1) := by decide +kernel
theorem dX4_worthOf_6 : decode cX4_worthOf 6 = .ok (.getfield 51, 3) := by decide +kernel
theorem dX4_worthOf_9 : decode cX4_worthOf 9 = .ok (.if_icmp .ge 37, 3) := by decide +kernel
theorem dX4_worthOf_12 : decode cX4_worthOf 12 = .ok (.iload_n 1, 1) := by decide +kernel
theorem dX4_worthOf_13 : decode cX4_worthOf 13 = .ok (.iload_n 3, 1) := by decide +kernel
theorem dX4_worthOf_14 : decode cX4_worthOf 14 = .ok (.ishr, 1) := by decide +kernel
theorem dX4_worthOf_15 : decode cX4_worthOf 15 = .ok (.iconst 1, 1) := by decide +kernel
theorem dX4_worthOf_16 : decode cX4_worthOf 16 = .ok (.iand, 1) := by decide +kernel
theorem dX4_worthOf_17 : decode cX4_worthOf 17 = .ok (.ifCond .eq 23, 3) := by decide +kernel
theorem dX4_worthOf_20 : decode cX4_worthOf 20 = .ok (.iload_n 2, 1) := by decide +kernel
theorem dX4_worthOf_21 : decode cX4_worthOf 21 = .ok (.aload_n 0, 1) := by decide +kernel
theorem dX4_worthOf_22 : decode cX4_worthOf 22 = .ok (.getfield 15, 3) := by decide +kernel
theorem dX4_worthOf_25 : decode cX4_worthOf 25 = .ok (.getfield 52, 3) := by decide +kernel
theorem dX4_worthOf_28 : decode cX4_worthOf 28 = .ok (.aload_n 0, 1) := by decide +kernel
theorem dX4_worthOf_29 : decode cX4_worthOf 29 = .ok (.getfield 19, 3) := by decide +kernel
theorem dX4_worthOf_32 : decode cX4_worthOf 32 = .ok (.iload_n 3, 1) := by decide +kernel
theorem dX4_worthOf_33 : decode cX4_worthOf 33 = .ok (.iaload, 1) := by decide +kernel
theorem dX4_worthOf_34 : decode cX4_worthOf 34 = .ok (.aaload, 1) := by decide +kernel
theorem dX4_worthOf_35 : decode cX4_worthOf 35 = .ok (.getfield 114, 3) := by decide +kernel
theorem dX4_worthOf_38 : decode cX4_worthOf 38 = .ok (.iadd, 1) := by decide +kernel
theorem dX4_worthOf_39 : decode cX4_worthOf 39 = .ok (.istore_n 2, 1) := by decide +kernel
theorem dX4_worthOf_40 : decode cX4_worthOf 40 = .ok (.iinc 3 1, 3) := by decide +kernel
theorem dX4_worthOf_43 : decode cX4_worthOf 43 = .ok (.goto (-39), 3) := by decide +kernel
theorem dX4_worthOf_46 : decode cX4_worthOf 46 = .ok (.iload_n 2, 1) := by decide +kernel
theorem dX4_worthOf_47 : decode cX4_worthOf 47 = .ok (.ireturn, 1) := by decide +kernel
theorem dX4_leastThatCannot_0 : decode cX4_leastThatCannot 0 = .ok (.iconst 0, 1) := by decide +kernel
theorem dX4_leastThatCannot_1 : decode cX4_leastThatCannot 1 = .ok (.istore_n 2, 1) := by decide +kernel
theorem dX4_leastThatCannot_2 : decode cX4_leastThatCannot 2 = .ok (.iconst 1, 1) := by decide +kernel
theorem dX4_leastThatCannot_3 : decode cX4_leastThatCannot 3 = .ok (.istore_n 3, 1) := by decide +kernel
theorem dX4_leastThatCannot_4 : decode cX4_leastThatCannot 4 = .ok (.iload_n 3, 1) := by decide +kernel
theorem dX4_leastThatCannot_5 : decode cX4_leastThatCannot 5 = .ok (.aload_n 0, 1) := by decide +kernel
theorem dX4_leastThatCannot_6 : decode cX4_leastThatCannot 6 = .ok (.invokevirtual 69, 3) := by decide +kernel
theorem dX4_leastThatCannot_9 : decode cX4_leastThatCannot 9 = .ok (.if_icmp .gt 48, 3) := by decide +kernel
theorem dX4_leastThatCannot_12 : decode cX4_leastThatCannot 12 = .ok (.iload_n 2, 1) := by decide +kernel
theorem dX4_leastThatCannot_13 : decode cX4_leastThatCannot 13 = .ok (.ifCond .eq 14, 3) := by decide +kernel
theorem dX4_leastThatCannot_16 : decode cX4_leastThatCannot 16 = .ok (.iload_n 3, 1) := by decide +kernel
theorem dX4_leastThatCannot_17 : decode cX4_leastThatCannot 17 = .ok (.invokestatic 39, 3) := by decide +kernel
theorem dX4_leastThatCannot_20 : decode cX4_leastThatCannot 20 = .ok (.iload_n 2, 1) := by decide +kernel
theorem dX4_leastThatCannot_21 : decode cX4_leastThatCannot 21 = .ok (.invokestatic 39, 3) := by decide +kernel
theorem dX4_leastThatCannot_24 : decode cX4_leastThatCannot 24 = .ok (.if_icmp .ge 7, 3) := by decide +kernel
theorem dX4_leastThatCannot_27 : decode cX4_leastThatCannot 27 = .ok (.iconst 1, 1) := by decide +kernel
theorem dX4_leastThatCannot_28 : decode cX4_leastThatCannot 28 = .ok (.goto 4, 3) := by decide +kernel
theorem dX4_leastThatCannot_31 : decode cX4_leastThatCannot 31 = .ok (.iconst 0, 1) := by decide +kernel
theorem dX4_leastThatCannot_32 : decode cX4_leastThatCannot 32 = .ok (.istore 4, 2) := by decide +kernel
theorem dX4_leastThatCannot_34 : decode cX4_leastThatCannot 34 = .ok (.iload 4, 2) := by decide +kernel
theorem dX4_leastThatCannot_36 : decode cX4_leastThatCannot 36 = .ok (.ifCond .eq 15, 3) := by decide +kernel
theorem dX4_leastThatCannot_39 : decode cX4_leastThatCannot 39 = .ok (.aload_n 0, 1) := by decide +kernel
theorem dX4_leastThatCannot_40 : decode cX4_leastThatCannot 40 = .ok (.getfield 30, 3) := by decide +kernel
theorem dX4_leastThatCannot_43 : decode cX4_leastThatCannot 43 = .ok (.iload_n 3, 1) := by decide +kernel
theorem dX4_leastThatCannot_44 : decode cX4_leastThatCannot 44 = .ok (.iaload, 1) := by decide +kernel
theorem dX4_leastThatCannot_45 : decode cX4_leastThatCannot 45 = .ok (.iload_n 1, 1) := by decide +kernel
theorem dX4_leastThatCannot_46 : decode cX4_leastThatCannot 46 = .ok (.if_icmp .le 5, 3) := by decide +kernel
theorem dX4_leastThatCannot_49 : decode cX4_leastThatCannot 49 = .ok (.iload_n 3, 1) := by decide +kernel
theorem dX4_leastThatCannot_50 : decode cX4_leastThatCannot 50 = .ok (.istore_n 2, 1) := by decide +kernel
theorem dX4_leastThatCannot_51 : decode cX4_leastThatCannot 51 = .ok (.iinc 3 1, 3) := by decide +kernel
theorem dX4_leastThatCannot_54 : decode cX4_leastThatCannot 54 = .ok (.goto (-50), 3) := by decide +kernel
theorem dX4_leastThatCannot_57 : decode cX4_leastThatCannot 57 = .ok (.aload_n 0, 1) := by decide +kernel
theorem dX4_leastThatCannot_58 : decode cX4_leastThatCannot 58 = .ok (.iload_n 2, 1) := by decide +kernel
theorem dX4_leastThatCannot_59 : decode cX4_leastThatCannot 59 = .ok (.invokevirtual 111, 3) := by decide +kernel
theorem dX4_leastThatCannot_62 : decode cX4_leastThatCannot 62 = .ok (.ireturn, 1) := by decide +kernel
theorem dX4_asSenders_0 : decode cX4_asSenders 0 = .ok (.iconst 0, 1) := by decide +kernel
theorem dX4_asSenders_1 : decode cX4_asSenders 1 = .ok (.istore_n 2, 1) := by decide +kernel
theorem dX4_asSenders_2 : decode cX4_asSenders 2 = .ok (.iconst 0, 1) := by decide +kernel
theorem dX4_asSenders_3 : decode cX4_asSenders 3 = .ok (.istore_n 3, 1) := by decide +kernel
theorem dX4_asSenders_4 : decode cX4_asSenders 4 = .ok (.iload_n 3, 1) := by decide +kernel
theorem dX4_asSenders_5 : decode cX4_asSenders 5 = .ok (.aload_n 0, 1) := by decide +kernel
theorem dX4_asSenders_6 : decode cX4_asSenders 6 = .ok (.getfield 51, 3) := by decide +kernel
theorem dX4_asSenders_9 : decode cX4_asSenders 9 = .ok (.if_icmp .ge 28, 3) := by decide +kernel
theorem dX4_asSenders_12 : decode cX4_asSenders 12 = .ok (.iload_n 1, 1) := by decide +kernel
theorem dX4_asSenders_13 : decode cX4_asSenders 13 = .ok (.iload_n 3, 1) := by decide +kernel
theorem dX4_asSenders_14 : decode cX4_asSenders 14 = .ok (.ishr, 1) := by decide +kernel
theorem dX4_asSenders_15 : decode cX4_asSenders 15 = .ok (.iconst 1, 1) := by decide +kernel
theorem dX4_asSenders_16 : decode cX4_asSenders 16 = .ok (.iand, 1) := by decide +kernel
theorem dX4_asSenders_17 : decode cX4_asSenders 17 = .ok (.ifCond .eq 14, 3) := by decide +kernel
theorem dX4_asSenders_20 : decode cX4_asSenders 20 = .ok (.iload_n 2, 1) := by decide +kernel
theorem dX4_asSenders_21 : decode cX4_asSenders 21 = .ok (.iconst 1, 1) := by decide +kernel
theorem dX4_asSenders_22 : decode cX4_asSenders 22 = .ok (.aload_n 0, 1) := by decide +kernel
theorem dX4_asSenders_23 : decode cX4_asSenders 23 = .ok (.getfield 19, 3) := by decide +kernel
theorem dX4_asSenders_26 : decode cX4_asSenders 26 = .ok (.iload_n 3, 1) := by decide +kernel
theorem dX4_asSenders_27 : decode cX4_asSenders 27 = .ok (.iaload, 1) := by decide +kernel
theorem dX4_asSenders_28 : decode cX4_asSenders 28 = .ok (.ishl, 1) := by decide +kernel
theorem dX4_asSenders_29 : decode cX4_asSenders 29 = .ok (.ior, 1) := by decide +kernel
theorem dX4_asSenders_30 : decode cX4_asSenders 30 = .ok (.istore_n 2, 1) := by decide +kernel
theorem dX4_asSenders_31 : decode cX4_asSenders 31 = .ok (.iinc 3 1, 3) := by decide +kernel
theorem dX4_asSenders_34 : decode cX4_asSenders 34 = .ok (.goto (-30), 3) := by decide +kernel
theorem dX4_asSenders_37 : decode cX4_asSenders 37 = .ok (.iload_n 2, 1) := by decide +kernel
theorem dX4_asSenders_38 : decode cX4_asSenders 38 = .ok (.ireturn, 1) := by decide +kernel
theorem dX5_init_0 : decode cX5_init 0 = .ok (.aload_n 0, 1) := by decide +kernel
theorem dX5_init_1 : decode cX5_init 1 = .ok (.invokespecial 3, 3) := by decide +kernel
theorem dX5_init_4 : decode cX5_init 4 = .ok (.aload_n 0, 1) := by decide +kernel
theorem dX5_init_5 : decode cX5_init 5 = .ok (.iconst 0, 1) := by decide +kernel
theorem dX5_init_6 : decode cX5_init 6 = .ok (.putfield 11, 3) := by decide +kernel
theorem dX5_init_9 : decode cX5_init 9 = .ok (.aload_n 0, 1) := by decide +kernel
theorem dX5_init_10 : decode cX5_init 10 = .ok (.iconst 1, 1) := by decide +kernel
theorem dX5_init_11 : decode cX5_init 11 = .ok (.putfield 15, 3) := by decide +kernel
theorem dX5_init_14 : decode cX5_init 14 = .ok (.aload_n 0, 1) := by decide +kernel
theorem dX5_init_15 : decode cX5_init 15 = .ok (.iconst 1, 1) := by decide +kernel
theorem dX5_init_16 : decode cX5_init 16 = .ok (.putfield 18, 3) := by decide +kernel
theorem dX5_init_19 : decode cX5_init 19 = .ok (.aload_n 0, 1) := by decide +kernel
theorem dX5_init_20 : decode cX5_init 20 = .ok (.iconst (-1), 1) := by decide +kernel
theorem dX5_init_21 : decode cX5_init 21 = .ok (.putfield 21, 3) := by decide +kernel
theorem dX5_init_24 : decode cX5_init 24 = .ok (.aload_n 0, 1) := by decide +kernel
theorem dX5_init_25 : decode cX5_init 25 = .ok (.iconst 1, 1) := by decide +kernel
theorem dX5_init_26 : decode cX5_init 26 = .ok (.putfield 24, 3) := by decide +kernel
theorem dX5_init_29 : decode cX5_init 29 = .ok (.return_, 1) := by decide +kernel
theorem dX5_isHopping_0 : decode cX5_isHopping 0 = .ok (.aload_n 0, 1) := by decide +kernel
theorem dX5_isHopping_1 : decode cX5_isHopping 1 = .ok (.getfield 11, 3) := by decide +kernel
theorem dX5_isHopping_4 : decode cX5_isHopping 4 = .ok (.iconst 2, 1) := by decide +kernel
theorem dX5_isHopping_5 : decode cX5_isHopping 5 = .ok (.if_icmp .eq 11, 3) := by decide +kernel
theorem dX5_isHopping_8 : decode cX5_isHopping 8 = .ok (.aload_n 0, 1) := by decide +kernel
theorem dX5_isHopping_9 : decode cX5_isHopping 9 = .ok (.getfield 11, 3) := by decide +kernel
theorem dX5_isHopping_12 : decode cX5_isHopping 12 = .ok (.iconst 5, 1) := by decide +kernel
theorem dX5_isHopping_13 : decode cX5_isHopping 13 = .ok (.if_icmp .ne 7, 3) := by decide +kernel
theorem dX5_isHopping_16 : decode cX5_isHopping 16 = .ok (.iconst 1, 1) := by decide +kernel
theorem dX5_isHopping_17 : decode cX5_isHopping 17 = .ok (.goto 4, 3) := by decide +kernel
theorem dX5_isHopping_20 : decode cX5_isHopping 20 = .ok (.iconst 0, 1) := by decide +kernel
theorem dX5_isHopping_21 : decode cX5_isHopping 21 = .ok (.ireturn, 1) := by decide +kernel
theorem dX5_ownMood_0 : decode cX5_ownMood 0 = .ok (.aload_n 0, 1) := by decide +kernel
theorem dX5_ownMood_1 : decode cX5_ownMood 1 = .ok (.getfield 11, 3) := by decide +kernel
theorem dX5_ownMood_4 : decode cX5_ownMood 4 = .ok (.iconst 4, 1) := by decide +kernel
theorem dX5_ownMood_5 : decode cX5_ownMood 5 = .ok (.if_icmp .ne 7, 3) := by decide +kernel
theorem dX5_ownMood_8 : decode cX5_ownMood 8 = .ok (.iconst 1, 1) := by decide +kernel
theorem dX5_ownMood_9 : decode cX5_ownMood 9 = .ok (.goto 4, 3) := by decide +kernel
theorem dX5_ownMood_12 : decode cX5_ownMood 12 = .ok (.iconst 0, 1) := by decide +kernel
theorem dX5_ownMood_13 : decode cX5_ownMood 13 = .ok (.ireturn, 1) := by decide +kernel
theorem dX5_isEnough_0 : decode cX5_isEnough 0 = .ok (.ldc2_w 28, 3) := by decide +kernel
theorem dX5_isEnough_3 : decode cX5_isEnough 3 = .ok (.iload_n 1, 1) := by decide +kernel
theorem dX5_isEnough_4 : decode cX5_isEnough 4 = .ok (.i2l, 1) := by decide +kernel
theorem dX5_isEnough_5 : decode cX5_isEnough 5 = .ok (.lmul, 1) := by decide +kernel
theorem dX5_isEnough_6 : decode cX5_isEnough 6 = .ok (.aload_n 0, 1) := by decide +kernel
theorem dX5_isEnough_7 : decode cX5_isEnough 7 = .ok (.getfield 30, 3) := by decide +kernel
theorem dX5_isEnough_10 : decode cX5_isEnough 10 = .ok (.i2l, 1) := by decide +kernel
theorem dX5_isEnough_11 : decode cX5_isEnough 11 = .ok (.lload_n 2, 1) := by decide +kernel
theorem dX5_isEnough_12 : decode cX5_isEnough 12 = .ok (.lmul, 1) := by decide +kernel
theorem dX5_isEnough_13 : decode cX5_isEnough 13 = .ok (.lcmp, 1) := by decide +kernel
theorem dX5_isEnough_14 : decode cX5_isEnough 14 = .ok (.ifCond .lt 7, 3) := by decide +kernel
theorem dX5_isEnough_17 : decode cX5_isEnough 17 = .ok (.iconst 1, 1) := by decide +kernel
theorem dX5_isEnough_18 : decode cX5_isEnough 18 = .ok (.goto 4, 3) := by decide +kernel
theorem dX5_isEnough_21 : decode cX5_isEnough 21 = .ok (.iconst 0, 1) := by decide +kernel
theorem dX5_isEnough_22 : decode cX5_isEnough 22 = .ok (.ireturn, 1) := by decide +kernel
theorem dX5_replace_0 : decode cX5_replace 0 = .ok (.aload_n 0, 1) := by decide +kernel
theorem dX5_replace_1 : decode cX5_replace 1 = .ok (.iload_n 1, 1) := by decide +kernel
theorem dX5_replace_2 : decode cX5_replace 2 = .ok (.iload_n 2, 1) := by decide +kernel
theorem dX5_replace_3 : decode cX5_replace 3 = .ok (.invokevirtual 33, 3) := by decide +kernel
theorem dX5_replace_6 : decode cX5_replace 6 = .ok (.ifCond .ne 6, 3) := by decide +kernel
theorem dX5_replace_9 : decode cX5_replace 9 = .ok (.bipush (-2), 2) := by decide +kernel
theorem dX5_replace_11 : decode cX5_replace 11 = .ok (.ireturn, 1) := by decide +kernel
theorem dX5_replace_12 : decode cX5_replace 12 = .ok (.iload_n 1, 1) := by decide +kernel
theorem dX5_replace_13 : decode cX5_replace 13 = .ok (.tableswitch 79 0 3 #[31, 43, 55, 67], 31) := by decide +kernel
theorem dX5_replace_44 : decode cX5_replace 44 = .ok (.aload_n 0, 1) := by decide +kernel
theorem dX5_replace_45 : decode cX5_replace 45 = .ok (.getfield 37, 3) := by decide +kernel
theorem dX5_replace_48 : decode cX5_replace 48 = .ok (.istore_n 3, 1) := by decide +kernel
theorem dX5_replace_49 : decode cX5_replace 49 = .ok (.aload_n 0, 1) := by decide +kernel
theorem dX5_replace_50 : decode cX5_replace 50 = .ok (.iload_n 2, 1) := by decide +kernel
theorem dX5_replace_51 : decode cX5_replace 51 = .ok (.putfield 37, 3) := by decide +kernel
theorem dX5_replace_54 : decode cX5_replace 54 = .ok (.iload_n 3, 1) := by decide +kernel
theorem dX5_replace_55 : decode cX5_replace 55 = .ok (.ireturn, 1) := by decide +kernel
theorem dX5_replace_56 : decode cX5_replace 56 = .ok (.aload_n 0, 1) := by decide +kernel
theorem dX5_replace_57 : decode cX5_replace 57 = .ok (.getfield 15, 3) := by decide +kernel
theorem dX5_replace_60 : decode cX5_replace 60 = .ok (.istore_n 3, 1) := by decide +kernel
theorem dX5_replace_61 : decode cX5_replace 61 = .ok (.aload_n 0, 1) := by decide +kernel
theorem dX5_replace_62 : decode cX5_replace 62 = .ok (.iload_n 2, 1) := by decide +kernel
theorem dX5_replace_63 : decode cX5_replace 63 = .ok (.putfield 15, 3) := by decide +kernel
theorem dX5_replace_66 : decode cX5_replace 66 = .ok (.iload_n 3, 1) := by decide +kernel
theorem dX5_replace_67 : decode cX5_replace 67 = .ok (.ireturn, 1) := by decide +kernel
theorem dX5_replace_68 : decode cX5_replace 68 = .ok (.aload_n 0, 1) := by decide +kernel
theorem dX5_replace_69 : decode cX5_replace 69 = .ok (.getfield 40, 3) := by decide +kernel
theorem dX5_replace_72 : decode cX5_replace 72 = .ok (.istore_n 3, 1) := by decide +kernel
theorem dX5_replace_73 : decode cX5_replace 73 = .ok (.aload_n 0, 1) := by decide +kernel
theorem dX5_replace_74 : decode cX5_replace 74 = .ok (.iload_n 2, 1) := by decide +kernel
theorem dX5_replace_75 : decode cX5_replace 75 = .ok (.putfield 40, 3) := by decide +kernel
theorem dX5_replace_78 : decode cX5_replace 78 = .ok (.iload_n 3, 1) := by decide +kernel
theorem dX5_replace_79 : decode cX5_replace 79 = .ok (.ireturn, 1) := by decide +kernel
theorem dX5_replace_80 : decode cX5_replace 80 = .ok (.aload_n 0, 1) := by decide +kernel
theorem dX5_replace_81 : decode cX5_replace 81 = .ok (.getfield 18, 3) := by decide +kernel
theorem dX5_replace_84 : decode cX5_replace 84 = .ok (.istore_n 3, 1) := by decide +kernel
theorem dX5_replace_85 : decode cX5_replace 85 = .ok (.aload_n 0, 1) := by decide +kernel
theorem dX5_replace_86 : decode cX5_replace 86 = .ok (.iload_n 2, 1) := by decide +kernel
theorem dX5_replace_87 : decode cX5_replace 87 = .ok (.putfield 18, 3) := by decide +kernel
theorem dX5_replace_90 : decode cX5_replace 90 = .ok (.iload_n 3, 1) := by decide +kernel
theorem dX5_replace_91 : decode cX5_replace 91 = .ok (.ireturn, 1) := by decide +kernel
theorem dX5_replace_92 : decode cX5_replace 92 = .ok (.aload_n 0, 1) := by decide +kernel
theorem dX5_replace_93 : decode cX5_replace 93 = .ok (.getfield 21, 3) := by decide +kernel
theorem dX5_replace_96 : decode cX5_replace 96 = .ok (.istore_n 3, 1) := by decide +kernel
theorem dX5_replace_97 : decode cX5_replace 97 = .ok (.aload_n 0, 1) := by decide +kernel
theorem dX5_replace_98 : decode cX5_replace 98 = .ok (.iload_n 2, 1) := by decide +kernel
theorem dX5_replace_99 : decode cX5_replace 99 = .ok (.putfield 21, 3) := by decide +kernel
theorem dX5_replace_102 : decode cX5_replace 102 = .ok (.iload_n 3, 1) := by decide +kernel
theorem dX5_replace_103 : decode cX5_replace 103 = .ok (.ireturn, 1) := by decide +kernel
theorem dX5_mayBecome_0 : decode cX5_mayBecome 0 = .ok (.iload_n 1, 1) := by decide +kernel
theorem dX5_mayBecome_1 : decode cX5_mayBecome 1 = .ok (.tableswitch 106 0 4 #[35, 43, 52, 60, 83], 35) := by decide +kernel
theorem dX5_mayBecome_36 : decode cX5_mayBecome 36 = .ok (.iload_n 2, 1) := by decide +kernel
theorem dX5_mayBecome_37 : decode cX5_mayBecome 37 = .ok (.iconst 1, 1) := by decide +kernel
theorem dX5_mayBecome_38 : decode cX5_mayBecome 38 = .ok (.ldc 43, 2) := by decide +kernel
theorem dX5_mayBecome_40 : decode cX5_mayBecome 40 = .ok (.invokestatic 44, 3) := by decide +kernel
theorem dX5_mayBecome_43 : decode cX5_mayBecome 43 = .ok (.ireturn, 1) := by decide +kernel
theorem dX5_mayBecome_44 : decode cX5_mayBecome 44 = .ok (.iload_n 2, 1) := by decide +kernel
theorem dX5_mayBecome_45 : decode cX5_mayBecome 45 = .ok (.iconst 0, 1) := by decide +kernel
theorem dX5_mayBecome_46 : decode cX5_mayBecome 46 = .ok (.sipush 1000, 3) := by decide +kernel
theorem dX5_mayBecome_49 : decode cX5_mayBecome 49 = .ok (.invokestatic 44, 3) := by decide +kernel
theorem dX5_mayBecome_52 : decode cX5_mayBecome 52 = .ok (.ireturn, 1) := by decide +kernel
theorem dX5_mayBecome_53 : decode cX5_mayBecome 53 = .ok (.iload_n 2, 1) := by decide +kernel
theorem dX5_mayBecome_54 : decode cX5_mayBecome 54 = .ok (.iconst 0, 1) := by decide +kernel
theorem dX5_mayBecome_55 : decode cX5_mayBecome 55 = .ok (.bipush 11, 2) := by decide +kernel
theorem dX5_mayBecome_57 : decode cX5_mayBecome 57 = .ok (.invokestatic 44, 3) := by decide +kernel
theorem dX5_mayBecome_60 : decode cX5_mayBecome 60 = .ok (.ireturn, 1) := by decide +kernel
theorem dX5_mayBecome_61 : decode cX5_mayBecome 61 = .ok (.aload_n 0, 1) := by decide +kernel
theorem dX5_mayBecome_62 : decode cX5_mayBecome 62 = .ok (.invokevirtual 48, 3) := by decide +kernel
theorem dX5_mayBecome_65 : decode cX5_mayBecome 65 = .ok (.ifCond .eq 17, 3) := by decide +kernel
theorem dX5_mayBecome_68 : decode cX5_mayBecome 68 = .ok (.iload_n 2, 1) := by decide +kernel
theorem dX5_mayBecome_69 : decode cX5_mayBecome 69 = .ok (.iconst 0, 1) := by decide +kernel
theorem dX5_mayBecome_70 : decode cX5_mayBecome 70 = .ok (.bipush 11, 2) := by decide +kernel
theorem dX5_mayBecome_72 : decode cX5_mayBecome 72 = .ok (.invokestatic 44, 3) := by decide +kernel
theorem dX5_mayBecome_75 : decode cX5_mayBecome 75 = .ok (.ifCond .eq 7, 3) := by decide +kernel
theorem dX5_mayBecome_78 : decode cX5_mayBecome 78 = .ok (.iconst 1, 1) := by decide +kernel
theorem dX5_mayBecome_79 : decode cX5_mayBecome 79 = .ok (.goto 4, 3) := by decide +kernel
theorem dX5_mayBecome_82 : decode cX5_mayBecome 82 = .ok (.iconst 0, 1) := by decide +kernel
theorem dX5_mayBecome_83 : decode cX5_mayBecome 83 = .ok (.ireturn, 1) := by decide +kernel
theorem dX5_mayBecome_84 : decode cX5_mayBecome 84 = .ok (.aload_n 0, 1) := by decide +kernel
theorem dX5_mayBecome_85 : decode cX5_mayBecome 85 = .ok (.getfield 11, 3) := by decide +kernel
theorem dX5_mayBecome_88 : decode cX5_mayBecome 88 = .ok (.iconst 1, 1) := by decide +kernel
theorem dX5_mayBecome_89 : decode cX5_mayBecome 89 = .ok (.if_icmp .ne 16, 3) := by decide +kernel
theorem dX5_mayBecome_92 : decode cX5_mayBecome 92 = .ok (.iload_n 2, 1) := by decide +kernel
theorem dX5_mayBecome_93 : decode cX5_mayBecome 93 = .ok (.iconst (-1), 1) := by decide +kernel
theorem dX5_mayBecome_94 : decode cX5_mayBecome 94 = .ok (.iconst 5, 1) := by decide +kernel
theorem dX5_mayBecome_95 : decode cX5_mayBecome 95 = .ok (.invokestatic 44, 3) := by decide +kernel
theorem dX5_mayBecome_98 : decode cX5_mayBecome 98 = .ok (.ifCond .eq 7, 3) := by decide +kernel
theorem dX5_mayBecome_101 : decode cX5_mayBecome 101 = .ok (.iconst 1, 1) := by decide +kernel
theorem dX5_mayBecome_102 : decode cX5_mayBecome 102 = .ok (.goto 4, 3) := by decide +kernel
theorem dX5_mayBecome_105 : decode cX5_mayBecome 105 = .ok (.iconst 0, 1) := by decide +kernel
theorem dX5_mayBecome_106 : decode cX5_mayBecome 106 = .ok (.ireturn, 1) := by decide +kernel
theorem dX5_mayBecome_107 : decode cX5_mayBecome 107 = .ok (.iconst 0, 1) := by decide +kernel
theorem dX5_mayBecome_108 : decode cX5_mayBecome 108 = .ok (.ireturn, 1) := by decide +kernel
theorem dX6_init_0 : decode cX6_init 0 = .ok (.aload_n 0, 1) := by decide +kernel
theorem dX6_init_1 : decode cX6_init 1 = .ok (.invokespecial 1, 3) := by decide +kernel
theorem dX6_init_4 : decode cX6_init 4 = .ok (.aload_n 0, 1) := by decide +kernel
theorem dX6_init_5 : decode cX6_init 5 = .ok (.sipush 400, 3) := by decide +kernel
theorem dX6_init_8 : decode cX6_init 8 = .ok (.newarray .long, 2) := by decide +kernel
theorem dX6_init_10 : decode cX6_init 10 = .ok (.putfield 9, 3) := by decide +kernel
theorem dX6_init_13 : decode cX6_init 13 = .ok (.aload_n 0, 1) := by decide +kernel
theorem dX6_init_14 : decode cX6_init 14 = .ok (.iconst 1, 1) := by decide +kernel
theorem dX6_init_15 : decode cX6_init 15 = .ok (.putfield 13, 3) := by decide +kernel
theorem dX6_init_18 : decode cX6_init 18 = .ok (.return_, 1) := by decide +kernel
theorem dX6_renew_0 : decode cX6_renew 0 = .ok (.aload_n 0, 1) := by decide +kernel
theorem dX6_renew_1 : decode cX6_renew 1 = .ok (.iconst 0, 1) := by decide +kernel
theorem dX6_renew_2 : decode cX6_renew 2 = .ok (.putfield 13, 3) := by decide +kernel
theorem dX6_renew_5 : decode cX6_renew 5 = .ok (.aload_n 0, 1) := by decide +kernel
theorem dX6_renew_6 : decode cX6_renew 6 = .ok (.iload_n 1, 1) := by decide +kernel
theorem dX6_renew_7 : decode cX6_renew 7 = .ok (.putfield 17, 3) := by decide +kernel
theorem dX6_renew_10 : decode cX6_renew 10 = .ok (.aload_n 0, 1) := by decide +kernel
theorem dX6_renew_11 : decode cX6_renew 11 = .ok (.iload_n 2, 1) := by decide +kernel
theorem dX6_renew_12 : decode cX6_renew 12 = .ok (.putfield 21, 3) := by decide +kernel
theorem dX6_renew_15 : decode cX6_renew 15 = .ok (.aload_n 0, 1) := by decide +kernel
theorem dX6_renew_16 : decode cX6_renew 16 = .ok (.getfield 9, 3) := by decide +kernel
theorem dX6_renew_19 : decode cX6_renew 19 = .ok (.lconst 0, 1) := by decide +kernel
theorem dX6_renew_20 : decode cX6_renew 20 = .ok (.invokestatic 24, 3) := by decide +kernel
theorem dX6_renew_23 : decode cX6_renew 23 = .ok (.return_, 1) := by decide +kernel
theorem dX6_holds_0 : decode cX6_holds 0 = .ok (.aload_n 0, 1) := by decide +kernel
theorem dX6_holds_1 : decode cX6_holds 1 = .ok (.getfield 13, 3) := by decide +kernel
theorem dX6_holds_4 : decode cX6_holds 4 = .ok (.ifCond .ne 33, 3) := by decide +kernel
theorem dX6_holds_7 : decode cX6_holds 7 = .ok (.iload_n 1, 1) := by decide +kernel
theorem dX6_holds_8 : decode cX6_holds 8 = .ok (.ifCond .lt 29, 3) := by decide +kernel
theorem dX6_holds_11 : decode cX6_holds 11 = .ok (.iload_n 2, 1) := by decide +kernel
theorem dX6_holds_12 : decode cX6_holds 12 = .ok (.ifCond .lt 25, 3) := by decide +kernel
theorem dX6_holds_15 : decode cX6_holds 15 = .ok (.iload_n 1, 1) := by decide +kernel
theorem dX6_holds_16 : decode cX6_holds 16 = .ok (.aload_n 0, 1) := by decide +kernel
theorem dX6_holds_17 : decode cX6_holds 17 = .ok (.getfield 21, 3) := by decide +kernel
theorem dX6_holds_20 : decode cX6_holds 20 = .ok (.if_icmp .gt 17, 3) := by decide +kernel
theorem dX6_holds_23 : decode cX6_holds 23 = .ok (.iload_n 2, 1) := by decide +kernel
theorem dX6_holds_24 : decode cX6_holds 24 = .ok (.aload_n 0, 1) := by decide +kernel
theorem dX6_holds_25 : decode cX6_holds 25 = .ok (.getfield 21, 3) := by decide +kernel
theorem dX6_holds_28 : decode cX6_holds 28 = .ok (.iload_n 1, 1) := by decide +kernel
theorem dX6_holds_29 : decode cX6_holds 29 = .ok (.isub, 1) := by decide +kernel
theorem dX6_holds_30 : decode cX6_holds 30 = .ok (.if_icmp .gt 7, 3) := by decide +kernel
theorem dX6_holds_33 : decode cX6_holds 33 = .ok (.iconst 1, 1) := by decide +kernel
theorem dX6_holds_34 : decode cX6_holds 34 = .ok (.goto 4, 3) := by decide +kernel
theorem dX6_holds_37 : decode cX6_holds 37 = .ok (.iconst 0, 1) := by decide +kernel
theorem dX6_holds_38 : decode cX6_holds 38 = .ok (.ireturn, 1) := by decide +kernel
theorem dX6_store_0 : decode cX6_store 0 = .ok (.aload_n 0, 1) := by decide +kernel
theorem dX6_store_1 : decode cX6_store 1 = .ok (.getfield 17, 3) := by decide +kernel
theorem dX6_store_4 : decode cX6_store 4 = .ok (.ifCond .ne 16, 3) := by decide +kernel
theorem dX6_store_7 : decode cX6_store 7 = .ok (.aload_n 0, 1) := by decide +kernel
theorem dX6_store_8 : decode cX6_store 8 = .ok (.getfield 9, 3) := by decide +kernel
theorem dX6_store_11 : decode cX6_store 11 = .ok (.iload_n 1, 1) := by decide +kernel
theorem dX6_store_12 : decode cX6_store 12 = .ok (.lload_n 2, 1) := by decide +kernel
theorem dX6_store_13 : decode cX6_store 13 = .ok (.l2i, 1) := by decide +kernel
theorem dX6_store_14 : decode cX6_store 14 = .ok (.i2b, 1) := by decide +kernel
theorem dX6_store_15 : decode cX6_store 15 = .ok (.i2l, 1) := by decide +kernel
theorem dX6_store_16 : decode cX6_store 16 = .ok (.lastore, 1) := by decide +kernel
theorem dX6_store_17 : decode cX6_store 17 = .ok (.goto 51, 3) := by decide +kernel
theorem dX6_store_20 : decode cX6_store 20 = .ok (.aload_n 0, 1) := by decide +kernel
theorem dX6_store_21 : decode cX6_store 21 = .ok (.getfield 17, 3) := by decide +kernel
theorem dX6_store_24 : decode cX6_store 24 = .ok (.iconst 1, 1) := by decide +kernel
theorem dX6_store_25 : decode cX6_store 25 = .ok (.if_icmp .ne 16, 3) := by decide +kernel
theorem dX6_store_28 : decode cX6_store 28 = .ok (.aload_n 0, 1) := by decide +kernel
theorem dX6_store_29 : decode cX6_store 29 = .ok (.getfield 9, 3) := by decide +kernel
theorem dX6_store_32 : decode cX6_store 32 = .ok (.iload_n 1, 1) := by decide +kernel
theorem dX6_store_33 : decode cX6_store 33 = .ok (.lload_n 2, 1) := by decide +kernel
theorem dX6_store_34 : decode cX6_store 34 = .ok (.l2i, 1) := by decide +kernel
theorem dX6_store_35 : decode cX6_store 35 = .ok (.i2s, 1) := by decide +kernel
theorem dX6_store_36 : decode cX6_store 36 = .ok (.i2l, 1) := by decide +kernel
theorem dX6_store_37 : decode cX6_store 37 = .ok (.lastore, 1) := by decide +kernel
theorem dX6_store_38 : decode cX6_store 38 = .ok (.goto 30, 3) := by decide +kernel
theorem dX6_store_41 : decode cX6_store 41 = .ok (.aload_n 0, 1) := by decide +kernel
theorem dX6_store_42 : decode cX6_store 42 = .ok (.getfield 17, 3) := by decide +kernel
theorem dX6_store_45 : decode cX6_store 45 = .ok (.iconst 2, 1) := by decide +kernel
theorem dX6_store_46 : decode cX6_store 46 = .ok (.if_icmp .ne 15, 3) := by decide +kernel
theorem dX6_store_49 : decode cX6_store 49 = .ok (.aload_n 0, 1) := by decide +kernel
theorem dX6_store_50 : decode cX6_store 50 = .ok (.getfield 9, 3) := by decide +kernel
theorem dX6_store_53 : decode cX6_store 53 = .ok (.iload_n 1, 1) := by decide +kernel
theorem dX6_store_54 : decode cX6_store 54 = .ok (.lload_n 2, 1) := by decide +kernel
theorem dX6_store_55 : decode cX6_store 55 = .ok (.l2i, 1) := by decide +kernel
theorem dX6_store_56 : decode cX6_store 56 = .ok (.i2l, 1) := by decide +kernel
theorem dX6_store_57 : decode cX6_store 57 = .ok (.lastore, 1) := by decide +kernel
theorem dX6_store_58 : decode cX6_store 58 = .ok (.goto 10, 3) := by decide +kernel
theorem dX6_store_61 : decode cX6_store 61 = .ok (.aload_n 0, 1) := by decide +kernel
theorem dX6_store_62 : decode cX6_store 62 = .ok (.getfield 9, 3) := by decide +kernel
theorem dX6_store_65 : decode cX6_store 65 = .ok (.iload_n 1, 1) := by decide +kernel
theorem dX6_store_66 : decode cX6_store 66 = .ok (.lload_n 2, 1) := by decide +kernel
theorem dX6_store_67 : decode cX6_store 67 = .ok (.lastore, 1) := by decide +kernel
theorem dX6_store_68 : decode cX6_store 68 = .ok (.return_, 1) := by decide +kernel
theorem dX7_init_0 : decode cX7_init 0 = .ok (.aload_n 0, 1) := by decide +kernel
theorem dX7_init_1 : decode cX7_init 1 = .ok (.invokespecial 5, 3) := by decide +kernel
theorem dX7_init_4 : decode cX7_init 4 = .ok (.aload_n 0, 1) := by decide +kernel
theorem dX7_init_5 : decode cX7_init 5 = .ok (.bipush 120, 2) := by decide +kernel
theorem dX7_init_7 : decode cX7_init 7 = .ok (.newarray .int, 2) := by decide +kernel
theorem dX7_init_9 : decode cX7_init 9 = .ok (.putfield 11, 3) := by decide +kernel
theorem dX7_init_12 : decode cX7_init 12 = .ok (.aload_n 0, 1) := by decide +kernel
theorem dX7_init_13 : decode cX7_init 13 = .ok (.bipush 25, 2) := by decide +kernel
theorem dX7_init_15 : decode cX7_init 15 = .ok (.newarray .boolean, 2) := by decide +kernel
theorem dX7_init_17 : decode cX7_init 17 = .ok (.putfield 15, 3) := by decide +kernel
theorem dX7_init_20 : decode cX7_init 20 = .ok (.aload_n 0, 1) := by decide +kernel
theorem dX7_init_21 : decode cX7_init 21 = .ok (.bipush 25, 2) := by decide +kernel
theorem dX7_init_23 : decode cX7_init 23 = .ok (.newarray .int, 2) := by decide +kernel
theorem dX7_init_25 : decode cX7_init 25 = .ok (.putfield 19, 3) := by decide +kernel
theorem dX7_init_28 : decode cX7_init 28 = .ok (.aload_n 0, 1) := by decide +kernel
theorem dX7_init_29 : decode cX7_init 29 = .ok (.bipush 25, 2) := by decide +kernel
theorem dX7_init_31 : decode cX7_init 31 = .ok (.newarray .int, 2) := by decide +kernel
theorem dX7_init_33 : decode cX7_init 33 = .ok (.putfield 22, 3) := by decide +kernel
theorem dX7_init_36 : decode cX7_init 36 = .ok (.aload_n 0, 1) := by decide +kernel
theorem dX7_init_37 : decode cX7_init 37 = .ok (.bipush 25, 2) := by decide +kernel
theorem dX7_init_39 : decode cX7_init 39 = .ok (.newarray .int, 2) := by decide +kernel
theorem dX7_init_41 : decode cX7_init 41 = .ok (.putfield 25, 3) := by decide +kernel
theorem dX7_init_44 : decode cX7_init 44 = .ok (.aload_n 0, 1) := by decide +kernel
theorem dX7_init_45 : decode cX7_init 45 = .ok (.bipush 25, 2) := by decide +kernel
theorem dX7_init_47 : decode cX7_init 47 = .ok (.newarray .int, 2) := by decide +kernel
theorem dX7_init_49 : decode cX7_init 49 = .ok (.putfield 28, 3) := by decide +kernel
theorem dX7_init_52 : decode cX7_init 52 = .ok (.aload_n 0, 1) := by decide +kernel
theorem dX7_init_53 : decode cX7_init 53 = .ok (.bipush 25, 2) := by decide +kernel
theorem dX7_init_55 : decode cX7_init 55 = .ok (.newarray .int, 2) := by decide +kernel
theorem dX7_init_57 : decode cX7_init 57 = .ok (.putfield 31, 3) := by decide +kernel
theorem dX7_init_60 : decode cX7_init 60 = .ok (.return_, 1) := by decide +kernel
theorem dX7_append_0 : decode cX7_append 0 = .ok (.aload_n 0, 1) := by decide +kernel
theorem dX7_append_1 : decode cX7_append 1 = .ok (.getfield 11, 3) := by decide +kernel
theorem dX7_append_4 : decode cX7_append 4 = .ok (.aload_n 0, 1) := by decide +kernel
theorem dX7_append_5 : decode cX7_append 5 = .ok (.getfield 34, 3) := by decide +kernel
theorem dX7_append_8 : decode cX7_append 8 = .ok (.iload_n 1, 1) := by decide +kernel
theorem dX7_append_9 : decode cX7_append 9 = .ok (.iastore, 1) := by decide +kernel
theorem dX7_append_10 : decode cX7_append 10 = .ok (.aload_n 0, 1) := by decide +kernel
theorem dX7_append_11 : decode cX7_append 11 = .ok (.dup, 1) := by decide +kernel
theorem dX7_append_12 : decode cX7_append 12 = .ok (.getfield 34, 3) := by decide +kernel
theorem dX7_append_15 : decode cX7_append 15 = .ok (.iconst 1, 1) := by decide +kernel
theorem dX7_append_16 : decode cX7_append 16 = .ok (.iadd, 1) := by decide +kernel
theorem dX7_append_17 : decode cX7_append 17 = .ok (.putfield 34, 3) := by decide +kernel
theorem dX7_append_20 : decode cX7_append 20 = .ok (.aload_n 0, 1) := by decide +kernel
theorem dX7_append_21 : decode cX7_append 21 = .ok (.getfield 34, 3) := by decide +kernel
theorem dX7_append_24 : decode cX7_append 24 = .ok (.ireturn, 1) := by decide +kernel
theorem dX7_lastNaming_0 : decode cX7_lastNaming 0 = .ok (.aload_n 0, 1) := by decide +kernel
theorem dX7_lastNaming_1 : decode cX7_lastNaming 1 = .ok (.invokevirtual 38, 3) := by decide +kernel
theorem dX7_lastNaming_4 : decode cX7_lastNaming 4 = .ok (.aload_n 0, 1) := by decide +kernel
theorem dX7_lastNaming_5 : decode cX7_lastNaming 5 = .ok (.getfield 41, 3) := by decide +kernel
theorem dX7_lastNaming_8 : decode cX7_lastNaming 8 = .ok (.iconst (-1), 1) := by decide +kernel
theorem dX7_lastNaming_9 : decode cX7_lastNaming 9 = .ok (.if_icmp .eq 5, 3) := by decide +kernel
theorem dX7_lastNaming_12 : decode cX7_lastNaming 12 = .ok (.iconst (-1), 1) := by decide +kernel
theorem dX7_lastNaming_13 : decode cX7_lastNaming 13 = .ok (.ireturn, 1) := by decide +kernel
theorem dX7_lastNaming_14 : decode cX7_lastNaming 14 = .ok (.aload_n 0, 1) := by decide +kernel
theorem dX7_lastNaming_15 : decode cX7_lastNaming 15 = .ok (.getfield 44, 3) := by decide +kernel
theorem dX7_lastNaming_18 : decode cX7_lastNaming 18 = .ok (.iconst 1, 1) := by decide +kernel
theorem dX7_lastNaming_19 : decode cX7_lastNaming 19 = .ok (.isub, 1) := by decide +kernel
theorem dX7_lastNaming_20 : decode cX7_lastNaming 20 = .ok (.istore 4, 2) := by decide +kernel
theorem dX7_lastNaming_22 : decode cX7_lastNaming 22 = .ok (.iload 4, 2) := by decide +kernel
theorem dX7_lastNaming_24 : decode cX7_lastNaming 24 = .ok (.ifCond .lt 88, 3) := by decide +kernel
theorem dX7_lastNaming_27 : decode cX7_lastNaming 27 = .ok (.aload_n 0, 1) := by decide +kernel
theorem dX7_lastNaming_28 : decode cX7_lastNaming 28 = .ok (.getfield 19, 3) := by decide +kernel
theorem dX7_lastNaming_31 : decode cX7_lastNaming 31 = .ok (.iload 4, 2) := by decide +kernel
theorem dX7_lastNaming_33 : decode cX7_lastNaming 33 = .ok (.iaload, 1) := by decide +kernel
theorem dX7_lastNaming_34 : decode cX7_lastNaming 34 = .ok (.iconst (-1), 1) := by decide +kernel
theorem dX7_lastNaming_35 : decode cX7_lastNaming 35 = .ok (.if_icmp .eq 14, 3) := by decide +kernel
theorem dX7_lastNaming_38 : decode cX7_lastNaming 38 = .ok (.aload_n 0, 1) := by decide +kernel
theorem dX7_lastNaming_39 : decode cX7_lastNaming 39 = .ok (.getfield 19, 3) := by decide +kernel
theorem dX7_lastNaming_42 : decode cX7_lastNaming 42 = .ok (.iload 4, 2) := by decide +kernel
theorem dX7_lastNaming_44 : decode cX7_lastNaming 44 = .ok (.iaload, 1) := by decide +kernel
theorem dX7_lastNaming_45 : decode cX7_lastNaming 45 = .ok (.iload_n 1, 1) := by decide +kernel
theorem dX7_lastNaming_46 : decode cX7_lastNaming 46 = .ok (.if_icmp .ne 7, 3) := by decide +kernel
theorem dX7_lastNaming_49 : decode cX7_lastNaming 49 = .ok (.iconst 1, 1) := by decide +kernel
theorem dX7_lastNaming_50 : decode cX7_lastNaming 50 = .ok (.goto 4, 3) := by decide +kernel
theorem dX7_lastNaming_53 : decode cX7_lastNaming 53 = .ok (.iconst 0, 1) := by decide +kernel
theorem dX7_lastNaming_54 : decode cX7_lastNaming 54 = .ok (.istore 5, 2) := by decide +kernel
theorem dX7_lastNaming_56 : decode cX7_lastNaming 56 = .ok (.iload 5, 2) := by decide +kernel
theorem dX7_lastNaming_58 : decode cX7_lastNaming 58 = .ok (.ifCond .eq 48, 3) := by decide +kernel
theorem dX7_lastNaming_61 : decode cX7_lastNaming 61 = .ok (.iload_n 2, 1) := by decide +kernel
theorem dX7_lastNaming_62 : decode cX7_lastNaming 62 = .ok (.aload_n 0, 1) := by decide +kernel
theorem dX7_lastNaming_63 : decode cX7_lastNaming 63 = .ok (.getfield 22, 3) := by decide +kernel
theorem dX7_lastNaming_66 : decode cX7_lastNaming 66 = .ok (.iload 4, 2) := by decide +kernel
theorem dX7_lastNaming_68 : decode cX7_lastNaming 68 = .ok (.iaload, 1) := by decide +kernel
theorem dX7_lastNaming_69 : decode cX7_lastNaming 69 = .ok (.aload_n 0, 1) := by decide +kernel
theorem dX7_lastNaming_70 : decode cX7_lastNaming 70 = .ok (.getfield 25, 3) := by decide +kernel
theorem dX7_lastNaming_73 : decode cX7_lastNaming 73 = .ok (.iload 4, 2) := by decide +kernel
theorem dX7_lastNaming_75 : decode cX7_lastNaming 75 = .ok (.iaload, 1) := by decide +kernel
theorem dX7_lastNaming_76 : decode cX7_lastNaming 76 = .ok (.invokestatic 47, 3) := by decide +kernel
theorem dX7_lastNaming_79 : decode cX7_lastNaming 79 = .ok (.ifCond .eq 27, 3) := by decide +kernel
theorem dX7_lastNaming_82 : decode cX7_lastNaming 82 = .ok (.iload_n 3, 1) := by decide +kernel
theorem dX7_lastNaming_83 : decode cX7_lastNaming 83 = .ok (.aload_n 0, 1) := by decide +kernel
theorem dX7_lastNaming_84 : decode cX7_lastNaming 84 = .ok (.getfield 28, 3) := by decide +kernel
theorem dX7_lastNaming_87 : decode cX7_lastNaming 87 = .ok (.iload 4, 2) := by decide +kernel
theorem dX7_lastNaming_89 : decode cX7_lastNaming 89 = .ok (.iaload, 1) := by decide +kernel
theorem dX7_lastNaming_90 : decode cX7_lastNaming 90 = .ok (.aload_n 0, 1) := by decide +kernel
theorem dX7_lastNaming_91 : decode cX7_lastNaming 91 = .ok (.getfield 31, 3) := by decide +kernel
theorem dX7_lastNaming_94 : decode cX7_lastNaming 94 = .ok (.iload 4, 2) := by decide +kernel
theorem dX7_lastNaming_96 : decode cX7_lastNaming 96 = .ok (.iaload, 1) := by decide +kernel
theorem dX7_lastNaming_97 : decode cX7_lastNaming 97 = .ok (.invokestatic 47, 3) := by decide +kernel
theorem dX7_lastNaming_100 : decode cX7_lastNaming 100 = .ok (.ifCond .eq 6, 3) := by decide +kernel
theorem dX7_lastNaming_103 : decode cX7_lastNaming 103 = .ok (.iload 4, 2) := by decide +kernel
theorem dX7_lastNaming_105 : decode cX7_lastNaming 105 = .ok (.ireturn, 1) := by decide +kernel
theorem dX7_lastNaming_106 : decode cX7_lastNaming 106 = .ok (.iinc 4 (-1), 3) := by decide +kernel
theorem dX7_lastNaming_109 : decode cX7_lastNaming 109 = .ok (.goto (-87), 3) := by decide +kernel
theorem dX7_lastNaming_112 : decode cX7_lastNaming 112 = .ok (.iconst (-1), 1) := by decide +kernel
theorem dX7_lastNaming_113 : decode cX7_lastNaming 113 = .ok (.ireturn, 1) := by decide +kernel
theorem dX7_read_0 : decode cX7_read 0 = .ok (.aload_n 0, 1) := by decide +kernel
theorem dX7_read_1 : decode cX7_read 1 = .ok (.iconst 0, 1) := by decide +kernel
theorem dX7_read_2 : decode cX7_read 2 = .ok (.putfield 51, 3) := by decide +kernel
theorem dX7_read_5 : decode cX7_read 5 = .ok (.aload_n 0, 1) := by decide +kernel
theorem dX7_read_6 : decode cX7_read 6 = .ok (.iconst (-1), 1) := by decide +kernel
theorem dX7_read_7 : decode cX7_read 7 = .ok (.putfield 41, 3) := by decide +kernel
theorem dX7_read_10 : decode cX7_read 10 = .ok (.aload_n 0, 1) := by decide +kernel
theorem dX7_read_11 : decode cX7_read 11 = .ok (.iconst 0, 1) := by decide +kernel
theorem dX7_read_12 : decode cX7_read 12 = .ok (.putfield 44, 3) := by decide +kernel
theorem dX7_read_15 : decode cX7_read 15 = .ok (.iconst 1, 1) := by decide +kernel
theorem dX7_read_16 : decode cX7_read 16 = .ok (.istore_n 1, 1) := by decide +kernel
theorem dX7_read_17 : decode cX7_read 17 = .ok (.iload_n 1, 1) := by decide +kernel
theorem dX7_read_18 : decode cX7_read 18 = .ok (.ifCond .eq 78, 3) := by decide +kernel
theorem dX7_read_21 : decode cX7_read 21 = .ok (.aload_n 0, 1) := by decide +kernel
theorem dX7_read_22 : decode cX7_read 22 = .ok (.getfield 44, 3) := by decide +kernel
theorem dX7_read_25 : decode cX7_read 25 = .ok (.bipush 25, 2) := by decide +kernel
theorem dX7_read_27 : decode cX7_read 27 = .ok (.if_icmp .ge 69, 3) := by decide +kernel
theorem dX7_read_30 : decode cX7_read 30 = .ok (.iconst 0, 1) := by decide +kernel
theorem dX7_read_31 : decode cX7_read 31 = .ok (.istore_n 1, 1) := by decide +kernel
theorem dX7_read_32 : decode cX7_read 32 = .ok (.aload_n 0, 1) := by decide +kernel
theorem dX7_read_33 : decode cX7_read 33 = .ok (.aload_n 0, 1) := by decide +kernel
theorem dX7_read_34 : decode cX7_read 34 = .ok (.getfield 44, 3) := by decide +kernel
theorem dX7_read_37 : decode cX7_read 37 = .ok (.invokevirtual 54, 3) := by decide +kernel
theorem dX7_read_40 : decode cX7_read 40 = .ok (.ifCond .eq (-23), 3) := by decide +kernel
theorem dX7_read_43 : decode cX7_read 43 = .ok (.aload_n 0, 1) := by decide +kernel
theorem dX7_read_44 : decode cX7_read 44 = .ok (.dup, 1) := by decide +kernel
theorem dX7_read_45 : decode cX7_read 45 = .ok (.getfield 44, 3) := by decide +kernel
theorem dX7_read_48 : decode cX7_read 48 = .ok (.iconst 1, 1) := by decide +kernel
theorem dX7_read_49 : decode cX7_read 49 = .ok (.iadd, 1) := by decide +kernel
theorem dX7_read_50 : decode cX7_read 50 = .ok (.putfield 44, 3) := by decide +kernel
theorem dX7_read_53 : decode cX7_read 53 = .ok (.aload_n 0, 1) := by decide +kernel
theorem dX7_read_54 : decode cX7_read 54 = .ok (.invokevirtual 58, 3) := by decide +kernel
theorem dX7_read_57 : decode cX7_read 57 = .ok (.bipush 59, 2) := by decide +kernel
theorem dX7_read_59 : decode cX7_read 59 = .ok (.if_icmp .ne 18, 3) := by decide +kernel
theorem dX7_read_62 : decode cX7_read 62 = .ok (.aload_n 0, 1) := by decide +kernel
theorem dX7_read_63 : decode cX7_read 63 = .ok (.dup, 1) := by decide +kernel
theorem dX7_read_64 : decode cX7_read 64 = .ok (.getfield 51, 3) := by decide +kernel
theorem dX7_read_67 : decode cX7_read 67 = .ok (.iconst 1, 1) := by decide +kernel
theorem dX7_read_68 : decode cX7_read 68 = .ok (.iadd, 1) := by decide +kernel
theorem dX7_read_69 : decode cX7_read 69 = .ok (.putfield 51, 3) := by decide +kernel
theorem dX7_read_72 : decode cX7_read 72 = .ok (.iconst 1, 1) := by decide +kernel
theorem dX7_read_73 : decode cX7_read 73 = .ok (.istore_n 1, 1) := by decide +kernel
theorem dX7_read_74 : decode cX7_read 74 = .ok (.goto (-57), 3) := by decide +kernel
theorem dX7_read_77 : decode cX7_read 77 = .ok (.aload_n 0, 1) := by decide +kernel
theorem dX7_read_78 : decode cX7_read 78 = .ok (.invokevirtual 58, 3) := by decide +kernel
theorem dX7_read_81 : decode cX7_read 81 = .ok (.iconst (-1), 1) := by decide +kernel
theorem dX7_read_82 : decode cX7_read 82 = .ok (.if_icmp .eq (-65), 3) := by decide +kernel
theorem dX7_read_85 : decode cX7_read 85 = .ok (.aload_n 0, 1) := by decide +kernel
theorem dX7_read_86 : decode cX7_read 86 = .ok (.aload_n 0, 1) := by decide +kernel
theorem dX7_read_87 : decode cX7_read 87 = .ok (.getfield 51, 3) := by decide +kernel
theorem dX7_read_90 : decode cX7_read 90 = .ok (.putfield 41, 3) := by decide +kernel
theorem dX7_read_93 : decode cX7_read 93 = .ok (.goto (-76), 3) := by decide +kernel
theorem dX7_read_96 : decode cX7_read 96 = .ok (.return_, 1) := by decide +kernel
theorem dX7_sign_0 : decode cX7_sign 0 = .ok (.aload_n 0, 1) := by decide +kernel
theorem dX7_sign_1 : decode cX7_sign 1 = .ok (.getfield 51, 3) := by decide +kernel
theorem dX7_sign_4 : decode cX7_sign 4 = .ok (.aload_n 0, 1) := by decide +kernel
theorem dX7_sign_5 : decode cX7_sign 5 = .ok (.getfield 34, 3) := by decide +kernel
theorem dX7_sign_8 : decode cX7_sign 8 = .ok (.if_icmp .ge 15, 3) := by decide +kernel
theorem dX7_sign_11 : decode cX7_sign 11 = .ok (.aload_n 0, 1) := by decide +kernel
theorem dX7_sign_12 : decode cX7_sign 12 = .ok (.getfield 11, 3) := by decide +kernel
theorem dX7_sign_15 : decode cX7_sign 15 = .ok (.aload_n 0, 1) := by decide +kernel
theorem dX7_sign_16 : decode cX7_sign 16 = .ok (.getfield 51, 3) := by decide +kernel
theorem dX7_sign_19 : decode cX7_sign 19 = .ok (.iaload, 1) := by decide +kernel
theorem dX7_sign_20 : decode cX7_sign 20 = .ok (.goto 4, 3) := by decide +kernel
theorem dX7_sign_23 : decode cX7_sign 23 = .ok (.iconst (-1), 1) := by decide +kernel
theorem dX7_sign_24 : decode cX7_sign 24 = .ok (.ireturn, 1) := by decide +kernel
theorem dX7_failsAt_0 : decode cX7_failsAt 0 = .ok (.aload_n 0, 1) := by decide +kernel
theorem dX7_failsAt_1 : decode cX7_failsAt 1 = .ok (.iload_n 1, 1) := by decide +kernel
theorem dX7_failsAt_2 : decode cX7_failsAt 2 = .ok (.putfield 41, 3) := by decide +kernel
theorem dX7_failsAt_5 : decode cX7_failsAt 5 = .ok (.iconst 0, 1) := by decide +kernel
theorem dX7_failsAt_6 : decode cX7_failsAt 6 = .ok (.ireturn, 1) := by decide +kernel
theorem dX7_readRule_0 : decode cX7_readRule 0 = .ok (.aload_n 0, 1) := by decide +kernel
theorem dX7_readRule_1 : decode cX7_readRule 1 = .ok (.invokevirtual 58, 3) := by decide +kernel
theorem dX7_readRule_4 : decode cX7_readRule 4 = .ok (.bipush 43, 2) := by decide +kernel
theorem dX7_readRule_6 : decode cX7_readRule 6 = .ok (.if_icmp .eq 21, 3) := by decide +kernel
theorem dX7_readRule_9 : decode cX7_readRule 9 = .ok (.aload_n 0, 1) := by decide +kernel
theorem dX7_readRule_10 : decode cX7_readRule 10 = .ok (.invokevirtual 58, 3) := by decide +kernel
theorem dX7_readRule_13 : decode cX7_readRule 13 = .ok (.bipush 45, 2) := by decide +kernel
theorem dX7_readRule_15 : decode cX7_readRule 15 = .ok (.if_icmp .eq 12, 3) := by decide +kernel
theorem dX7_readRule_18 : decode cX7_readRule 18 = .ok (.aload_n 0, 1) := by decide +kernel
theorem dX7_readRule_19 : decode cX7_readRule 19 = .ok (.aload_n 0, 1) := by decide +kernel
theorem dX7_readRule_20 : decode cX7_readRule 20 = .ok (.getfield 51, 3) := by decide +kernel
theorem dX7_readRule_23 : decode cX7_readRule 23 = .ok (.invokevirtual 62, 3) := by decide +kernel
theorem dX7_readRule_26 : decode cX7_readRule 26 = .ok (.ireturn, 1) := by decide +kernel
theorem dX7_readRule_27 : decode cX7_readRule 27 = .ok (.aload_n 0, 1) := by decide +kernel
theorem dX7_readRule_28 : decode cX7_readRule 28 = .ok (.getfield 15, 3) := by decide +kernel
theorem dX7_readRule_31 : decode cX7_readRule 31 = .ok (.iload_n 1, 1) := by decide +kernel
theorem dX7_readRule_32 : decode cX7_readRule 32 = .ok (.aload_n 0, 1) := by decide +kernel
theorem dX7_readRule_33 : decode cX7_readRule 33 = .ok (.invokevirtual 58, 3) := by decide +kernel
theorem dX7_readRule_36 : decode cX7_readRule 36 = .ok (.bipush 43, 2) := by decide +kernel
theorem dX7_readRule_38 : decode cX7_readRule 38 = .ok (.if_icmp .ne 7, 3) := by decide +kernel
theorem dX7_readRule_41 : decode cX7_readRule 41 = .ok (.iconst 1, 1) := by decide +kernel
theorem dX7_readRule_42 : decode cX7_readRule 42 = .ok (.goto 4, 3) := by decide +kernel
theorem dX7_readRule_45 : decode cX7_readRule 45 = .ok (.iconst 0, 1) := by decide +kernel
theorem dX7_readRule_46 : decode cX7_readRule 46 = .ok (.bastore, 1) := by decide +kernel
theorem dX7_readRule_47 : decode cX7_readRule 47 = .ok (.aload_n 0, 1) := by decide +kernel
theorem dX7_readRule_48 : decode cX7_readRule 48 = .ok (.dup, 1) := by decide +kernel
theorem dX7_readRule_49 : decode cX7_readRule 49 = .ok (.getfield 51, 3) := by decide +kernel
theorem dX7_readRule_52 : decode cX7_readRule 52 = .ok (.iconst 1, 1) := by decide +kernel
theorem dX7_readRule_53 : decode cX7_readRule 53 = .ok (.iadd, 1) := by decide +kernel
theorem dX7_readRule_54 : decode cX7_readRule 54 = .ok (.putfield 51, 3) := by decide +kernel
theorem dX7_readRule_57 : decode cX7_readRule 57 = .ok (.aload_n 0, 1) := by decide +kernel
theorem dX7_readRule_58 : decode cX7_readRule 58 = .ok (.invokevirtual 58, 3) := by decide +kernel
theorem dX7_readRule_61 : decode cX7_readRule 61 = .ok (.bipush 42, 2) := by decide +kernel
theorem dX7_readRule_63 : decode cX7_readRule 63 = .ok (.if_icmp .eq 26, 3) := by decide +kernel
theorem dX7_readRule_66 : decode cX7_readRule 66 = .ok (.aload_n 0, 1) := by decide +kernel
theorem dX7_readRule_67 : decode cX7_readRule 67 = .ok (.invokevirtual 58, 3) := by decide +kernel
theorem dX7_readRule_70 : decode cX7_readRule 70 = .ok (.bipush 48, 2) := by decide +kernel
theorem dX7_readRule_72 : decode cX7_readRule 72 = .ok (.bipush 53, 2) := by decide +kernel
theorem dX7_readRule_74 : decode cX7_readRule 74 = .ok (.invokestatic 47, 3) := by decide +kernel
theorem dX7_readRule_77 : decode cX7_readRule 77 = .ok (.ifCond .ne 12, 3) := by decide +kernel
theorem dX7_readRule_80 : decode cX7_readRule 80 = .ok (.aload_n 0, 1) := by decide +kernel
theorem dX7_readRule_81 : decode cX7_readRule 81 = .ok (.aload_n 0, 1) := by decide +kernel
theorem dX7_readRule_82 : decode cX7_readRule 82 = .ok (.getfield 51, 3) := by decide +kernel
theorem dX7_readRule_85 : decode cX7_readRule 85 = .ok (.invokevirtual 62, 3) := by decide +kernel
theorem dX7_readRule_88 : decode cX7_readRule 88 = .ok (.ireturn, 1) := by decide +kernel
theorem dX7_readRule_89 : decode cX7_readRule 89 = .ok (.aload_n 0, 1) := by decide +kernel
theorem dX7_readRule_90 : decode cX7_readRule 90 = .ok (.getfield 19, 3) := by decide +kernel
theorem dX7_readRule_93 : decode cX7_readRule 93 = .ok (.iload_n 1, 1) := by decide +kernel
theorem dX7_readRule_94 : decode cX7_readRule 94 = .ok (.aload_n 0, 1) := by decide +kernel
theorem dX7_readRule_95 : decode cX7_readRule 95 = .ok (.invokevirtual 58, 3) := by decide +kernel
theorem dX7_readRule_98 : decode cX7_readRule 98 = .ok (.bipush 42, 2) := by decide +kernel
theorem dX7_readRule_100 : decode cX7_readRule 100 = .ok (.if_icmp .ne 7, 3) := by decide +kernel
theorem dX7_readRule_103 : decode cX7_readRule 103 = .ok (.iconst (-1), 1) := by decide +kernel
theorem dX7_readRule_104 : decode cX7_readRule 104 = .ok (.goto 10, 3) := by decide +kernel
theorem dX7_readRule_107 : decode cX7_readRule 107 = .ok (.aload_n 0, 1) := by decide +kernel
theorem dX7_readRule_108 : decode cX7_readRule 108 = .ok (.invokevirtual 58, 3) := by decide +kernel
theorem dX7_readRule_111 : decode cX7_readRule 111 = .ok (.bipush 48, 2) := by decide +kernel
theorem dX7_readRule_113 : decode cX7_readRule 113 = .ok (.isub, 1) := by decide +kernel
theorem dX7_readRule_114 : decode cX7_readRule 114 = .ok (.iastore, 1) := by decide +kernel
theorem dX7_readRule_115 : decode cX7_readRule 115 = .ok (.aload_n 0, 1) := by decide +kernel
theorem dX7_readRule_116 : decode cX7_readRule 116 = .ok (.dup, 1) := by decide +kernel
theorem dX7_readRule_117 : decode cX7_readRule 117 = .ok (.getfield 51, 3) := by decide +kernel
theorem dX7_readRule_120 : decode cX7_readRule 120 = .ok (.iconst 1, 1) := by decide +kernel
theorem dX7_readRule_121 : decode cX7_readRule 121 = .ok (.iadd, 1) := by decide +kernel
theorem dX7_readRule_122 : decode cX7_readRule 122 = .ok (.putfield 51, 3) := by decide +kernel
theorem dX7_readRule_125 : decode cX7_readRule 125 = .ok (.aload_n 0, 1) := by decide +kernel
theorem dX7_readRule_126 : decode cX7_readRule 126 = .ok (.invokevirtual 58, 3) := by decide +kernel
theorem dX7_readRule_129 : decode cX7_readRule 129 = .ok (.bipush 58, 2) := by decide +kernel
theorem dX7_readRule_131 : decode cX7_readRule 131 = .ok (.if_icmp .eq 12, 3) := by decide +kernel
theorem dX7_readRule_134 : decode cX7_readRule 134 = .ok (.aload_n 0, 1) := by decide +kernel
theorem dX7_readRule_135 : decode cX7_readRule 135 = .ok (.aload_n 0, 1) := by decide +kernel
theorem dX7_readRule_136 : decode cX7_readRule 136 = .ok (.getfield 51, 3) := by decide +kernel
theorem dX7_readRule_139 : decode cX7_readRule 139 = .ok (.invokevirtual 62, 3) := by decide +kernel
theorem dX7_readRule_142 : decode cX7_readRule 142 = .ok (.ireturn, 1) := by decide +kernel
theorem dX7_readRule_143 : decode cX7_readRule 143 = .ok (.aload_n 0, 1) := by decide +kernel
theorem dX7_readRule_144 : decode cX7_readRule 144 = .ok (.dup, 1) := by decide +kernel
theorem dX7_readRule_145 : decode cX7_readRule 145 = .ok (.getfield 51, 3) := by decide +kernel
theorem dX7_readRule_148 : decode cX7_readRule 148 = .ok (.iconst 1, 1) := by decide +kernel
theorem dX7_readRule_149 : decode cX7_readRule 149 = .ok (.iadd, 1) := by decide +kernel
theorem dX7_readRule_150 : decode cX7_readRule 150 = .ok (.putfield 51, 3) := by decide +kernel
theorem dX7_readRule_153 : decode cX7_readRule 153 = .ok (.aload_n 0, 1) := by decide +kernel
theorem dX7_readRule_154 : decode cX7_readRule 154 = .ok (.aload_n 0, 1) := by decide +kernel
theorem dX7_readRule_155 : decode cX7_readRule 155 = .ok (.getfield 22, 3) := by decide +kernel
theorem dX7_readRule_158 : decode cX7_readRule 158 = .ok (.aload_n 0, 1) := by decide +kernel
theorem dX7_readRule_159 : decode cX7_readRule 159 = .ok (.getfield 25, 3) := by decide +kernel
theorem dX7_readRule_162 : decode cX7_readRule 162 = .ok (.iload_n 1, 1) := by decide +kernel
theorem dX7_readRule_163 : decode cX7_readRule 163 = .ok (.bipush 11, 2) := by decide +kernel
theorem dX7_readRule_165 : decode cX7_readRule 165 = .ok (.invokevirtual 65, 3) := by decide +kernel
theorem dX7_readRule_168 : decode cX7_readRule 168 = .ok (.ifCond .ne 5, 3) := by decide +kernel
theorem dX7_readRule_171 : decode cX7_readRule 171 = .ok (.iconst 0, 1) := by decide +kernel
theorem dX7_readRule_172 : decode cX7_readRule 172 = .ok (.ireturn, 1) := by decide +kernel
theorem dX7_readRule_173 : decode cX7_readRule 173 = .ok (.aload_n 0, 1) := by decide +kernel
theorem dX7_readRule_174 : decode cX7_readRule 174 = .ok (.invokevirtual 58, 3) := by decide +kernel
theorem dX7_readRule_177 : decode cX7_readRule 177 = .ok (.bipush 64, 2) := by decide +kernel
theorem dX7_readRule_179 : decode cX7_readRule 179 = .ok (.if_icmp .ne 29, 3) := by decide +kernel
theorem dX7_readRule_182 : decode cX7_readRule 182 = .ok (.aload_n 0, 1) := by decide +kernel
theorem dX7_readRule_183 : decode cX7_readRule 183 = .ok (.dup, 1) := by decide +kernel
theorem dX7_readRule_184 : decode cX7_readRule 184 = .ok (.getfield 51, 3) := by decide +kernel
theorem dX7_readRule_187 : decode cX7_readRule 187 = .ok (.iconst 1, 1) := by decide +kernel
theorem dX7_readRule_188 : decode cX7_readRule 188 = .ok (.iadd, 1) := by decide +kernel
theorem dX7_readRule_189 : decode cX7_readRule 189 = .ok (.putfield 51, 3) := by decide +kernel
theorem dX7_readRule_192 : decode cX7_readRule 192 = .ok (.aload_n 0, 1) := by decide +kernel
theorem dX7_readRule_193 : decode cX7_readRule 193 = .ok (.aload_n 0, 1) := by decide +kernel
theorem dX7_readRule_194 : decode cX7_readRule 194 = .ok (.getfield 28, 3) := by decide +kernel
theorem dX7_readRule_197 : decode cX7_readRule 197 = .ok (.aload_n 0, 1) := by decide +kernel
theorem dX7_readRule_198 : decode cX7_readRule 198 = .ok (.getfield 31, 3) := by decide +kernel
theorem dX7_readRule_201 : decode cX7_readRule 201 = .ok (.iload_n 1, 1) := by decide +kernel
theorem dX7_readRule_202 : decode cX7_readRule 202 = .ok (.bipush 99, 2) := by decide +kernel
theorem dX7_readRule_204 : decode cX7_readRule 204 = .ok (.invokevirtual 65, 3) := by decide +kernel
theorem dX7_readRule_207 : decode cX7_readRule 207 = .ok (.ireturn, 1) := by decide +kernel
theorem dX7_readRule_208 : decode cX7_readRule 208 = .ok (.aload_n 0, 1) := by decide +kernel
theorem dX7_readRule_209 : decode cX7_readRule 209 = .ok (.getfield 28, 3) := by decide +kernel
theorem dX7_readRule_212 : decode cX7_readRule 212 = .ok (.iload_n 1, 1) := by decide +kernel
theorem dX7_readRule_213 : decode cX7_readRule 213 = .ok (.iconst 0, 1) := by decide +kernel
theorem dX7_readRule_214 : decode cX7_readRule 214 = .ok (.iastore, 1) := by decide +kernel
theorem dX7_readRule_215 : decode cX7_readRule 215 = .ok (.aload_n 0, 1) := by decide +kernel
theorem dX7_readRule_216 : decode cX7_readRule 216 = .ok (.getfield 31, 3) := by decide +kernel
theorem dX7_readRule_219 : decode cX7_readRule 219 = .ok (.iload_n 1, 1) := by decide +kernel
theorem dX7_readRule_220 : decode cX7_readRule 220 = .ok (.bipush 99, 2) := by decide +kernel
theorem dX7_readRule_222 : decode cX7_readRule 222 = .ok (.iastore, 1) := by decide +kernel
theorem dX7_readRule_223 : decode cX7_readRule 223 = .ok (.iconst 1, 1) := by decide +kernel
theorem dX7_readRule_224 : decode cX7_readRule 224 = .ok (.ireturn, 1) := by decide +kernel
theorem dX7_readSpan_0 : decode cX7_readSpan 0 = .ok (.aload_n 1, 1) := by decide +kernel
theorem dX7_readSpan_1 : decode cX7_readSpan 1 = .ok (.iload_n 3, 1) := by decide +kernel
theorem dX7_readSpan_2 : decode cX7_readSpan 2 = .ok (.aload_n 0, 1) := by decide +kernel
theorem dX7_readSpan_3 : decode cX7_readSpan 3 = .ok (.iconst 0, 1) := by decide +kernel
theorem dX7_readSpan_4 : decode cX7_readSpan 4 = .ok (.iload 4, 2) := by decide +kernel
theorem dX7_readSpan_6 : decode cX7_readSpan 6 = .ok (.invokevirtual 69, 3) := by decide +kernel
theorem dX7_readSpan_9 : decode cX7_readSpan 9 = .ok (.iastore, 1) := by decide +kernel
theorem dX7_readSpan_10 : decode cX7_readSpan 10 = .ok (.aload_n 2, 1) := by decide +kernel
theorem dX7_readSpan_11 : decode cX7_readSpan 11 = .ok (.iload_n 3, 1) := by decide +kernel
theorem dX7_readSpan_12 : decode cX7_readSpan 12 = .ok (.aload_n 1, 1) := by decide +kernel
theorem dX7_readSpan_13 : decode cX7_readSpan 13 = .ok (.iload_n 3, 1) := by decide +kernel
theorem dX7_readSpan_14 : decode cX7_readSpan 14 = .ok (.iaload, 1) := by decide +kernel
theorem dX7_readSpan_15 : decode cX7_readSpan 15 = .ok (.iastore, 1) := by decide +kernel
theorem dX7_readSpan_16 : decode cX7_readSpan 16 = .ok (.aload_n 0, 1) := by decide +kernel
theorem dX7_readSpan_17 : decode cX7_readSpan 17 = .ok (.getfield 41, 3) := by decide +kernel
theorem dX7_readSpan_20 : decode cX7_readSpan 20 = .ok (.iconst (-1), 1) := by decide +kernel
theorem dX7_readSpan_21 : decode cX7_readSpan 21 = .ok (.if_icmp .ne 34, 3) := by decide +kernel
theorem dX7_readSpan_24 : decode cX7_readSpan 24 = .ok (.aload_n 0, 1) := by decide +kernel
theorem dX7_readSpan_25 : decode cX7_readSpan 25 = .ok (.invokevirtual 58, 3) := by decide +kernel
theorem dX7_readSpan_28 : decode cX7_readSpan 28 = .ok (.bipush 45, 2) := by decide +kernel
theorem dX7_readSpan_30 : decode cX7_readSpan 30 = .ok (.if_icmp .ne 25, 3) := by decide +kernel
theorem dX7_readSpan_33 : decode cX7_readSpan 33 = .ok (.aload_n 0, 1) := by decide +kernel
theorem dX7_readSpan_34 : decode cX7_readSpan 34 = .ok (.dup, 1) := by decide +kernel
theorem dX7_readSpan_35 : decode cX7_readSpan 35 = .ok (.getfield 51, 3) := by decide +kernel
theorem dX7_readSpan_38 : decode cX7_readSpan 38 = .ok (.iconst 1, 1) := by decide +kernel
theorem dX7_readSpan_39 : decode cX7_readSpan 39 = .ok (.iadd, 1) := by decide +kernel
theorem dX7_readSpan_40 : decode cX7_readSpan 40 = .ok (.putfield 51, 3) := by decide +kernel
theorem dX7_readSpan_43 : decode cX7_readSpan 43 = .ok (.aload_n 2, 1) := by decide +kernel
theorem dX7_readSpan_44 : decode cX7_readSpan 44 = .ok (.iload_n 3, 1) := by decide +kernel
theorem dX7_readSpan_45 : decode cX7_readSpan 45 = .ok (.aload_n 0, 1) := by decide +kernel
theorem dX7_readSpan_46 : decode cX7_readSpan 46 = .ok (.aload_n 1, 1) := by decide +kernel
theorem dX7_readSpan_47 : decode cX7_readSpan 47 = .ok (.iload_n 3, 1) := by decide +kernel
theorem dX7_readSpan_48 : decode cX7_readSpan 48 = .ok (.iaload, 1) := by decide +kernel
theorem dX7_readSpan_49 : decode cX7_readSpan 49 = .ok (.iload 4, 2) := by decide +kernel
theorem dX7_readSpan_51 : decode cX7_readSpan 51 = .ok (.invokevirtual 69, 3) := by decide +kernel
theorem dX7_readSpan_54 : decode cX7_readSpan 54 = .ok (.iastore, 1) := by decide +kernel
theorem dX7_readSpan_55 : decode cX7_readSpan 55 = .ok (.aload_n 0, 1) := by decide +kernel
theorem dX7_readSpan_56 : decode cX7_readSpan 56 = .ok (.getfield 41, 3) := by decide +kernel
theorem dX7_readSpan_59 : decode cX7_readSpan 59 = .ok (.iconst (-1), 1) := by decide +kernel
theorem dX7_readSpan_60 : decode cX7_readSpan 60 = .ok (.if_icmp .ne 7, 3) := by decide +kernel
theorem dX7_readSpan_63 : decode cX7_readSpan 63 = .ok (.iconst 1, 1) := by decide +kernel
theorem dX7_readSpan_64 : decode cX7_readSpan 64 = .ok (.goto 4, 3) := by decide +kernel
theorem dX7_readSpan_67 : decode cX7_readSpan 67 = .ok (.iconst 0, 1) := by decide +kernel
theorem dX7_readSpan_68 : decode cX7_readSpan 68 = .ok (.ireturn, 1) := by decide +kernel
theorem dX7_isFigure_0 : decode cX7_isFigure 0 = .ok (.aload_n 0, 1) := by decide +kernel
theorem dX7_isFigure_1 : decode cX7_isFigure 1 = .ok (.invokevirtual 58, 3) := by decide +kernel
theorem dX7_isFigure_4 : decode cX7_isFigure 4 = .ok (.bipush 48, 2) := by decide +kernel
theorem dX7_isFigure_6 : decode cX7_isFigure 6 = .ok (.bipush 57, 2) := by decide +kernel
theorem dX7_isFigure_8 : decode cX7_isFigure 8 = .ok (.invokestatic 47, 3) := by decide +kernel
theorem dX7_isFigure_11 : decode cX7_isFigure 11 = .ok (.ireturn, 1) := by decide +kernel
theorem dX7_readNumber_0 : decode cX7_readNumber 0 = .ok (.aload_n 0, 1) := by decide +kernel
theorem dX7_readNumber_1 : decode cX7_readNumber 1 = .ok (.getfield 51, 3) := by decide +kernel
theorem dX7_readNumber_4 : decode cX7_readNumber 4 = .ok (.istore_n 3, 1) := by decide +kernel
theorem dX7_readNumber_5 : decode cX7_readNumber 5 = .ok (.iconst 0, 1) := by decide +kernel
theorem dX7_readNumber_6 : decode cX7_readNumber 6 = .ok (.istore 4, 2) := by decide +kernel
theorem dX7_readNumber_8 : decode cX7_readNumber 8 = .ok (.iconst 0, 1) := by decide +kernel
theorem dX7_readNumber_9 : decode cX7_readNumber 9 = .ok (.istore 5, 2) := by decide +kernel
theorem dX7_readNumber_11 : decode cX7_readNumber 11 = .ok (.iload 5, 2) := by decide +kernel
theorem dX7_readNumber_13 : decode cX7_readNumber 13 = .ok (.iconst 2, 1) := by decide +kernel
theorem dX7_readNumber_14 : decode cX7_readNumber 14 = .ok (.if_icmp .ge 41, 3) := by decide +kernel
theorem dX7_readNumber_17 : decode cX7_readNumber 17 = .ok (.aload_n 0, 1) := by decide +kernel
theorem dX7_readNumber_18 : decode cX7_readNumber 18 = .ok (.invokevirtual 73, 3) := by decide +kernel
theorem dX7_readNumber_21 : decode cX7_readNumber 21 = .ok (.ifCond .eq 34, 3) := by decide +kernel
theorem dX7_readNumber_24 : decode cX7_readNumber 24 = .ok (.bipush 10, 2) := by decide +kernel
theorem dX7_readNumber_26 : decode cX7_readNumber 26 = .ok (.iload 4, 2) := by decide +kernel
theorem dX7_readNumber_28 : decode cX7_readNumber 28 = .ok (.imul, 1) := by decide +kernel
theorem dX7_readNumber_29 : decode cX7_readNumber 29 = .ok (.aload_n 0, 1) := by decide +kernel
theorem dX7_readNumber_30 : decode cX7_readNumber 30 = .ok (.invokevirtual 58, 3) := by decide +kernel
theorem dX7_readNumber_33 : decode cX7_readNumber 33 = .ok (.iadd, 1) := by decide +kernel
theorem dX7_readNumber_34 : decode cX7_readNumber 34 = .ok (.bipush 48, 2) := by decide +kernel
theorem dX7_readNumber_36 : decode cX7_readNumber 36 = .ok (.isub, 1) := by decide +kernel
theorem dX7_readNumber_37 : decode cX7_readNumber 37 = .ok (.istore 4, 2) := by decide +kernel
theorem dX7_readNumber_39 : decode cX7_readNumber 39 = .ok (.aload_n 0, 1) := by decide +kernel
theorem dX7_readNumber_40 : decode cX7_readNumber 40 = .ok (.dup, 1) := by decide +kernel
theorem dX7_readNumber_41 : decode cX7_readNumber 41 = .ok (.getfield 51, 3) := by decide +kernel
theorem dX7_readNumber_44 : decode cX7_readNumber 44 = .ok (.iconst 1, 1) := by decide +kernel
theorem dX7_readNumber_45 : decode cX7_readNumber 45 = .ok (.iadd, 1) := by decide +kernel
theorem dX7_readNumber_46 : decode cX7_readNumber 46 = .ok (.putfield 51, 3) := by decide +kernel
theorem dX7_readNumber_49 : decode cX7_readNumber 49 = .ok (.iinc 5 1, 3) := by decide +kernel
theorem dX7_readNumber_52 : decode cX7_readNumber 52 = .ok (.goto (-41), 3) := by decide +kernel
theorem dX7_readNumber_55 : decode cX7_readNumber 55 = .ok (.aload_n 0, 1) := by decide +kernel
theorem dX7_readNumber_56 : decode cX7_readNumber 56 = .ok (.getfield 51, 3) := by decide +kernel
theorem dX7_readNumber_59 : decode cX7_readNumber 59 = .ok (.iload_n 3, 1) := by decide +kernel
theorem dX7_readNumber_60 : decode cX7_readNumber 60 = .ok (.if_icmp .eq 13, 3) := by decide +kernel
theorem dX7_readNumber_63 : decode cX7_readNumber 63 = .ok (.iload 4, 2) := by decide +kernel
theorem dX7_readNumber_65 : decode cX7_readNumber 65 = .ok (.iload_n 1, 1) := by decide +kernel
theorem dX7_readNumber_66 : decode cX7_readNumber 66 = .ok (.iload_n 2, 1) := by decide +kernel
theorem dX7_readNumber_67 : decode cX7_readNumber 67 = .ok (.invokestatic 47, 3) := by decide +kernel
theorem dX7_readNumber_70 : decode cX7_readNumber 70 = .ok (.ifCond .ne 8, 3) := by decide +kernel
theorem dX7_readNumber_73 : decode cX7_readNumber 73 = .ok (.aload_n 0, 1) := by decide +kernel
theorem dX7_readNumber_74 : decode cX7_readNumber 74 = .ok (.iload_n 3, 1) := by decide +kernel
theorem dX7_readNumber_75 : decode cX7_readNumber 75 = .ok (.putfield 41, 3) := by decide +kernel
theorem dX7_readNumber_78 : decode cX7_readNumber 78 = .ok (.iload 4, 2) := by decide +kernel
theorem dX7_readNumber_80 : decode cX7_readNumber 80 = .ok (.ireturn, 1) := by decide +kernel
theorem dX8_init_0 : decode cX8_init 0 = .ok (.aload_n 0, 1) := by decide +kernel
theorem dX8_init_1 : decode cX8_init 1 = .ok (.invokespecial 1, 3) := by decide +kernel
theorem dX8_init_4 : decode cX8_init 4 = .ok (.aload_n 0, 1) := by decide +kernel
theorem dX8_init_5 : decode cX8_init 5 = .ok (.iconst 5, 1) := by decide +kernel
theorem dX8_init_6 : decode cX8_init 6 = .ok (.newarray .int, 2) := by decide +kernel
theorem dX8_init_8 : decode cX8_init 8 = .ok (.putfield 9, 3) := by decide +kernel
theorem dX8_init_11 : decode cX8_init 11 = .ok (.aload_n 0, 1) := by decide +kernel
theorem dX8_init_12 : decode cX8_init 12 = .ok (.getfield 9, 3) := by decide +kernel
theorem dX8_init_15 : decode cX8_init 15 = .ok (.iconst 0, 1) := by decide +kernel
theorem dX8_init_16 : decode cX8_init 16 = .ok (.iconst 5, 1) := by decide +kernel
theorem dX8_init_17 : decode cX8_init 17 = .ok (.iastore, 1) := by decide +kernel
theorem dX8_init_18 : decode cX8_init 18 = .ok (.aload_n 0, 1) := by decide +kernel
theorem dX8_init_19 : decode cX8_init 19 = .ok (.getfield 9, 3) := by decide +kernel
theorem dX8_init_22 : decode cX8_init 22 = .ok (.iconst 1, 1) := by decide +kernel
theorem dX8_init_23 : decode cX8_init 23 = .ok (.bipush 20, 2) := by decide +kernel
theorem dX8_init_25 : decode cX8_init 25 = .ok (.iastore, 1) := by decide +kernel
theorem dX8_init_26 : decode cX8_init 26 = .ok (.aload_n 0, 1) := by decide +kernel
theorem dX8_init_27 : decode cX8_init 27 = .ok (.getfield 9, 3) := by decide +kernel
theorem dX8_init_30 : decode cX8_init 30 = .ok (.iconst 2, 1) := by decide +kernel
theorem dX8_init_31 : decode cX8_init 31 = .ok (.bipush 10, 2) := by decide +kernel
theorem dX8_init_33 : decode cX8_init 33 = .ok (.iastore, 1) := by decide +kernel
theorem dX8_init_34 : decode cX8_init 34 = .ok (.aload_n 0, 1) := by decide +kernel
theorem dX8_init_35 : decode cX8_init 35 = .ok (.getfield 9, 3) := by decide +kernel
theorem dX8_init_38 : decode cX8_init 38 = .ok (.iconst 3, 1) := by decide +kernel
theorem dX8_init_39 : decode cX8_init 39 = .ok (.bipush 100, 2) := by decide +kernel
theorem dX8_init_41 : decode cX8_init 41 = .ok (.iastore, 1) := by decide +kernel
theorem dX8_init_42 : decode cX8_init 42 = .ok (.aload_n 0, 1) := by decide +kernel
theorem dX8_init_43 : decode cX8_init 43 = .ok (.getfield 9, 3) := by decide +kernel
theorem dX8_init_46 : decode cX8_init 46 = .ok (.iconst 4, 1) := by decide +kernel
theorem dX8_init_47 : decode cX8_init 47 = .ok (.bipush 100, 2) := by decide +kernel
theorem dX8_init_49 : decode cX8_init 49 = .ok (.iastore, 1) := by decide +kernel
theorem dX8_init_50 : decode cX8_init 50 = .ok (.return_, 1) := by decide +kernel
theorem dX9_init_0 : decode cX9_init 0 = .ok (.aload_n 0, 1) := by decide +kernel
theorem dX9_init_1 : decode cX9_init 1 = .ok (.invokespecial 3, 3) := by decide +kernel
theorem dX9_init_4 : decode cX9_init 4 = .ok (.aload_n 0, 1) := by decide +kernel
theorem dX9_init_5 : decode cX9_init 5 = .ok (.aload_n 1, 1) := by decide +kernel
theorem dX9_init_6 : decode cX9_init 6 = .ok (.putfield 9, 3) := by decide +kernel
theorem dX9_init_9 : decode cX9_init 9 = .ok (.aload_n 0, 1) := by decide +kernel
theorem dX9_init_10 : decode cX9_init 10 = .ok (.aload_n 2, 1) := by decide +kernel
theorem dX9_init_11 : decode cX9_init 11 = .ok (.putfield 13, 3) := by decide +kernel
theorem dX9_init_14 : decode cX9_init 14 = .ok (.aload_n 0, 1) := by decide +kernel
theorem dX9_init_15 : decode cX9_init 15 = .ok (.bipush 6, 2) := by decide +kernel
theorem dX9_init_17 : decode cX9_init 17 = .ok (.newarray .int, 2) := by decide +kernel
theorem dX9_init_19 : decode cX9_init 19 = .ok (.putfield 17, 3) := by decide +kernel
theorem dX9_init_22 : decode cX9_init 22 = .ok (.aload_n 0, 1) := by decide +kernel
theorem dX9_init_23 : decode cX9_init 23 = .ok (.bipush 6, 2) := by decide +kernel
theorem dX9_init_25 : decode cX9_init 25 = .ok (.newarray .int, 2) := by decide +kernel
theorem dX9_init_27 : decode cX9_init 27 = .ok (.putfield 21, 3) := by decide +kernel
theorem dX9_init_30 : decode cX9_init 30 = .ok (.aload_n 0, 1) := by decide +kernel
theorem dX9_init_31 : decode cX9_init 31 = .ok (.bipush 18, 2) := by decide +kernel
theorem dX9_init_33 : decode cX9_init 33 = .ok (.newarray .int, 2) := by decide +kernel
theorem dX9_init_35 : decode cX9_init 35 = .ok (.putfield 24, 3) := by decide +kernel
theorem dX9_init_38 : decode cX9_init 38 = .ok (.aload_n 0, 1) := by decide +kernel
theorem dX9_init_39 : decode cX9_init 39 = .ok (.bipush 18, 2) := by decide +kernel
theorem dX9_init_41 : decode cX9_init 41 = .ok (.newarray .int, 2) := by decide +kernel
theorem dX9_init_43 : decode cX9_init 43 = .ok (.putfield 27, 3) := by decide +kernel
theorem dX9_init_46 : decode cX9_init 46 = .ok (.aload_n 0, 1) := by decide +kernel
theorem dX9_init_47 : decode cX9_init 47 = .ok (.bipush 12, 2) := by decide +kernel
theorem dX9_init_49 : decode cX9_init 49 = .ok (.newarray .int, 2) := by decide +kernel
theorem dX9_init_51 : decode cX9_init 51 = .ok (.putfield 30, 3) := by decide +kernel
theorem dX9_init_54 : decode cX9_init 54 = .ok (.aload_n 0, 1) := by decide +kernel
theorem dX9_init_55 : decode cX9_init 55 = .ok (.bipush 12, 2) := by decide +kernel
theorem dX9_init_57 : decode cX9_init 57 = .ok (.newarray .int, 2) := by decide +kernel
theorem dX9_init_59 : decode cX9_init 59 = .ok (.putfield 33, 3) := by decide +kernel
theorem dX9_init_62 : decode cX9_init 62 = .ok (.aload_n 0, 1) := by decide +kernel
theorem dX9_init_63 : decode cX9_init 63 = .ok (.sipush 216, 3) := by decide +kernel
theorem dX9_init_66 : decode cX9_init 66 = .ok (.newarray .int, 2) := by decide +kernel
theorem dX9_init_68 : decode cX9_init 68 = .ok (.putfield 36, 3) := by decide +kernel
theorem dX9_init_71 : decode cX9_init 71 = .ok (.return_, 1) := by decide +kernel
theorem dX9_addSite_0 : decode cX9_addSite 0 = .ok (.aload_n 0, 1) := by decide +kernel
theorem dX9_addSite_1 : decode cX9_addSite 1 = .ok (.getfield 17, 3) := by decide +kernel
theorem dX9_addSite_4 : decode cX9_addSite 4 = .ok (.aload_n 0, 1) := by decide +kernel
theorem dX9_addSite_5 : decode cX9_addSite 5 = .ok (.getfield 39, 3) := by decide +kernel
theorem dX9_addSite_8 : decode cX9_addSite 8 = .ok (.iload_n 1, 1) := by decide +kernel
theorem dX9_addSite_9 : decode cX9_addSite 9 = .ok (.iastore, 1) := by decide +kernel
theorem dX9_addSite_10 : decode cX9_addSite 10 = .ok (.aload_n 0, 1) := by decide +kernel
theorem dX9_addSite_11 : decode cX9_addSite 11 = .ok (.getfield 21, 3) := by decide +kernel
theorem dX9_addSite_14 : decode cX9_addSite 14 = .ok (.aload_n 0, 1) := by decide +kernel
theorem dX9_addSite_15 : decode cX9_addSite 15 = .ok (.getfield 39, 3) := by decide +kernel
theorem dX9_addSite_18 : decode cX9_addSite 18 = .ok (.iload_n 2, 1) := by decide +kernel
theorem dX9_addSite_19 : decode cX9_addSite 19 = .ok (.iastore, 1) := by decide +kernel
theorem dX9_addSite_20 : decode cX9_addSite 20 = .ok (.aload_n 0, 1) := by decide +kernel
theorem dX9_addSite_21 : decode cX9_addSite 21 = .ok (.getfield 24, 3) := by decide +kernel
theorem dX9_addSite_24 : decode cX9_addSite 24 = .ok (.aload_n 0, 1) := by decide +kernel
theorem dX9_addSite_25 : decode cX9_addSite 25 = .ok (.getfield 39, 3) := by decide +kernel
theorem dX9_addSite_28 : decode cX9_addSite 28 = .ok (.iconst 3, 1) := by decide +kernel
theorem dX9_addSite_29 : decode cX9_addSite 29 = .ok (.imul, 1) := by decide +kernel
theorem dX9_addSite_30 : decode cX9_addSite 30 = .ok (.iconst 1, 1) := by decide +kernel
theorem dX9_addSite_31 : decode cX9_addSite 31 = .ok (.iadd, 1) := by decide +kernel
theorem dX9_addSite_32 : decode cX9_addSite 32 = .ok (.iload_n 3, 1) := by decide +kernel
theorem dX9_addSite_33 : decode cX9_addSite 33 = .ok (.iastore, 1) := by decide +kernel
theorem dX9_addSite_34 : decode cX9_addSite 34 = .ok (.aload_n 0, 1) := by decide +kernel
theorem dX9_addSite_35 : decode cX9_addSite 35 = .ok (.getfield 24, 3) := by decide +kernel
theorem dX9_addSite_38 : decode cX9_addSite 38 = .ok (.aload_n 0, 1) := by decide +kernel
theorem dX9_addSite_39 : decode cX9_addSite 39 = .ok (.getfield 39, 3) := by decide +kernel
theorem dX9_addSite_42 : decode cX9_addSite 42 = .ok (.iconst 3, 1) := by decide +kernel
theorem dX9_addSite_43 : decode cX9_addSite 43 = .ok (.imul, 1) := by decide +kernel
theorem dX9_addSite_44 : decode cX9_addSite 44 = .ok (.iconst 2, 1) := by decide +kernel
theorem dX9_addSite_45 : decode cX9_addSite 45 = .ok (.iadd, 1) := by decide +kernel
theorem dX9_addSite_46 : decode cX9_addSite 46 = .ok (.iload 4, 2) := by decide +kernel
theorem dX9_addSite_48 : decode cX9_addSite 48 = .ok (.iastore, 1) := by decide +kernel
theorem dX9_addSite_49 : decode cX9_addSite 49 = .ok (.aload_n 0, 1) := by decide +kernel
theorem dX9_addSite_50 : decode cX9_addSite 50 = .ok (.getfield 27, 3) := by decide +kernel
theorem dX9_addSite_53 : decode cX9_addSite 53 = .ok (.aload_n 0, 1) := by decide +kernel
theorem dX9_addSite_54 : decode cX9_addSite 54 = .ok (.getfield 39, 3) := by decide +kernel
theorem dX9_addSite_57 : decode cX9_addSite 57 = .ok (.iconst 3, 1) := by decide +kernel
theorem dX9_addSite_58 : decode cX9_addSite 58 = .ok (.imul, 1) := by decide +kernel
theorem dX9_addSite_59 : decode cX9_addSite 59 = .ok (.iconst 1, 1) := by decide +kernel
theorem dX9_addSite_60 : decode cX9_addSite 60 = .ok (.iadd, 1) := by decide +kernel
theorem dX9_addSite_61 : decode cX9_addSite 61 = .ok (.iload 5, 2) := by decide +kernel
theorem dX9_addSite_63 : decode cX9_addSite 63 = .ok (.iastore, 1) := by decide +kernel
theorem dX9_addSite_64 : decode cX9_addSite 64 = .ok (.aload_n 0, 1) := by decide +kernel
theorem dX9_addSite_65 : decode cX9_addSite 65 = .ok (.getfield 27, 3) := by decide +kernel
theorem dX9_addSite_68 : decode cX9_addSite 68 = .ok (.aload_n 0, 1) := by decide +kernel
theorem dX9_addSite_69 : decode cX9_addSite 69 = .ok (.getfield 39, 3) := by decide +kernel
theorem dX9_addSite_72 : decode cX9_addSite 72 = .ok (.iconst 3, 1) := by decide +kernel
theorem dX9_addSite_73 : decode cX9_addSite 73 = .ok (.imul, 1) := by decide +kernel
theorem dX9_addSite_74 : decode cX9_addSite 74 = .ok (.iconst 2, 1) := by decide +kernel
theorem dX9_addSite_75 : decode cX9_addSite 75 = .ok (.iadd, 1) := by decide +kernel
theorem dX9_addSite_76 : decode cX9_addSite 76 = .ok (.iload 6, 2) := by decide +kernel
theorem dX9_addSite_78 : decode cX9_addSite 78 = .ok (.iastore, 1) := by decide +kernel
theorem dX9_addSite_79 : decode cX9_addSite 79 = .ok (.aload_n 0, 1) := by decide +kernel
theorem dX9_addSite_80 : decode cX9_addSite 80 = .ok (.dup, 1) := by decide +kernel
theorem dX9_addSite_81 : decode cX9_addSite 81 = .ok (.getfield 39, 3) := by decide +kernel
theorem dX9_addSite_84 : decode cX9_addSite 84 = .ok (.iconst 1, 1) := by decide +kernel
theorem dX9_addSite_85 : decode cX9_addSite 85 = .ok (.iadd, 1) := by decide +kernel
theorem dX9_addSite_86 : decode cX9_addSite 86 = .ok (.putfield 39, 3) := by decide +kernel
theorem dX9_addSite_89 : decode cX9_addSite 89 = .ok (.aload_n 0, 1) := by decide +kernel
theorem dX9_addSite_90 : decode cX9_addSite 90 = .ok (.getfield 39, 3) := by decide +kernel
theorem dX9_addSite_93 : decode cX9_addSite 93 = .ok (.iconst 1, 1) := by decide +kernel
theorem dX9_addSite_94 : decode cX9_addSite 94 = .ok (.isub, 1) := by decide +kernel
theorem dX9_addSite_95 : decode cX9_addSite 95 = .ok (.ireturn, 1) := by decide +kernel
theorem dX9_addEar_0 : decode cX9_addEar 0 = .ok (.aload_n 0, 1) := by decide +kernel
theorem dX9_addEar_1 : decode cX9_addEar 1 = .ok (.getfield 30, 3) := by decide +kernel
theorem dX9_addEar_4 : decode cX9_addEar 4 = .ok (.aload_n 0, 1) := by decide +kernel
theorem dX9_addEar_5 : decode cX9_addEar 5 = .ok (.getfield 43, 3) := by decide +kernel
theorem dX9_addEar_8 : decode cX9_addEar 8 = .ok (.iload_n 1, 1) := by decide +kernel
theorem dX9_addEar_9 : decode cX9_addEar 9 = .ok (.iastore, 1) := by decide +kernel
theorem dX9_addEar_10 : decode cX9_addEar 10 = .ok (.aload_n 0, 1) := by decide +kernel
theorem dX9_addEar_11 : decode cX9_addEar 11 = .ok (.getfield 33, 3) := by decide +kernel
theorem dX9_addEar_14 : decode cX9_addEar 14 = .ok (.aload_n 0, 1) := by decide +kernel
theorem dX9_addEar_15 : decode cX9_addEar 15 = .ok (.getfield 43, 3) := by decide +kernel
theorem dX9_addEar_18 : decode cX9_addEar 18 = .ok (.iload_n 2, 1) := by decide +kernel
theorem dX9_addEar_19 : decode cX9_addEar 19 = .ok (.iastore, 1) := by decide +kernel
theorem dX9_addEar_20 : decode cX9_addEar 20 = .ok (.aload_n 0, 1) := by decide +kernel
theorem dX9_addEar_21 : decode cX9_addEar 21 = .ok (.dup, 1) := by decide +kernel
theorem dX9_addEar_22 : decode cX9_addEar 22 = .ok (.getfield 43, 3) := by decide +kernel
theorem dX9_addEar_25 : decode cX9_addEar 25 = .ok (.iconst 1, 1) := by decide +kernel
theorem dX9_addEar_26 : decode cX9_addEar 26 = .ok (.iadd, 1) := by decide +kernel
theorem dX9_addEar_27 : decode cX9_addEar 27 = .ok (.putfield 43, 3) := by decide +kernel
theorem dX9_addEar_30 : decode cX9_addEar 30 = .ok (.aload_n 0, 1) := by decide +kernel
theorem dX9_addEar_31 : decode cX9_addEar 31 = .ok (.getfield 43, 3) := by decide +kernel
theorem dX9_addEar_34 : decode cX9_addEar 34 = .ok (.iconst 1, 1) := by decide +kernel
theorem dX9_addEar_35 : decode cX9_addEar 35 = .ok (.isub, 1) := by decide +kernel
theorem dX9_addEar_36 : decode cX9_addEar 36 = .ok (.ireturn, 1) := by decide +kernel
theorem dX9_plans_0 : decode cX9_plans 0 = .ok (.iconst 1, 1) := by decide +kernel
theorem dX9_plans_1 : decode cX9_plans 1 = .ok (.istore_n 1, 1) := by decide +kernel
theorem dX9_plans_2 : decode cX9_plans 2 = .ok (.iconst 0, 1) := by decide +kernel
theorem dX9_plans_3 : decode cX9_plans 3 = .ok (.istore_n 2, 1) := by decide +kernel
theorem dX9_plans_4 : decode cX9_plans 4 = .ok (.iload_n 2, 1) := by decide +kernel
theorem dX9_plans_5 : decode cX9_plans 5 = .ok (.aload_n 0, 1) := by decide +kernel
theorem dX9_plans_6 : decode cX9_plans 6 = .ok (.getfield 39, 3) := by decide +kernel
theorem dX9_plans_9 : decode cX9_plans 9 = .ok (.if_icmp .ge 13, 3) := by decide +kernel
theorem dX9_plans_12 : decode cX9_plans 12 = .ok (.iload_n 1, 1) := by decide +kernel
theorem dX9_plans_13 : decode cX9_plans 13 = .ok (.iconst 3, 1) := by decide +kernel
theorem dX9_plans_14 : decode cX9_plans 14 = .ok (.imul, 1) := by decide +kernel
theorem dX9_plans_15 : decode cX9_plans 15 = .ok (.istore_n 1, 1) := by decide +kernel
theorem dX9_plans_16 : decode cX9_plans 16 = .ok (.iinc 2 1, 3) := by decide +kernel
theorem dX9_plans_19 : decode cX9_plans 19 = .ok (.goto (-15), 3) := by decide +kernel
theorem dX9_plans_22 : decode cX9_plans 22 = .ok (.iload_n 1, 1) := by decide +kernel
theorem dX9_plans_23 : decode cX9_plans 23 = .ok (.ireturn, 1) := by decide +kernel
theorem dX9_measure_0 : decode cX9_measure 0 = .ok (.iconst 0, 1) := by decide +kernel
theorem dX9_measure_1 : decode cX9_measure 1 = .ok (.istore_n 1, 1) := by decide +kernel
theorem dX9_measure_2 : decode cX9_measure 2 = .ok (.iload_n 1, 1) := by decide +kernel
theorem dX9_measure_3 : decode cX9_measure 3 = .ok (.aload_n 0, 1) := by decide +kernel
theorem dX9_measure_4 : decode cX9_measure 4 = .ok (.getfield 39, 3) := by decide +kernel
theorem dX9_measure_7 : decode cX9_measure 7 = .ok (.if_icmp .ge 98, 3) := by decide +kernel
theorem dX9_measure_10 : decode cX9_measure 10 = .ok (.iconst 0, 1) := by decide +kernel
theorem dX9_measure_11 : decode cX9_measure 11 = .ok (.istore_n 2, 1) := by decide +kernel
theorem dX9_measure_12 : decode cX9_measure 12 = .ok (.iload_n 2, 1) := by decide +kernel
theorem dX9_measure_13 : decode cX9_measure 13 = .ok (.aload_n 0, 1) := by decide +kernel
theorem dX9_measure_14 : decode cX9_measure 14 = .ok (.getfield 43, 3) := by decide +kernel
theorem dX9_measure_17 : decode cX9_measure 17 = .ok (.if_icmp .ge 82, 3) := by decide +kernel
theorem dX9_measure_20 : decode cX9_measure 20 = .ok (.aload_n 0, 1) := by decide +kernel
theorem dX9_measure_21 : decode cX9_measure 21 = .ok (.getfield 13, 3) := by decide +kernel
theorem dX9_measure_24 : decode cX9_measure 24 = .ok (.aload_n 0, 1) := by decide +kernel
theorem dX9_measure_25 : decode cX9_measure 25 = .ok (.getfield 17, 3) := by decide +kernel
theorem dX9_measure_28 : decode cX9_measure 28 = .ok (.iload_n 1, 1) := by decide +kernel
theorem dX9_measure_29 : decode cX9_measure 29 = .ok (.iaload, 1) := by decide +kernel
theorem dX9_measure_30 : decode cX9_measure 30 = .ok (.aload_n 0, 1) := by decide +kernel
theorem dX9_measure_31 : decode cX9_measure 31 = .ok (.getfield 21, 3) := by decide +kernel
theorem dX9_measure_34 : decode cX9_measure 34 = .ok (.iload_n 1, 1) := by decide +kernel
theorem dX9_measure_35 : decode cX9_measure 35 = .ok (.iaload, 1) := by decide +kernel
theorem dX9_measure_36 : decode cX9_measure 36 = .ok (.aload_n 0, 1) := by decide +kernel
theorem dX9_measure_37 : decode cX9_measure 37 = .ok (.getfield 30, 3) := by decide +kernel
theorem dX9_measure_40 : decode cX9_measure 40 = .ok (.iload_n 2, 1) := by decide +kernel
theorem dX9_measure_41 : decode cX9_measure 41 = .ok (.iaload, 1) := by decide +kernel
theorem dX9_measure_42 : decode cX9_measure 42 = .ok (.iconst 0, 1) := by decide +kernel
theorem dX9_measure_43 : decode cX9_measure 43 = .ok (.iconst 0, 1) := by decide +kernel
theorem dX9_measure_44 : decode cX9_measure 44 = .ok (.invokevirtual 46, 3) := by decide +kernel
theorem dX9_measure_47 : decode cX9_measure 47 = .ok (.istore_n 3, 1) := by decide +kernel
theorem dX9_measure_48 : decode cX9_measure 48 = .ok (.iload_n 1, 1) := by decide +kernel
theorem dX9_measure_49 : decode cX9_measure 49 = .ok (.iconst 3, 1) := by decide +kernel
theorem dX9_measure_50 : decode cX9_measure 50 = .ok (.imul, 1) := by decide +kernel
theorem dX9_measure_51 : decode cX9_measure 51 = .ok (.istore 4, 2) := by decide +kernel
theorem dX9_measure_53 : decode cX9_measure 53 = .ok (.iload 4, 2) := by decide +kernel
theorem dX9_measure_55 : decode cX9_measure 55 = .ok (.iload_n 1, 1) := by decide +kernel
theorem dX9_measure_56 : decode cX9_measure 56 = .ok (.iconst 1, 1) := by decide +kernel
theorem dX9_measure_57 : decode cX9_measure 57 = .ok (.iadd, 1) := by decide +kernel
theorem dX9_measure_58 : decode cX9_measure 58 = .ok (.iconst 3, 1) := by decide +kernel
theorem dX9_measure_59 : decode cX9_measure 59 = .ok (.imul, 1) := by decide +kernel
theorem dX9_measure_60 : decode cX9_measure 60 = .ok (.if_icmp .ge 33, 3) := by decide +kernel
theorem dX9_measure_63 : decode cX9_measure 63 = .ok (.aload_n 0, 1) := by decide +kernel
theorem dX9_measure_64 : decode cX9_measure 64 = .ok (.getfield 36, 3) := by decide +kernel
theorem dX9_measure_67 : decode cX9_measure 67 = .ok (.iload 4, 2) := by decide +kernel
theorem dX9_measure_69 : decode cX9_measure 69 = .ok (.bipush 12, 2) := by decide +kernel
theorem dX9_measure_71 : decode cX9_measure 71 = .ok (.imul, 1) := by decide +kernel
theorem dX9_measure_72 : decode cX9_measure 72 = .ok (.iload_n 2, 1) := by decide +kernel
theorem dX9_measure_73 : decode cX9_measure 73 = .ok (.iadd, 1) := by decide +kernel
theorem dX9_measure_74 : decode cX9_measure 74 = .ok (.bipush 100, 2) := by decide +kernel
theorem dX9_measure_76 : decode cX9_measure 76 = .ok (.aload_n 0, 1) := by decide +kernel
theorem dX9_measure_77 : decode cX9_measure 77 = .ok (.getfield 24, 3) := by decide +kernel
theorem dX9_measure_80 : decode cX9_measure 80 = .ok (.iload 4, 2) := by decide +kernel
theorem dX9_measure_82 : decode cX9_measure 82 = .ok (.iaload, 1) := by decide +kernel
theorem dX9_measure_83 : decode cX9_measure 83 = .ok (.imul, 1) := by decide +kernel
theorem dX9_measure_84 : decode cX9_measure 84 = .ok (.iload_n 3, 1) := by decide +kernel
theorem dX9_measure_85 : decode cX9_measure 85 = .ok (.idiv, 1) := by decide +kernel
theorem dX9_measure_86 : decode cX9_measure 86 = .ok (.iastore, 1) := by decide +kernel
theorem dX9_measure_87 : decode cX9_measure 87 = .ok (.iinc 4 1, 3) := by decide +kernel
theorem dX9_measure_90 : decode cX9_measure 90 = .ok (.goto (-37), 3) := by decide +kernel
theorem dX9_measure_93 : decode cX9_measure 93 = .ok (.iinc 2 1, 3) := by decide +kernel
theorem dX9_measure_96 : decode cX9_measure 96 = .ok (.goto (-84), 3) := by decide +kernel
theorem dX9_measure_99 : decode cX9_measure 99 = .ok (.iinc 1 1, 3) := by decide +kernel
theorem dX9_measure_102 : decode cX9_measure 102 = .ok (.goto (-100), 3) := by decide +kernel
theorem dX9_measure_105 : decode cX9_measure 105 = .ok (.return_, 1) := by decide +kernel
theorem dX9_worthOf_0 : decode cX9_worthOf 0 = .ok (.iconst 0, 1) := by decide +kernel
theorem dX9_worthOf_1 : decode cX9_worthOf 1 = .ok (.istore_n 2, 1) := by decide +kernel
theorem dX9_worthOf_2 : decode cX9_worthOf 2 = .ok (.iconst 0, 1) := by decide +kernel
theorem dX9_worthOf_3 : decode cX9_worthOf 3 = .ok (.istore_n 3, 1) := by decide +kernel
theorem dX9_worthOf_4 : decode cX9_worthOf 4 = .ok (.iload_n 3, 1) := by decide +kernel
theorem dX9_worthOf_5 : decode cX9_worthOf 5 = .ok (.aload_n 0, 1) := by decide +kernel
theorem dX9_worthOf_6 : decode cX9_worthOf 6 = .ok (.getfield 43, 3) := by decide +kernel
theorem dX9_worthOf_9 : decode cX9_worthOf 9 = .ok (.if_icmp .ge 27, 3) := by decide +kernel
theorem dX9_worthOf_12 : decode cX9_worthOf 12 = .ok (.aload_n 0, 1) := by decide +kernel
theorem dX9_worthOf_13 : decode cX9_worthOf 13 = .ok (.iload_n 3, 1) := by decide +kernel
theorem dX9_worthOf_14 : decode cX9_worthOf 14 = .ok (.iload_n 1, 1) := by decide +kernel
theorem dX9_worthOf_15 : decode cX9_worthOf 15 = .ok (.invokevirtual 52, 3) := by decide +kernel
theorem dX9_worthOf_18 : decode cX9_worthOf 18 = .ok (.ifCond .eq 12, 3) := by decide +kernel
theorem dX9_worthOf_21 : decode cX9_worthOf 21 = .ok (.iload_n 2, 1) := by decide +kernel
theorem dX9_worthOf_22 : decode cX9_worthOf 22 = .ok (.aload_n 0, 1) := by decide +kernel
theorem dX9_worthOf_23 : decode cX9_worthOf 23 = .ok (.getfield 33, 3) := by decide +kernel
theorem dX9_worthOf_26 : decode cX9_worthOf 26 = .ok (.iload_n 3, 1) := by decide +kernel
theorem dX9_worthOf_27 : decode cX9_worthOf 27 = .ok (.iaload, 1) := by decide +kernel
theorem dX9_worthOf_28 : decode cX9_worthOf 28 = .ok (.iadd, 1) := by decide +kernel
theorem dX9_worthOf_29 : decode cX9_worthOf 29 = .ok (.istore_n 2, 1) := by decide +kernel
theorem dX9_worthOf_30 : decode cX9_worthOf 30 = .ok (.iinc 3 1, 3) := by decide +kernel
theorem dX9_worthOf_33 : decode cX9_worthOf 33 = .ok (.goto (-29), 3) := by decide +kernel
theorem dX9_worthOf_36 : decode cX9_worthOf 36 = .ok (.iload_n 2, 1) := by decide +kernel
theorem dX9_worthOf_37 : decode cX9_worthOf 37 = .ok (.ireturn, 1) := by decide +kernel
theorem dX9_isServed_0 : decode cX9_isServed 0 = .ok (.lconst 0, 1) := by decide +kernel
theorem dX9_isServed_1 : decode cX9_isServed 1 = .ok (.lstore_n 3, 1) := by decide +kernel
theorem dX9_isServed_2 : decode cX9_isServed 2 = .ok (.lconst 0, 1) := by decide +kernel
theorem dX9_isServed_3 : decode cX9_isServed 3 = .ok (.lstore 5, 2) := by decide +kernel
theorem dX9_isServed_5 : decode cX9_isServed 5 = .ok (.iload_n 2, 1) := by decide +kernel
theorem dX9_isServed_6 : decode cX9_isServed 6 = .ok (.istore 7, 2) := by decide +kernel
theorem dX9_isServed_8 : decode cX9_isServed 8 = .ok (.iconst 0, 1) := by decide +kernel
theorem dX9_isServed_9 : decode cX9_isServed 9 = .ok (.istore 8, 2) := by decide +kernel
theorem dX9_isServed_11 : decode cX9_isServed 11 = .ok (.iload 8, 2) := by decide +kernel
theorem dX9_isServed_13 : decode cX9_isServed 13 = .ok (.aload_n 0, 1) := by decide +kernel
theorem dX9_isServed_14 : decode cX9_isServed 14 = .ok (.getfield 39, 3) := by decide +kernel
theorem dX9_isServed_17 : decode cX9_isServed 17 = .ok (.if_icmp .ge 52, 3) := by decide +kernel
theorem dX9_isServed_20 : decode cX9_isServed 20 = .ok (.aload_n 0, 1) := by decide +kernel
theorem dX9_isServed_21 : decode cX9_isServed 21 = .ok (.getfield 36, 3) := by decide +kernel
theorem dX9_isServed_24 : decode cX9_isServed 24 = .ok (.iload 8, 2) := by decide +kernel
theorem dX9_isServed_26 : decode cX9_isServed 26 = .ok (.iconst 3, 1) := by decide +kernel
theorem dX9_isServed_27 : decode cX9_isServed 27 = .ok (.imul, 1) := by decide +kernel
theorem dX9_isServed_28 : decode cX9_isServed 28 = .ok (.iload 7, 2) := by decide +kernel
theorem dX9_isServed_30 : decode cX9_isServed 30 = .ok (.iconst 3, 1) := by decide +kernel
theorem dX9_isServed_31 : decode cX9_isServed 31 = .ok (.irem, 1) := by decide +kernel
theorem dX9_isServed_32 : decode cX9_isServed 32 = .ok (.iadd, 1) := by decide +kernel
theorem dX9_isServed_33 : decode cX9_isServed 33 = .ok (.bipush 12, 2) := by decide +kernel
theorem dX9_isServed_35 : decode cX9_isServed 35 = .ok (.imul, 1) := by decide +kernel
theorem dX9_isServed_36 : decode cX9_isServed 36 = .ok (.iload_n 1, 1) := by decide +kernel
theorem dX9_isServed_37 : decode cX9_isServed 37 = .ok (.iadd, 1) := by decide +kernel
theorem dX9_isServed_38 : decode cX9_isServed 38 = .ok (.iaload, 1) := by decide +kernel
theorem dX9_isServed_39 : decode cX9_isServed 39 = .ok (.istore 9, 2) := by decide +kernel
theorem dX9_isServed_41 : decode cX9_isServed 41 = .ok (.lload_n 3, 1) := by decide +kernel
theorem dX9_isServed_42 : decode cX9_isServed 42 = .ok (.iload 9, 2) := by decide +kernel
theorem dX9_isServed_44 : decode cX9_isServed 44 = .ok (.i2l, 1) := by decide +kernel
theorem dX9_isServed_45 : decode cX9_isServed 45 = .ok (.ladd, 1) := by decide +kernel
theorem dX9_isServed_46 : decode cX9_isServed 46 = .ok (.lstore_n 3, 1) := by decide +kernel
theorem dX9_isServed_47 : decode cX9_isServed 47 = .ok (.lload 5, 2) := by decide +kernel
theorem dX9_isServed_49 : decode cX9_isServed 49 = .ok (.iload 9, 2) := by decide +kernel
theorem dX9_isServed_51 : decode cX9_isServed 51 = .ok (.i2l, 1) := by decide +kernel
theorem dX9_isServed_52 : decode cX9_isServed 52 = .ok (.invokestatic 56, 3) := by decide +kernel
theorem dX9_isServed_55 : decode cX9_isServed 55 = .ok (.lstore 5, 2) := by decide +kernel
theorem dX9_isServed_57 : decode cX9_isServed 57 = .ok (.iload 7, 2) := by decide +kernel
theorem dX9_isServed_59 : decode cX9_isServed 59 = .ok (.iconst 3, 1) := by decide +kernel
theorem dX9_isServed_60 : decode cX9_isServed 60 = .ok (.idiv, 1) := by decide +kernel
theorem dX9_isServed_61 : decode cX9_isServed 61 = .ok (.istore 7, 2) := by decide +kernel
theorem dX9_isServed_63 : decode cX9_isServed 63 = .ok (.iinc 8 1, 3) := by decide +kernel
theorem dX9_isServed_66 : decode cX9_isServed 66 = .ok (.goto (-55), 3) := by decide +kernel
theorem dX9_isServed_69 : decode cX9_isServed 69 = .ok (.aload_n 0, 1) := by decide +kernel
theorem dX9_isServed_70 : decode cX9_isServed 70 = .ok (.getfield 9, 3) := by decide +kernel
theorem dX9_isServed_73 : decode cX9_isServed 73 = .ok (.getfield 62, 3) := by decide +kernel
theorem dX9_isServed_76 : decode cX9_isServed 76 = .ok (.iconst 2, 1) := by decide +kernel
theorem dX9_isServed_77 : decode cX9_isServed 77 = .ok (.iaload, 1) := by decide +kernel
theorem dX9_isServed_78 : decode cX9_isServed 78 = .ok (.i2l, 1) := by decide +kernel
theorem dX9_isServed_79 : decode cX9_isServed 79 = .ok (.lload_n 3, 1) := by decide +kernel
theorem dX9_isServed_80 : decode cX9_isServed 80 = .ok (.ladd, 1) := by decide +kernel
theorem dX9_isServed_81 : decode cX9_isServed 81 = .ok (.lload 5, 2) := by decide +kernel
theorem dX9_isServed_83 : decode cX9_isServed 83 = .ok (.lsub, 1) := by decide +kernel
theorem dX9_isServed_84 : decode cX9_isServed 84 = .ok (.lstore 8, 2) := by decide +kernel
theorem dX9_isServed_86 : decode cX9_isServed 86 = .ok (.ldc2_w 67, 3) := by decide +kernel
theorem dX9_isServed_89 : decode cX9_isServed 89 = .ok (.lload 5, 2) := by decide +kernel
theorem dX9_isServed_91 : decode cX9_isServed 91 = .ok (.lmul, 1) := by decide +kernel
theorem dX9_isServed_92 : decode cX9_isServed 92 = .ok (.aload_n 0, 1) := by decide +kernel
theorem dX9_isServed_93 : decode cX9_isServed 93 = .ok (.getfield 9, 3) := by decide +kernel
theorem dX9_isServed_96 : decode cX9_isServed 96 = .ok (.getfield 62, 3) := by decide +kernel
theorem dX9_isServed_99 : decode cX9_isServed 99 = .ok (.iconst 4, 1) := by decide +kernel
theorem dX9_isServed_100 : decode cX9_isServed 100 = .ok (.iaload, 1) := by decide +kernel
theorem dX9_isServed_101 : decode cX9_isServed 101 = .ok (.i2l, 1) := by decide +kernel
theorem dX9_isServed_102 : decode cX9_isServed 102 = .ok (.lload 8, 2) := by decide +kernel
theorem dX9_isServed_104 : decode cX9_isServed 104 = .ok (.lmul, 1) := by decide +kernel
theorem dX9_isServed_105 : decode cX9_isServed 105 = .ok (.lcmp, 1) := by decide +kernel
theorem dX9_isServed_106 : decode cX9_isServed 106 = .ok (.ifCond .lt 7, 3) := by decide +kernel
theorem dX9_isServed_109 : decode cX9_isServed 109 = .ok (.iconst 1, 1) := by decide +kernel
theorem dX9_isServed_110 : decode cX9_isServed 110 = .ok (.goto 4, 3) := by decide +kernel
theorem dX9_isServed_113 : decode cX9_isServed 113 = .ok (.iconst 0, 1) := by decide +kernel
theorem dX9_isServed_114 : decode cX9_isServed 114 = .ok (.ireturn, 1) := by decide +kernel
theorem dX9_priceOf_0 : decode cX9_priceOf 0 = .ok (.iconst 0, 1) := by decide +kernel
theorem dX9_priceOf_1 : decode cX9_priceOf 1 = .ok (.istore_n 2, 1) := by decide +kernel
theorem dX9_priceOf_2 : decode cX9_priceOf 2 = .ok (.iload_n 1, 1) := by decide +kernel
theorem dX9_priceOf_3 : decode cX9_priceOf 3 = .ok (.istore_n 3, 1) := by decide +kernel
theorem dX9_priceOf_4 : decode cX9_priceOf 4 = .ok (.iconst 0, 1) := by decide +kernel
theorem dX9_priceOf_5 : decode cX9_priceOf 5 = .ok (.istore 4, 2) := by decide +kernel
theorem dX9_priceOf_7 : decode cX9_priceOf 7 = .ok (.iload 4, 2) := by decide +kernel
theorem dX9_priceOf_9 : decode cX9_priceOf 9 = .ok (.aload_n 0, 1) := by decide +kernel
theorem dX9_priceOf_10 : decode cX9_priceOf 10 = .ok (.getfield 39, 3) := by decide +kernel
theorem dX9_priceOf_13 : decode cX9_priceOf 13 = .ok (.if_icmp .ge 29, 3) := by decide +kernel
theorem dX9_priceOf_16 : decode cX9_priceOf 16 = .ok (.iload_n 2, 1) := by decide +kernel
theorem dX9_priceOf_17 : decode cX9_priceOf 17 = .ok (.aload_n 0, 1) := by decide +kernel
theorem dX9_priceOf_18 : decode cX9_priceOf 18 = .ok (.getfield 27, 3) := by decide +kernel
theorem dX9_priceOf_21 : decode cX9_priceOf 21 = .ok (.iload 4, 2) := by decide +kernel
theorem dX9_priceOf_23 : decode cX9_priceOf 23 = .ok (.iconst 3, 1) := by decide +kernel
theorem dX9_priceOf_24 : decode cX9_priceOf 24 = .ok (.imul, 1) := by decide +kernel
theorem dX9_priceOf_25 : decode cX9_priceOf 25 = .ok (.iload_n 3, 1) := by decide +kernel
theorem dX9_priceOf_26 : decode cX9_priceOf 26 = .ok (.iconst 3, 1) := by decide +kernel
theorem dX9_priceOf_27 : decode cX9_priceOf 27 = .ok (.irem, 1) := by decide +kernel
theorem dX9_priceOf_28 : decode cX9_priceOf 28 = .ok (.iadd, 1) := by decide +kernel
theorem dX9_priceOf_29 : decode cX9_priceOf 29 = .ok (.iaload, 1) := by decide +kernel
theorem dX9_priceOf_30 : decode cX9_priceOf 30 = .ok (.iadd, 1) := by decide +kernel
theorem dX9_priceOf_31 : decode cX9_priceOf 31 = .ok (.istore_n 2, 1) := by decide +kernel
theorem dX9_priceOf_32 : decode cX9_priceOf 32 = .ok (.iload_n 3, 1) := by decide +kernel
theorem dX9_priceOf_33 : decode cX9_priceOf 33 = .ok (.iconst 3, 1) := by decide +kernel
theorem dX9_priceOf_34 : decode cX9_priceOf 34 = .ok (.idiv, 1) := by decide +kernel
theorem dX9_priceOf_35 : decode cX9_priceOf 35 = .ok (.istore_n 3, 1) := by decide +kernel
theorem dX9_priceOf_36 : decode cX9_priceOf 36 = .ok (.iinc 4 1, 3) := by decide +kernel
theorem dX9_priceOf_39 : decode cX9_priceOf 39 = .ok (.goto (-32), 3) := by decide +kernel
theorem dX9_priceOf_42 : decode cX9_priceOf 42 = .ok (.iload_n 2, 1) := by decide +kernel
theorem dX9_priceOf_43 : decode cX9_priceOf 43 = .ok (.ireturn, 1) := by decide +kernel
theorem dX9_choose_0 : decode cX9_choose 0 = .ok (.aload_n 0, 1) := by decide +kernel
theorem dX9_choose_1 : decode cX9_choose 1 = .ok (.invokevirtual 69, 3) := by decide +kernel
theorem dX9_choose_4 : decode cX9_choose 4 = .ok (.aload_n 0, 1) := by decide +kernel
theorem dX9_choose_5 : decode cX9_choose 5 = .ok (.iconst 0, 1) := by decide +kernel
theorem dX9_choose_6 : decode cX9_choose 6 = .ok (.putfield 72, 3) := by decide +kernel
theorem dX9_choose_9 : decode cX9_choose 9 = .ok (.aload_n 0, 1) := by decide +kernel
theorem dX9_choose_10 : decode cX9_choose 10 = .ok (.iconst 0, 1) := by decide +kernel
theorem dX9_choose_11 : decode cX9_choose 11 = .ok (.putfield 75, 3) := by decide +kernel
theorem dX9_choose_14 : decode cX9_choose 14 = .ok (.aload_n 0, 1) := by decide +kernel
theorem dX9_choose_15 : decode cX9_choose 15 = .ok (.iconst 0, 1) := by decide +kernel
theorem dX9_choose_16 : decode cX9_choose 16 = .ok (.putfield 78, 3) := by decide +kernel
theorem dX9_choose_19 : decode cX9_choose 19 = .ok (.aload_n 0, 1) := by decide +kernel
theorem dX9_choose_20 : decode cX9_choose 20 = .ok (.invokevirtual 81, 3) := by decide +kernel
theorem dX9_choose_23 : decode cX9_choose 23 = .ok (.istore_n 2, 1) := by decide +kernel
theorem dX9_choose_24 : decode cX9_choose 24 = .ok (.iconst 1, 1) := by decide +kernel
theorem dX9_choose_25 : decode cX9_choose 25 = .ok (.istore_n 3, 1) := by decide +kernel
theorem dX9_choose_26 : decode cX9_choose 26 = .ok (.iload_n 3, 1) := by decide +kernel
theorem dX9_choose_27 : decode cX9_choose 27 = .ok (.iload_n 2, 1) := by decide +kernel
theorem dX9_choose_28 : decode cX9_choose 28 = .ok (.if_icmp .ge 75, 3) := by decide +kernel
theorem dX9_choose_31 : decode cX9_choose 31 = .ok (.aload_n 0, 1) := by decide +kernel
theorem dX9_choose_32 : decode cX9_choose 32 = .ok (.iload_n 3, 1) := by decide +kernel
theorem dX9_choose_33 : decode cX9_choose 33 = .ok (.invokevirtual 85, 3) := by decide +kernel
theorem dX9_choose_36 : decode cX9_choose 36 = .ok (.istore 4, 2) := by decide +kernel
theorem dX9_choose_38 : decode cX9_choose 38 = .ok (.iload 4, 2) := by decide +kernel
theorem dX9_choose_40 : decode cX9_choose 40 = .ok (.iload_n 1, 1) := by decide +kernel
theorem dX9_choose_41 : decode cX9_choose 41 = .ok (.if_icmp .gt 56, 3) := by decide +kernel
theorem dX9_choose_44 : decode cX9_choose 44 = .ok (.aload_n 0, 1) := by decide +kernel
theorem dX9_choose_45 : decode cX9_choose 45 = .ok (.iload_n 3, 1) := by decide +kernel
theorem dX9_choose_46 : decode cX9_choose 46 = .ok (.invokevirtual 89, 3) := by decide +kernel
theorem dX9_choose_49 : decode cX9_choose 49 = .ok (.aload_n 0, 1) := by decide +kernel
theorem dX9_choose_50 : decode cX9_choose 50 = .ok (.getfield 75, 3) := by decide +kernel
theorem dX9_choose_53 : decode cX9_choose 53 = .ok (.isub, 1) := by decide +kernel
theorem dX9_choose_54 : decode cX9_choose 54 = .ok (.istore 5, 2) := by decide +kernel
theorem dX9_choose_56 : decode cX9_choose 56 = .ok (.iload 5, 2) := by decide +kernel
theorem dX9_choose_58 : decode cX9_choose 58 = .ok (.ifCond .gt 17, 3) := by decide +kernel
theorem dX9_choose_61 : decode cX9_choose 61 = .ok (.iload 5, 2) := by decide +kernel
theorem dX9_choose_63 : decode cX9_choose 63 = .ok (.ifCond .ne 34, 3) := by decide +kernel
theorem dX9_choose_66 : decode cX9_choose 66 = .ok (.iload 4, 2) := by decide +kernel
theorem dX9_choose_68 : decode cX9_choose 68 = .ok (.aload_n 0, 1) := by decide +kernel
theorem dX9_choose_69 : decode cX9_choose 69 = .ok (.getfield 78, 3) := by decide +kernel
theorem dX9_choose_72 : decode cX9_choose 72 = .ok (.if_icmp .ge 25, 3) := by decide +kernel
theorem dX9_choose_75 : decode cX9_choose 75 = .ok (.aload_n 0, 1) := by decide +kernel
theorem dX9_choose_76 : decode cX9_choose 76 = .ok (.iload_n 3, 1) := by decide +kernel
theorem dX9_choose_77 : decode cX9_choose 77 = .ok (.putfield 72, 3) := by decide +kernel
theorem dX9_choose_80 : decode cX9_choose 80 = .ok (.aload_n 0, 1) := by decide +kernel
theorem dX9_choose_81 : decode cX9_choose 81 = .ok (.dup, 1) := by decide +kernel
theorem dX9_choose_82 : decode cX9_choose 82 = .ok (.getfield 75, 3) := by decide +kernel
theorem dX9_choose_85 : decode cX9_choose 85 = .ok (.iload 5, 2) := by decide +kernel
theorem dX9_choose_87 : decode cX9_choose 87 = .ok (.iadd, 1) := by decide +kernel
theorem dX9_choose_88 : decode cX9_choose 88 = .ok (.putfield 75, 3) := by decide +kernel
theorem dX9_choose_91 : decode cX9_choose 91 = .ok (.aload_n 0, 1) := by decide +kernel
theorem dX9_choose_92 : decode cX9_choose 92 = .ok (.iload 4, 2) := by decide +kernel
theorem dX9_choose_94 : decode cX9_choose 94 = .ok (.putfield 78, 3) := by decide +kernel
theorem dX9_choose_97 : decode cX9_choose 97 = .ok (.iinc 3 1, 3) := by decide +kernel
theorem dX9_choose_100 : decode cX9_choose 100 = .ok (.goto (-74), 3) := by decide +kernel
theorem dX9_choose_103 : decode cX9_choose 103 = .ok (.return_, 1) := by decide +kernel
theorem dX10_init_0 : decode cX10_init 0 = .ok (.aload_n 0, 1) := by decide +kernel
theorem dX10_init_1 : decode cX10_init 1 = .ok (.invokespecial 3, 3) := by decide +kernel
theorem dX10_init_4 : decode cX10_init 4 = .ok (.aload_n 0, 1) := by decide +kernel
theorem dX10_init_5 : decode cX10_init 5 = .ok (.aload_n 1, 1) := by decide +kernel
theorem dX10_init_6 : decode cX10_init 6 = .ok (.putfield 9, 3) := by decide +kernel
theorem dX10_init_9 : decode cX10_init 9 = .ok (.aload_n 0, 1) := by decide +kernel
theorem dX10_init_10 : decode cX10_init 10 = .ok (.bipush 8, 2) := by decide +kernel
theorem dX10_init_12 : decode cX10_init 12 = .ok (.newarray .int, 2) := by decide +kernel
theorem dX10_init_14 : decode cX10_init 14 = .ok (.putfield 15, 3) := by decide +kernel
theorem dX10_init_17 : decode cX10_init 17 = .ok (.aload_n 0, 1) := by decide +kernel
theorem dX10_init_18 : decode cX10_init 18 = .ok (.bipush 8, 2) := by decide +kernel
theorem dX10_init_20 : decode cX10_init 20 = .ok (.newarray .int, 2) := by decide +kernel
theorem dX10_init_22 : decode cX10_init 22 = .ok (.putfield 19, 3) := by decide +kernel
theorem dX10_init_25 : decode cX10_init 25 = .ok (.return_, 1) := by decide +kernel
theorem dX10_add_0 : decode cX10_add 0 = .ok (.aload_n 0, 1) := by decide +kernel
theorem dX10_add_1 : decode cX10_add 1 = .ok (.getfield 15, 3) := by decide +kernel
theorem dX10_add_4 : decode cX10_add 4 = .ok (.aload_n 0, 1) := by decide +kernel
theorem dX10_add_5 : decode cX10_add 5 = .ok (.getfield 22, 3) := by decide +kernel
theorem dX10_add_8 : decode cX10_add 8 = .ok (.iload_n 1, 1) := by decide +kernel
theorem dX10_add_9 : decode cX10_add 9 = .ok (.iastore, 1) := by decide +kernel
theorem dX10_add_10 : decode cX10_add 10 = .ok (.aload_n 0, 1) := by decide +kernel
theorem dX10_add_11 : decode cX10_add 11 = .ok (.getfield 19, 3) := by decide +kernel
theorem dX10_add_14 : decode cX10_add 14 = .ok (.aload_n 0, 1) := by decide +kernel
theorem dX10_add_15 : decode cX10_add 15 = .ok (.getfield 22, 3) := by decide +kernel
theorem dX10_add_18 : decode cX10_add 18 = .ok (.iconst (-1), 1) := by decide +kernel
theorem dX10_add_19 : decode cX10_add 19 = .ok (.iastore, 1) := by decide +kernel
theorem dX10_add_20 : decode cX10_add 20 = .ok (.aload_n 0, 1) := by decide +kernel
theorem dX10_add_21 : decode cX10_add 21 = .ok (.dup, 1) := by decide +kernel
theorem dX10_add_22 : decode cX10_add 22 = .ok (.getfield 22, 3) := by decide +kernel
theorem dX10_add_25 : decode cX10_add 25 = .ok (.iconst 1, 1) := by decide +kernel
theorem dX10_add_26 : decode cX10_add 26 = .ok (.iadd, 1) := by decide +kernel
theorem dX10_add_27 : decode cX10_add 27 = .ok (.putfield 22, 3) := by decide +kernel
theorem dX10_add_30 : decode cX10_add 30 = .ok (.aload_n 0, 1) := by decide +kernel
theorem dX10_add_31 : decode cX10_add 31 = .ok (.getfield 22, 3) := by decide +kernel
theorem dX10_add_34 : decode cX10_add 34 = .ok (.iconst 1, 1) := by decide +kernel
theorem dX10_add_35 : decode cX10_add 35 = .ok (.isub, 1) := by decide +kernel
theorem dX10_add_36 : decode cX10_add 36 = .ok (.ireturn, 1) := by decide +kernel
theorem dX10_readable_0 : decode cX10_readable 0 = .ok (.iconst 0, 1) := by decide +kernel
theorem dX10_readable_1 : decode cX10_readable 1 = .ok (.istore_n 1, 1) := by decide +kernel
theorem dX10_readable_2 : decode cX10_readable 2 = .ok (.iconst 0, 1) := by decide +kernel
theorem dX10_readable_3 : decode cX10_readable 3 = .ok (.istore_n 2, 1) := by decide +kernel
theorem dX10_readable_4 : decode cX10_readable 4 = .ok (.iload_n 2, 1) := by decide +kernel
theorem dX10_readable_5 : decode cX10_readable 5 = .ok (.aload_n 0, 1) := by decide +kernel
theorem dX10_readable_6 : decode cX10_readable 6 = .ok (.getfield 22, 3) := by decide +kernel
theorem dX10_readable_9 : decode cX10_readable 9 = .ok (.if_icmp .ge 22, 3) := by decide +kernel
theorem dX10_readable_12 : decode cX10_readable 12 = .ok (.aload_n 0, 1) := by decide +kernel
theorem dX10_readable_13 : decode cX10_readable 13 = .ok (.getfield 19, 3) := by decide +kernel
theorem dX10_readable_16 : decode cX10_readable 16 = .ok (.iload_n 2, 1) := by decide +kernel
theorem dX10_readable_17 : decode cX10_readable 17 = .ok (.iaload, 1) := by decide +kernel
theorem dX10_readable_18 : decode cX10_readable 18 = .ok (.iconst (-1), 1) := by decide +kernel
theorem dX10_readable_19 : decode cX10_readable 19 = .ok (.if_icmp .eq 6, 3) := by decide +kernel
theorem dX10_readable_22 : decode cX10_readable 22 = .ok (.iinc 1 1, 3) := by decide +kernel
theorem dX10_readable_25 : decode cX10_readable 25 = .ok (.iinc 2 1, 3) := by decide +kernel
theorem dX10_readable_28 : decode cX10_readable 28 = .ok (.goto (-24), 3) := by decide +kernel
theorem dX10_readable_31 : decode cX10_readable 31 = .ok (.iload_n 1, 1) := by decide +kernel
theorem dX10_readable_32 : decode cX10_readable 32 = .ok (.ireturn, 1) := by decide +kernel
theorem dX10_agrees_0 : decode cX10_agrees 0 = .ok (.iconst 0, 1) := by decide +kernel
theorem dX10_agrees_1 : decode cX10_agrees 1 = .ok (.istore 4, 2) := by decide +kernel
theorem dX10_agrees_3 : decode cX10_agrees 3 = .ok (.iload 4, 2) := by decide +kernel
theorem dX10_agrees_5 : decode cX10_agrees 5 = .ok (.aload_n 0, 1) := by decide +kernel
theorem dX10_agrees_6 : decode cX10_agrees 6 = .ok (.getfield 22, 3) := by decide +kernel
theorem dX10_agrees_9 : decode cX10_agrees 9 = .ok (.if_icmp .ge 74, 3) := by decide +kernel
theorem dX10_agrees_12 : decode cX10_agrees 12 = .ok (.aload_n 0, 1) := by decide +kernel
theorem dX10_agrees_13 : decode cX10_agrees 13 = .ok (.getfield 19, 3) := by decide +kernel
theorem dX10_agrees_16 : decode cX10_agrees 16 = .ok (.iload 4, 2) := by decide +kernel
theorem dX10_agrees_18 : decode cX10_agrees 18 = .ok (.iaload, 1) := by decide +kernel
theorem dX10_agrees_19 : decode cX10_agrees 19 = .ok (.iconst (-1), 1) := by decide +kernel
theorem dX10_agrees_20 : decode cX10_agrees 20 = .ok (.if_icmp .eq 57, 3) := by decide +kernel
theorem dX10_agrees_23 : decode cX10_agrees 23 = .ok (.aload_n 0, 1) := by decide +kernel
theorem dX10_agrees_24 : decode cX10_agrees 24 = .ok (.getfield 9, 3) := by decide +kernel
theorem dX10_agrees_27 : decode cX10_agrees 27 = .ok (.iload_n 2, 1) := by decide +kernel
theorem dX10_agrees_28 : decode cX10_agrees 28 = .ok (.iload_n 1, 1) := by decide +kernel
theorem dX10_agrees_29 : decode cX10_agrees 29 = .ok (.iconst 0, 1) := by decide +kernel
theorem dX10_agrees_30 : decode cX10_agrees 30 = .ok (.aload_n 0, 1) := by decide +kernel
theorem dX10_agrees_31 : decode cX10_agrees 31 = .ok (.getfield 15, 3) := by decide +kernel
theorem dX10_agrees_34 : decode cX10_agrees 34 = .ok (.iload 4, 2) := by decide +kernel
theorem dX10_agrees_36 : decode cX10_agrees 36 = .ok (.iaload, 1) := by decide +kernel
theorem dX10_agrees_37 : decode cX10_agrees 37 = .ok (.iconst 0, 1) := by decide +kernel
theorem dX10_agrees_38 : decode cX10_agrees 38 = .ok (.invokevirtual 26, 3) := by decide +kernel
theorem dX10_agrees_41 : decode cX10_agrees 41 = .ok (.i2l, 1) := by decide +kernel
theorem dX10_agrees_42 : decode cX10_agrees 42 = .ok (.lstore 5, 2) := by decide +kernel
theorem dX10_agrees_44 : decode cX10_agrees 44 = .ok (.ldc2_w 32, 3) := by decide +kernel
theorem dX10_agrees_47 : decode cX10_agrees 47 = .ok (.aload_n 0, 1) := by decide +kernel
theorem dX10_agrees_48 : decode cX10_agrees 48 = .ok (.getfield 19, 3) := by decide +kernel
theorem dX10_agrees_51 : decode cX10_agrees 51 = .ok (.iload 4, 2) := by decide +kernel
theorem dX10_agrees_53 : decode cX10_agrees 53 = .ok (.iaload, 1) := by decide +kernel
theorem dX10_agrees_54 : decode cX10_agrees 54 = .ok (.i2l, 1) := by decide +kernel
theorem dX10_agrees_55 : decode cX10_agrees 55 = .ok (.lload 5, 2) := by decide +kernel
theorem dX10_agrees_57 : decode cX10_agrees 57 = .ok (.lsub, 1) := by decide +kernel
theorem dX10_agrees_58 : decode cX10_agrees 58 = .ok (.invokestatic 34, 3) := by decide +kernel
theorem dX10_agrees_61 : decode cX10_agrees 61 = .ok (.lmul, 1) := by decide +kernel
theorem dX10_agrees_62 : decode cX10_agrees 62 = .ok (.iload_n 3, 1) := by decide +kernel
theorem dX10_agrees_63 : decode cX10_agrees 63 = .ok (.i2l, 1) := by decide +kernel
theorem dX10_agrees_64 : decode cX10_agrees 64 = .ok (.lload 5, 2) := by decide +kernel
