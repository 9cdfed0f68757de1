theorem dX9_isDoneAfter_36 : decode cX9_isDoneAfter 36 = .ok (.if_icmp .eq 5, 3) := by decide +kernel
theorem dX9_isDoneAfter_39 : decode cX9_isDoneAfter 39 = .ok (.iconst 0, 1) := by decide +kernel
theorem dX9_isDoneAfter_40 : decode cX9_isDoneAfter 40 = .ok (.ireturn, 1) := by decide +kernel
theorem dX9_isDoneAfter_41 : decode cX9_isDoneAfter 41 = .ok (.iinc 2 1, 3) := by decide +kernel
theorem dX9_isDoneAfter_44 : decode cX9_isDoneAfter 44 = .ok (.goto (-42), 3) := by decide +kernel
theorem dX9_isDoneAfter_47 : decode cX9_isDoneAfter 47 = .ok (.iconst 1, 1) := by decide +kernel
theorem dX9_isDoneAfter_48 : decode cX9_isDoneAfter 48 = .ok (.ireturn, 1) := by decide +kernel
theorem dX10_init_0 : decode cX10_init 0 = .ok (.aload_n 0, 1) := by decide +kernel
theorem dX10_init_1 : decode cX10_init 1 = .ok (.invokespecial 3, 3) := by decide +kernel
theorem dX10_init_4 : decode cX10_init 4 = .ok (.aload_n 0, 1) := by decide +kernel
theorem dX10_init_5 : decode cX10_init 5 = .ok (.new 9, 3) := by decide +kernel
theorem dX10_init_8 : decode cX10_init 8 = .ok (.dup, 1) := by decide +kernel
theorem dX10_init_9 : decode cX10_init 9 = .ok (.invokespecial 11, 3) := by decide +kernel
theorem dX10_init_12 : decode cX10_init 12 = .ok (.putfield 12, 3) := by decide +kernel
theorem dX10_init_15 : decode cX10_init 15 = .ok (.aload_n 0, 1) := by decide +kernel
theorem dX10_init_16 : decode cX10_init 16 = .ok (.new 9, 3) := by decide +kernel
theorem dX10_init_19 : decode cX10_init 19 = .ok (.dup, 1) := by decide +kernel
theorem dX10_init_20 : decode cX10_init 20 = .ok (.invokespecial 11, 3) := by decide +kernel
theorem dX10_init_23 : decode cX10_init 23 = .ok (.putfield 18, 3) := by decide +kernel
theorem dX10_init_26 : decode cX10_init 26 = .ok (.aload_n 0, 1) := by decide +kernel
theorem dX10_init_27 : decode cX10_init 27 = .ok (.iconst 0, 1) := by decide +kernel
theorem dX10_init_28 : decode cX10_init 28 = .ok (.putfield 21, 3) := by decide +kernel
theorem dX10_init_31 : decode cX10_init 31 = .ok (.aload_n 0, 1) := by decide +kernel
theorem dX10_init_32 : decode cX10_init 32 = .ok (.new 25, 3) := by decide +kernel
theorem dX10_init_35 : decode cX10_init 35 = .ok (.dup, 1) := by decide +kernel
theorem dX10_init_36 : decode cX10_init 36 = .ok (.invokespecial 27, 3) := by decide +kernel
theorem dX10_init_39 : decode cX10_init 39 = .ok (.putfield 28, 3) := by decide +kernel
theorem dX10_init_42 : decode cX10_init 42 = .ok (.aload_n 0, 1) := by decide +kernel
theorem dX10_init_43 : decode cX10_init 43 = .ok (.bipush 6, 2) := by decide +kernel
theorem dX10_init_45 : decode cX10_init 45 = .ok (.anewarray 32, 3) := by decide +kernel
theorem dX10_init_48 : decode cX10_init 48 = .ok (.putfield 34, 3) := by decide +kernel
theorem dX10_init_51 : decode cX10_init 51 = .ok (.iconst 0, 1) := by decide +kernel
theorem dX10_init_52 : decode cX10_init 52 = .ok (.istore_n 1, 1) := by decide +kernel
theorem dX10_init_53 : decode cX10_init 53 = .ok (.iload_n 1, 1) := by decide +kernel
theorem dX10_init_54 : decode cX10_init 54 = .ok (.aload_n 0, 1) := by decide +kernel
theorem dX10_init_55 : decode cX10_init 55 = .ok (.getfield 34, 3) := by decide +kernel
theorem dX10_init_58 : decode cX10_init 58 = .ok (.arraylength, 1) := by decide +kernel
theorem dX10_init_59 : decode cX10_init 59 = .ok (.if_icmp .ge 22, 3) := by decide +kernel
theorem dX10_init_62 : decode cX10_init 62 = .ok (.aload_n 0, 1) := by decide +kernel
theorem dX10_init_63 : decode cX10_init 63 = .ok (.getfield 34, 3) := by decide +kernel
theorem dX10_init_66 : decode cX10_init 66 = .ok (.iload_n 1, 1) := by decide +kernel
theorem dX10_init_67 : decode cX10_init 67 = .ok (.new 32, 3) := by decide +kernel
theorem dX10_init_70 : decode cX10_init 70 = .ok (.dup, 1) := by decide +kernel
theorem dX10_init_71 : decode cX10_init 71 = .ok (.invokespecial 38, 3) := by decide +kernel
theorem dX10_init_74 : decode cX10_init 74 = .ok (.aastore, 1) := by decide +kernel
theorem dX10_init_75 : decode cX10_init 75 = .ok (.iinc 1 1, 3) := by decide +kernel
theorem dX10_init_78 : decode cX10_init 78 = .ok (.goto (-25), 3) := by decide +kernel
theorem dX10_init_81 : decode cX10_init 81 = .ok (.aload_n 0, 1) := by decide +kernel
theorem dX10_init_82 : decode cX10_init 82 = .ok (.new 39, 3) := by decide +kernel
theorem dX10_init_85 : decode cX10_init 85 = .ok (.dup, 1) := by decide +kernel
theorem dX10_init_86 : decode cX10_init 86 = .ok (.invokespecial 41, 3) := by decide +kernel
theorem dX10_init_89 : decode cX10_init 89 = .ok (.putfield 42, 3) := by decide +kernel
theorem dX10_init_92 : decode cX10_init 92 = .ok (.aload_n 0, 1) := by decide +kernel
theorem dX10_init_93 : decode cX10_init 93 = .ok (.new 46, 3) := by decide +kernel
theorem dX10_init_96 : decode cX10_init 96 = .ok (.dup, 1) := by decide +kernel
theorem dX10_init_97 : decode cX10_init 97 = .ok (.invokespecial 48, 3) := by decide +kernel
theorem dX10_init_100 : decode cX10_init 100 = .ok (.putfield 49, 3) := by decide +kernel
theorem dX10_init_103 : decode cX10_init 103 = .ok (.aload_n 0, 1) := by decide +kernel
theorem dX10_init_104 : decode cX10_init 104 = .ok (.new 53, 3) := by decide +kernel
theorem dX10_init_107 : decode cX10_init 107 = .ok (.dup, 1) := by decide +kernel
theorem dX10_init_108 : decode cX10_init 108 = .ok (.invokespecial 55, 3) := by decide +kernel
theorem dX10_init_111 : decode cX10_init 111 = .ok (.putfield 56, 3) := by decide +kernel
theorem dX10_init_114 : decode cX10_init 114 = .ok (.aload_n 0, 1) := by decide +kernel
theorem dX10_init_115 : decode cX10_init 115 = .ok (.new 60, 3) := by decide +kernel
theorem dX10_init_118 : decode cX10_init 118 = .ok (.dup, 1) := by decide +kernel
theorem dX10_init_119 : decode cX10_init 119 = .ok (.invokespecial 62, 3) := by decide +kernel
theorem dX10_init_122 : decode cX10_init 122 = .ok (.putfield 63, 3) := by decide +kernel
theorem dX10_init_125 : decode cX10_init 125 = .ok (.aload_n 0, 1) := by decide +kernel
theorem dX10_init_126 : decode cX10_init 126 = .ok (.new 67, 3) := by decide +kernel
theorem dX10_init_129 : decode cX10_init 129 = .ok (.dup, 1) := by decide +kernel
theorem dX10_init_130 : decode cX10_init 130 = .ok (.invokespecial 69, 3) := by decide +kernel
theorem dX10_init_133 : decode cX10_init 133 = .ok (.putfield 70, 3) := by decide +kernel
theorem dX10_init_136 : decode cX10_init 136 = .ok (.aload_n 0, 1) := by decide +kernel
theorem dX10_init_137 : decode cX10_init 137 = .ok (.new 74, 3) := by decide +kernel
theorem dX10_init_140 : decode cX10_init 140 = .ok (.dup, 1) := by decide +kernel
theorem dX10_init_141 : decode cX10_init 141 = .ok (.invokespecial 76, 3) := by decide +kernel
theorem dX10_init_144 : decode cX10_init 144 = .ok (.putfield 77, 3) := by decide +kernel
theorem dX10_init_147 : decode cX10_init 147 = .ok (.aload_n 0, 1) := by decide +kernel
theorem dX10_init_148 : decode cX10_init 148 = .ok (.new 74, 3) := by decide +kernel
theorem dX10_init_151 : decode cX10_init 151 = .ok (.dup, 1) := by decide +kernel
theorem dX10_init_152 : decode cX10_init 152 = .ok (.invokespecial 76, 3) := by decide +kernel
theorem dX10_init_155 : decode cX10_init 155 = .ok (.putfield 81, 3) := by decide +kernel
theorem dX10_init_158 : decode cX10_init 158 = .ok (.return_, 1) := by decide +kernel
theorem dX10_points_0 : decode cX10_points 0 = .ok (.iload_n 1, 1) := by decide +kernel
theorem dX10_points_1 : decode cX10_points 1 = .ok (.iconst 3, 1) := by decide +kernel
theorem dX10_points_2 : decode cX10_points 2 = .ok (.if_icmp .lt 9, 3) := by decide +kernel
theorem dX10_points_5 : decode cX10_points 5 = .ok (.iload_n 1, 1) := by decide +kernel
theorem dX10_points_6 : decode cX10_points 6 = .ok (.bipush 8, 2) := by decide +kernel
theorem dX10_points_8 : decode cX10_points 8 = .ok (.if_icmp .le 6, 3) := by decide +kernel
theorem dX10_points_11 : decode cX10_points 11 = .ok (.bipush (-2), 2) := by decide +kernel
theorem dX10_points_13 : decode cX10_points 13 = .ok (.ireturn, 1) := by decide +kernel
theorem dX10_points_14 : decode cX10_points 14 = .ok (.aload_n 0, 1) := by decide +kernel
theorem dX10_points_15 : decode cX10_points 15 = .ok (.getfield 12, 3) := by decide +kernel
theorem dX10_points_18 : decode cX10_points 18 = .ok (.getfield 84, 3) := by decide +kernel
theorem dX10_points_21 : decode cX10_points 21 = .ok (.istore_n 2, 1) := by decide +kernel
theorem dX10_points_22 : decode cX10_points 22 = .ok (.aload_n 0, 1) := by decide +kernel
theorem dX10_points_23 : decode cX10_points 23 = .ok (.getfield 12, 3) := by decide +kernel
theorem dX10_points_26 : decode cX10_points 26 = .ok (.iload_n 1, 1) := by decide +kernel
theorem dX10_points_27 : decode cX10_points 27 = .ok (.invokevirtual 88, 3) := by decide +kernel
theorem dX10_points_30 : decode cX10_points 30 = .ok (.iload_n 2, 1) := by decide +kernel
theorem dX10_points_31 : decode cX10_points 31 = .ok (.ireturn, 1) := by decide +kernel
theorem dX10_way_0 : decode cX10_way 0 = .ok (.iload_n 1, 1) := by decide +kernel
theorem dX10_way_1 : decode cX10_way 1 = .ok (.ifCond .lt 8, 3) := by decide +kernel
theorem dX10_way_4 : decode cX10_way 4 = .ok (.iload_n 1, 1) := by decide +kernel
theorem dX10_way_5 : decode cX10_way 5 = .ok (.iconst 5, 1) := by decide +kernel
theorem dX10_way_6 : decode cX10_way 6 = .ok (.if_icmp .lt 5, 3) := by decide +kernel
theorem dX10_way_9 : decode cX10_way 9 = .ok (.iconst (-1), 1) := by decide +kernel
theorem dX10_way_10 : decode cX10_way 10 = .ok (.ireturn, 1) := by decide +kernel
theorem dX10_way_11 : decode cX10_way 11 = .ok (.iload_n 2, 1) := by decide +kernel
theorem dX10_way_12 : decode cX10_way 12 = .ok (.ifCond .lt 9, 3) := by decide +kernel
theorem dX10_way_15 : decode cX10_way 15 = .ok (.iload_n 2, 1) := by decide +kernel
theorem dX10_way_16 : decode cX10_way 16 = .ok (.bipush 9, 2) := by decide +kernel
theorem dX10_way_18 : decode cX10_way 18 = .ok (.if_icmp .le 6, 3) := by decide +kernel
theorem dX10_way_21 : decode cX10_way 21 = .ok (.bipush (-2), 2) := by decide +kernel
theorem dX10_way_23 : decode cX10_way 23 = .ok (.ireturn, 1) := by decide +kernel
theorem dX10_way_24 : decode cX10_way 24 = .ok (.iload_n 1, 1) := by decide +kernel
theorem dX10_way_25 : decode cX10_way 25 = .ok (.iconst 2, 1) := by decide +kernel
theorem dX10_way_26 : decode cX10_way 26 = .ok (.if_icmp .ne 20, 3) := by decide +kernel
theorem dX10_way_29 : decode cX10_way 29 = .ok (.iload_n 2, 1) := by decide +kernel
theorem dX10_way_30 : decode cX10_way 30 = .ok (.aload_n 0, 1) := by decide +kernel
theorem dX10_way_31 : decode cX10_way 31 = .ok (.getfield 12, 3) := by decide +kernel
theorem dX10_way_34 : decode cX10_way 34 = .ok (.getfield 84, 3) := by decide +kernel
theorem dX10_way_37 : decode cX10_way 37 = .ok (.invokestatic 92, 3) := by decide +kernel
theorem dX10_way_40 : decode cX10_way 40 = .ok (.ifCond .eq 6, 3) := by decide +kernel
theorem dX10_way_43 : decode cX10_way 43 = .ok (.bipush (-2), 2) := by decide +kernel
theorem dX10_way_45 : decode cX10_way 45 = .ok (.ireturn, 1) := by decide +kernel
theorem dX10_way_46 : decode cX10_way 46 = .ok (.aload_n 0, 1) := by decide +kernel
theorem dX10_way_47 : decode cX10_way 47 = .ok (.getfield 12, 3) := by decide +kernel
theorem dX10_way_50 : decode cX10_way 50 = .ok (.invokevirtual 96, 3) := by decide +kernel
theorem dX10_way_53 : decode cX10_way 53 = .ok (.astore_n 3, 1) := by decide +kernel
theorem dX10_way_54 : decode cX10_way 54 = .ok (.aload_n 3, 1) := by decide +kernel
theorem dX10_way_55 : decode cX10_way 55 = .ok (.ifnonnull 6, 3) := by decide +kernel
theorem dX10_way_58 : decode cX10_way 58 = .ok (.bipush (-4), 2) := by decide +kernel
theorem dX10_way_60 : decode cX10_way 60 = .ok (.ireturn, 1) := by decide +kernel
theorem dX10_way_61 : decode cX10_way 61 = .ok (.aload_n 3, 1) := by decide +kernel
theorem dX10_way_62 : decode cX10_way 62 = .ok (.iload_n 1, 1) := by decide +kernel
theorem dX10_way_63 : decode cX10_way 63 = .ok (.iload_n 2, 1) := by decide +kernel
theorem dX10_way_64 : decode cX10_way 64 = .ok (.aload_n 0, 1) := by decide +kernel
theorem dX10_way_65 : decode cX10_way 65 = .ok (.getfield 12, 3) := by decide +kernel
theorem dX10_way_68 : decode cX10_way 68 = .ok (.getfield 84, 3) := by decide +kernel
theorem dX10_way_71 : decode cX10_way 71 = .ok (.invokevirtual 100, 3) := by decide +kernel
theorem dX10_way_74 : decode cX10_way 74 = .ok (.aload_n 0, 1) := by decide +kernel
theorem dX10_way_75 : decode cX10_way 75 = .ok (.getfield 12, 3) := by decide +kernel
theorem dX10_way_78 : decode cX10_way 78 = .ok (.dup, 1) := by decide +kernel
theorem dX10_way_79 : decode cX10_way 79 = .ok (.getfield 106, 3) := by decide +kernel
theorem dX10_way_82 : decode cX10_way 82 = .ok (.dup_x1, 1) := by decide +kernel
theorem dX10_way_83 : decode cX10_way 83 = .ok (.iconst 1, 1) := by decide +kernel
theorem dX10_way_84 : decode cX10_way 84 = .ok (.iadd, 1) := by decide +kernel
theorem dX10_way_85 : decode cX10_way 85 = .ok (.putfield 106, 3) := by decide +kernel
theorem dX10_way_88 : decode cX10_way 88 = .ok (.ireturn, 1) := by decide +kernel
theorem dX10_hand_0 : decode cX10_hand 0 = .ok (.iload_n 1, 1) := by decide +kernel
theorem dX10_hand_1 : decode cX10_hand 1 = .ok (.aload_n 0, 1) := by decide +kernel
theorem dX10_hand_2 : decode cX10_hand 2 = .ok (.getfield 12, 3) := by decide +kernel
theorem dX10_hand_5 : decode cX10_hand 5 = .ok (.getfield 84, 3) := by decide +kernel
theorem dX10_hand_8 : decode cX10_hand 8 = .ok (.invokestatic 109, 3) := by decide +kernel
theorem dX10_hand_11 : decode cX10_hand 11 = .ok (.ifCond .ne 6, 3) := by decide +kernel
theorem dX10_hand_14 : decode cX10_hand 14 = .ok (.bipush (-2), 2) := by decide +kernel
theorem dX10_hand_16 : decode cX10_hand 16 = .ok (.ireturn, 1) := by decide +kernel
theorem dX10_hand_17 : decode cX10_hand 17 = .ok (.aload_n 0, 1) := by decide +kernel
theorem dX10_hand_18 : decode cX10_hand 18 = .ok (.getfield 12, 3) := by decide +kernel
theorem dX10_hand_21 : decode cX10_hand 21 = .ok (.invokevirtual 96, 3) := by decide +kernel
theorem dX10_hand_24 : decode cX10_hand 24 = .ok (.astore_n 2, 1) := by decide +kernel
theorem dX10_hand_25 : decode cX10_hand 25 = .ok (.aload_n 2, 1) := by decide +kernel
theorem dX10_hand_26 : decode cX10_hand 26 = .ok (.ifnonnull 6, 3) := by decide +kernel
theorem dX10_hand_29 : decode cX10_hand 29 = .ok (.bipush (-4), 2) := by decide +kernel
theorem dX10_hand_31 : decode cX10_hand 31 = .ok (.ireturn, 1) := by decide +kernel
theorem dX10_hand_32 : decode cX10_hand 32 = .ok (.aload_n 2, 1) := by decide +kernel
theorem dX10_hand_33 : decode cX10_hand 33 = .ok (.iload_n 1, 1) := by decide +kernel
theorem dX10_hand_34 : decode cX10_hand 34 = .ok (.aload_n 0, 1) := by decide +kernel
theorem dX10_hand_35 : decode cX10_hand 35 = .ok (.getfield 12, 3) := by decide +kernel
theorem dX10_hand_38 : decode cX10_hand 38 = .ok (.getfield 84, 3) := by decide +kernel
theorem dX10_hand_41 : decode cX10_hand 41 = .ok (.invokevirtual 112, 3) := by decide +kernel
theorem dX10_hand_44 : decode cX10_hand 44 = .ok (.aload_n 0, 1) := by decide +kernel
theorem dX10_hand_45 : decode cX10_hand 45 = .ok (.getfield 12, 3) := by decide +kernel
theorem dX10_hand_48 : decode cX10_hand 48 = .ok (.dup, 1) := by decide +kernel
theorem dX10_hand_49 : decode cX10_hand 49 = .ok (.getfield 106, 3) := by decide +kernel
theorem dX10_hand_52 : decode cX10_hand 52 = .ok (.dup_x1, 1) := by decide +kernel
theorem dX10_hand_53 : decode cX10_hand 53 = .ok (.iconst 1, 1) := by decide +kernel
theorem dX10_hand_54 : decode cX10_hand 54 = .ok (.iadd, 1) := by decide +kernel
theorem dX10_hand_55 : decode cX10_hand 55 = .ok (.putfield 106, 3) := by decide +kernel
theorem dX10_hand_58 : decode cX10_hand 58 = .ok (.ireturn, 1) := by decide +kernel
theorem dX10_drop_0 : decode cX10_drop 0 = .ok (.aload_n 0, 1) := by decide +kernel
theorem dX10_drop_1 : decode cX10_drop 1 = .ok (.getfield 12, 3) := by decide +kernel
theorem dX10_drop_4 : decode cX10_drop 4 = .ok (.iload_n 1, 1) := by decide +kernel
theorem dX10_drop_5 : decode cX10_drop 5 = .ok (.invokevirtual 116, 3) := by decide +kernel
theorem dX10_drop_8 : decode cX10_drop 8 = .ok (.ifnonnull 5, 3) := by decide +kernel
theorem dX10_drop_11 : decode cX10_drop 11 = .ok (.iconst (-1), 1) := by decide +kernel
theorem dX10_drop_12 : decode cX10_drop 12 = .ok (.ireturn, 1) := by decide +kernel
theorem dX10_drop_13 : decode cX10_drop 13 = .ok (.aload_n 0, 1) := by decide +kernel
theorem dX10_drop_14 : decode cX10_drop 14 = .ok (.getfield 12, 3) := by decide +kernel
theorem dX10_drop_17 : decode cX10_drop 17 = .ok (.iload_n 1, 1) := by decide +kernel
theorem dX10_drop_18 : decode cX10_drop 18 = .ok (.invokevirtual 120, 3) := by decide +kernel
theorem dX10_drop_21 : decode cX10_drop 21 = .ok (.aload_n 0, 1) := by decide +kernel
theorem dX10_drop_22 : decode cX10_drop 22 = .ok (.getfield 12, 3) := by decide +kernel
theorem dX10_drop_25 : decode cX10_drop 25 = .ok (.getfield 106, 3) := by decide +kernel
theorem dX10_drop_28 : decode cX10_drop 28 = .ok (.ireturn, 1) := by decide +kernel
theorem dX10_wayOf_0 : decode cX10_wayOf 0 = .ok (.aload_n 0, 1) := by decide +kernel
theorem dX10_wayOf_1 : decode cX10_wayOf 1 = .ok (.getfield 12, 3) := by decide +kernel
theorem dX10_wayOf_4 : decode cX10_wayOf 4 = .ok (.iload_n 1, 1) := by decide +kernel
theorem dX10_wayOf_5 : decode cX10_wayOf 5 = .ok (.invokevirtual 116, 3) := by decide +kernel
theorem dX10_wayOf_8 : decode cX10_wayOf 8 = .ok (.astore_n 3, 1) := by decide +kernel
theorem dX10_wayOf_9 : decode cX10_wayOf 9 = .ok (.aload_n 3, 1) := by decide +kernel
theorem dX10_wayOf_10 : decode cX10_wayOf 10 = .ok (.ifnonnull 5, 3) := by decide +kernel
theorem dX10_wayOf_13 : decode cX10_wayOf 13 = .ok (.iconst (-1), 1) := by decide +kernel
theorem dX10_wayOf_14 : decode cX10_wayOf 14 = .ok (.ireturn, 1) := by decide +kernel
theorem dX10_wayOf_15 : decode cX10_wayOf 15 = .ok (.iload_n 2, 1) := by decide +kernel
theorem dX10_wayOf_16 : decode cX10_wayOf 16 = .ok (.tableswitch 67 0 3 #[32, 37, 42, 62], 32) := by decide +kernel
theorem dX10_wayOf_48 : decode cX10_wayOf 48 = .ok (.aload_n 3, 1) := by decide +kernel
theorem dX10_wayOf_49 : decode cX10_wayOf 49 = .ok (.getfield 123, 3) := by decide +kernel
theorem dX10_wayOf_52 : decode cX10_wayOf 52 = .ok (.ireturn, 1) := by decide +kernel
theorem dX10_wayOf_53 : decode cX10_wayOf 53 = .ok (.aload_n 3, 1) := by decide +kernel
theorem dX10_wayOf_54 : decode cX10_wayOf 54 = .ok (.getfield 126, 3) := by decide +kernel
theorem dX10_wayOf_57 : decode cX10_wayOf 57 = .ok (.ireturn, 1) := by decide +kernel
theorem dX10_wayOf_58 : decode cX10_wayOf 58 = .ok (.aload_n 0, 1) := by decide +kernel
theorem dX10_wayOf_59 : decode cX10_wayOf 59 = .ok (.getfield 12, 3) := by decide +kernel
theorem dX10_wayOf_62 : decode cX10_wayOf 62 = .ok (.getfield 129, 3) := by decide +kernel
theorem dX10_wayOf_65 : decode cX10_wayOf 65 = .ok (.aload_n 3, 1) := by decide +kernel
theorem dX10_wayOf_66 : decode cX10_wayOf 66 = .ok (.invokevirtual 132, 3) := by decide +kernel
theorem dX10_wayOf_69 : decode cX10_wayOf 69 = .ok (.ifCond .eq 7, 3) := by decide +kernel
theorem dX10_wayOf_72 : decode cX10_wayOf 72 = .ok (.iconst 1, 1) := by decide +kernel
theorem dX10_wayOf_73 : decode cX10_wayOf 73 = .ok (.goto 4, 3) := by decide +kernel
theorem dX10_wayOf_76 : decode cX10_wayOf 76 = .ok (.iconst 0, 1) := by decide +kernel
theorem dX10_wayOf_77 : decode cX10_wayOf 77 = .ok (.ireturn, 1) := by decide +kernel
theorem dX10_wayOf_78 : decode cX10_wayOf 78 = .ok (.aload_n 3, 1) := by decide +kernel
theorem dX10_wayOf_79 : decode cX10_wayOf 79 = .ok (.invokevirtual 136, 3) := by decide +kernel
theorem dX10_wayOf_82 : decode cX10_wayOf 82 = .ok (.ireturn, 1) := by decide +kernel
theorem dX10_wayOf_83 : decode cX10_wayOf 83 = .ok (.iconst (-1), 1) := by decide +kernel
theorem dX10_wayOf_84 : decode cX10_wayOf 84 = .ok (.ireturn, 1) := by decide +kernel
theorem dX10_takes_0 : decode cX10_takes 0 = .ok (.aload_n 0, 1) := by decide +kernel
theorem dX10_takes_1 : decode cX10_takes 1 = .ok (.getfield 12, 3) := by decide +kernel
theorem dX10_takes_4 : decode cX10_takes 4 = .ok (.iload_n 1, 1) := by decide +kernel
theorem dX10_takes_5 : decode cX10_takes 5 = .ok (.invokevirtual 116, 3) := by decide +kernel
theorem dX10_takes_8 : decode cX10_takes 8 = .ok (.astore_n 3, 1) := by decide +kernel
theorem dX10_takes_9 : decode cX10_takes 9 = .ok (.aload_n 3, 1) := by decide +kernel
theorem dX10_takes_10 : decode cX10_takes 10 = .ok (.ifnull 14, 3) := by decide +kernel
theorem dX10_takes_13 : decode cX10_takes 13 = .ok (.aload_n 0, 1) := by decide +kernel
theorem dX10_takes_14 : decode cX10_takes 14 = .ok (.getfield 12, 3) := by decide +kernel
theorem dX10_takes_17 : decode cX10_takes 17 = .ok (.iload_n 2, 1) := by decide +kernel
theorem dX10_takes_18 : decode cX10_takes 18 = .ok (.invokevirtual 140, 3) := by decide +kernel
theorem dX10_takes_21 : decode cX10_takes 21 = .ok (.ifCond .ne 5, 3) := by decide +kernel
theorem dX10_takes_24 : decode cX10_takes 24 = .ok (.iconst (-1), 1) := by decide +kernel
theorem dX10_takes_25 : decode cX10_takes 25 = .ok (.ireturn, 1) := by decide +kernel
theorem dX10_takes_26 : decode cX10_takes 26 = .ok (.aload_n 3, 1) := by decide +kernel
theorem dX10_takes_27 : decode cX10_takes 27 = .ok (.iload_n 2, 1) := by decide +kernel
theorem dX10_takes_28 : decode cX10_takes 28 = .ok (.invokevirtual 144, 3) := by decide +kernel
theorem dX10_takes_31 : decode cX10_takes 31 = .ok (.ireturn, 1) := by decide +kernel
theorem dX10_moves_0 : decode cX10_moves 0 = .ok (.aload_n 0, 1) := by decide +kernel
theorem dX10_moves_1 : decode cX10_moves 1 = .ok (.getfield 12, 3) := by decide +kernel
theorem dX10_moves_4 : decode cX10_moves 4 = .ok (.iload_n 1, 1) := by decide +kernel
theorem dX10_moves_5 : decode cX10_moves 5 = .ok (.invokevirtual 116, 3) := by decide +kernel
theorem dX10_moves_8 : decode cX10_moves 8 = .ok (.astore_n 3, 1) := by decide +kernel
theorem dX10_moves_9 : decode cX10_moves 9 = .ok (.aload_n 3, 1) := by decide +kernel
theorem dX10_moves_10 : decode cX10_moves 10 = .ok (.ifnull 14, 3) := by decide +kernel
theorem dX10_moves_13 : decode cX10_moves 13 = .ok (.aload_n 0, 1) := by decide +kernel
theorem dX10_moves_14 : decode cX10_moves 14 = .ok (.getfield 12, 3) := by decide +kernel
theorem dX10_moves_17 : decode cX10_moves 17 = .ok (.iload_n 2, 1) := by decide +kernel
theorem dX10_moves_18 : decode cX10_moves 18 = .ok (.invokevirtual 148, 3) := by decide +kernel
theorem dX10_moves_21 : decode cX10_moves 21 = .ok (.ifCond .ne 5, 3) := by decide +kernel
theorem dX10_moves_24 : decode cX10_moves 24 = .ok (.iconst (-1), 1) := by decide +kernel
theorem dX10_moves_25 : decode cX10_moves 25 = .ok (.ireturn, 1) := by decide +kernel
theorem dX10_moves_26 : decode cX10_moves 26 = .ok (.aload_n 3, 1) := by decide +kernel
theorem dX10_moves_27 : decode cX10_moves 27 = .ok (.iload_n 2, 1) := by decide +kernel
theorem dX10_moves_28 : decode cX10_moves 28 = .ok (.invokevirtual 151, 3) := by decide +kernel
theorem dX10_moves_31 : decode cX10_moves 31 = .ok (.ireturn, 1) := by decide +kernel
theorem dX10_order_0 : decode cX10_order 0 = .ok (.aload_n 0, 1) := by decide +kernel
theorem dX10_order_1 : decode cX10_order 1 = .ok (.getfield 49, 3) := by decide +kernel
theorem dX10_order_4 : decode cX10_order 4 = .ok (.aload_n 0, 1) := by decide +kernel
theorem dX10_order_5 : decode cX10_order 5 = .ok (.getfield 12, 3) := by decide +kernel
theorem dX10_order_8 : decode cX10_order 8 = .ok (.invokevirtual 154, 3) := by decide +kernel
theorem dX10_order_11 : decode cX10_order 11 = .ok (.ireturn, 1) := by decide +kernel
theorem dX10_orbits_0 : decode cX10_orbits 0 = .ok (.aload_n 0, 1) := by decide +kernel
theorem dX10_orbits_1 : decode cX10_orbits 1 = .ok (.getfield 12, 3) := by decide +kernel
theorem dX10_orbits_4 : decode cX10_orbits 4 = .ok (.iload_n 1, 1) := by decide +kernel
theorem dX10_orbits_5 : decode cX10_orbits 5 = .ok (.invokevirtual 158, 3) := by decide +kernel
theorem dX10_orbits_8 : decode cX10_orbits 8 = .ok (.ifCond .ne 6, 3) := by decide +kernel
theorem dX10_orbits_11 : decode cX10_orbits 11 = .ok (.bipush (-2), 2) := by decide +kernel
theorem dX10_orbits_13 : decode cX10_orbits 13 = .ok (.ireturn, 1) := by decide +kernel
theorem dX10_orbits_14 : decode cX10_orbits 14 = .ok (.aload_n 0, 1) := by decide +kernel
theorem dX10_orbits_15 : decode cX10_orbits 15 = .ok (.getfield 42, 3) := by decide +kernel
theorem dX10_orbits_18 : decode cX10_orbits 18 = .ok (.aload_n 0, 1) := by decide +kernel
theorem dX10_orbits_19 : decode cX10_orbits 19 = .ok (.getfield 12, 3) := by decide +kernel
theorem dX10_orbits_22 : decode cX10_orbits 22 = .ok (.invokevirtual 161, 3) := by decide +kernel
theorem dX10_orbits_25 : decode cX10_orbits 25 = .ok (.aload_n 0, 1) := by decide +kernel
theorem dX10_orbits_26 : decode cX10_orbits 26 = .ok (.getfield 42, 3) := by decide +kernel
theorem dX10_orbits_29 : decode cX10_orbits 29 = .ok (.iload_n 1, 1) := by decide +kernel
theorem dX10_orbits_30 : decode cX10_orbits 30 = .ok (.invokevirtual 165, 3) := by decide +kernel
theorem dX10_orbits_33 : decode cX10_orbits 33 = .ok (.ireturn, 1) := by decide +kernel
theorem dX10_orbit_0 : decode cX10_orbit 0 = .ok (.aload_n 0, 1) := by decide +kernel
theorem dX10_orbit_1 : decode cX10_orbit 1 = .ok (.getfield 12, 3) := by decide +kernel
theorem dX10_orbit_4 : decode cX10_orbit 4 = .ok (.iload_n 1, 1) := by decide +kernel
theorem dX10_orbit_5 : decode cX10_orbit 5 = .ok (.invokevirtual 158, 3) := by decide +kernel
theorem dX10_orbit_8 : decode cX10_orbit 8 = .ok (.ifCond .ne 6, 3) := by decide +kernel
theorem dX10_orbit_11 : decode cX10_orbit 11 = .ok (.bipush (-2), 2) := by decide +kernel
theorem dX10_orbit_13 : decode cX10_orbit 13 = .ok (.ireturn, 1) := by decide +kernel
theorem dX10_orbit_14 : decode cX10_orbit 14 = .ok (.aload_n 0, 1) := by decide +kernel
theorem dX10_orbit_15 : decode cX10_orbit 15 = .ok (.getfield 42, 3) := by decide +kernel
theorem dX10_orbit_18 : decode cX10_orbit 18 = .ok (.aload_n 0, 1) := by decide +kernel
theorem dX10_orbit_19 : decode cX10_orbit 19 = .ok (.getfield 12, 3) := by decide +kernel
theorem dX10_orbit_22 : decode cX10_orbit 22 = .ok (.invokevirtual 161, 3) := by decide +kernel
theorem dX10_orbit_25 : decode cX10_orbit 25 = .ok (.aload_n 0, 1) := by decide +kernel
theorem dX10_orbit_26 : decode cX10_orbit 26 = .ok (.getfield 42, 3) := by decide +kernel
theorem dX10_orbit_29 : decode cX10_orbit 29 = .ok (.iload_n 1, 1) := by decide +kernel
theorem dX10_orbit_30 : decode cX10_orbit 30 = .ok (.iload_n 2, 1) := by decide +kernel
theorem dX10_orbit_31 : decode cX10_orbit 31 = .ok (.invokevirtual 168, 3) := by decide +kernel
theorem dX10_orbit_34 : decode cX10_orbit 34 = .ok (.ifCond .ne 5, 3) := by decide +kernel
theorem dX10_orbit_37 : decode cX10_orbit 37 = .ok (.iconst (-1), 1) := by decide +kernel
theorem dX10_orbit_38 : decode cX10_orbit 38 = .ok (.ireturn, 1) := by decide +kernel
theorem dX10_orbit_39 : decode cX10_orbit 39 = .ok (.iload_n 3, 1) := by decide +kernel
theorem dX10_orbit_40 : decode cX10_orbit 40 = .ok (.tableswitch 59 0 2 #[28, 39, 49], 28) := by decide +kernel
theorem dX10_orbit_68 : decode cX10_orbit 68 = .ok (.aload_n 0, 1) := by decide +kernel
theorem dX10_orbit_69 : decode cX10_orbit 69 = .ok (.getfield 42, 3) := by decide +kernel
theorem dX10_orbit_72 : decode cX10_orbit 72 = .ok (.iload_n 1, 1) := by decide +kernel
theorem dX10_orbit_73 : decode cX10_orbit 73 = .ok (.iload_n 2, 1) := by decide +kernel
theorem dX10_orbit_74 : decode cX10_orbit 74 = .ok (.iconst 0, 1) := by decide +kernel
theorem dX10_orbit_75 : decode cX10_orbit 75 = .ok (.invokevirtual 171, 3) := by decide +kernel
theorem dX10_orbit_78 : decode cX10_orbit 78 = .ok (.ireturn, 1) := by decide +kernel
theorem dX10_orbit_79 : decode cX10_orbit 79 = .ok (.aload_n 0, 1) := by decide +kernel
theorem dX10_orbit_80 : decode cX10_orbit 80 = .ok (.getfield 42, 3) := by decide +kernel
theorem dX10_orbit_83 : decode cX10_orbit 83 = .ok (.iload_n 1, 1) := by decide +kernel
theorem dX10_orbit_84 : decode cX10_orbit 84 = .ok (.iload_n 2, 1) := by decide +kernel
theorem dX10_orbit_85 : decode cX10_orbit 85 = .ok (.invokevirtual 175, 3) := by decide +kernel
theorem dX10_orbit_88 : decode cX10_orbit 88 = .ok (.ireturn, 1) := by decide +kernel
theorem dX10_orbit_89 : decode cX10_orbit 89 = .ok (.aload_n 0, 1) := by decide +kernel
theorem dX10_orbit_90 : decode cX10_orbit 90 = .ok (.getfield 42, 3) := by decide +kernel
theorem dX10_orbit_93 : decode cX10_orbit 93 = .ok (.iload_n 1, 1) := by decide +kernel
theorem dX10_orbit_94 : decode cX10_orbit 94 = .ok (.iload_n 2, 1) := by decide +kernel
theorem dX10_orbit_95 : decode cX10_orbit 95 = .ok (.invokevirtual 179, 3) := by decide +kernel
theorem dX10_orbit_98 : decode cX10_orbit 98 = .ok (.ireturn, 1) := by decide +kernel
theorem dX10_orbit_99 : decode cX10_orbit 99 = .ok (.iconst (-1), 1) := by decide +kernel
theorem dX10_orbit_100 : decode cX10_orbit 100 = .ok (.ireturn, 1) := by decide +kernel
theorem dX10_member_0 : decode cX10_member 0 = .ok (.aload_n 0, 1) := by decide +kernel
theorem dX10_member_1 : decode cX10_member 1 = .ok (.getfield 12, 3) := by decide +kernel
theorem dX10_member_4 : decode cX10_member 4 = .ok (.iload_n 1, 1) := by decide +kernel
theorem dX10_member_5 : decode cX10_member 5 = .ok (.invokevirtual 158, 3) := by decide +kernel
theorem dX10_member_8 : decode cX10_member 8 = .ok (.ifCond .ne 6, 3) := by decide +kernel
theorem dX10_member_11 : decode cX10_member 11 = .ok (.bipush (-2), 2) := by decide +kernel
theorem dX10_member_13 : decode cX10_member 13 = .ok (.ireturn, 1) := by decide +kernel
theorem dX10_member_14 : decode cX10_member 14 = .ok (.aload_n 0, 1) := by decide +kernel
theorem dX10_member_15 : decode cX10_member 15 = .ok (.getfield 42, 3) := by decide +kernel
theorem dX10_member_18 : decode cX10_member 18 = .ok (.aload_n 0, 1) := by decide +kernel
theorem dX10_member_19 : decode cX10_member 19 = .ok (.getfield 12, 3) := by decide +kernel
theorem dX10_member_22 : decode cX10_member 22 = .ok (.invokevirtual 161, 3) := by decide +kernel
theorem dX10_member_25 : decode cX10_member 25 = .ok (.aload_n 0, 1) := by decide +kernel
theorem dX10_member_26 : decode cX10_member 26 = .ok (.getfield 42, 3) := by decide +kernel
theorem dX10_member_29 : decode cX10_member 29 = .ok (.iload_n 1, 1) := by decide +kernel
theorem dX10_member_30 : decode cX10_member 30 = .ok (.iload_n 2, 1) := by decide +kernel
theorem dX10_member_31 : decode cX10_member 31 = .ok (.invokevirtual 168, 3) := by decide +kernel
theorem dX10_member_34 : decode cX10_member 34 = .ok (.ifCond .eq 7, 3) := by decide +kernel
theorem dX10_member_37 : decode cX10_member 37 = .ok (.iload_n 3, 1) := by decide +kernel
theorem dX10_member_38 : decode cX10_member 38 = .ok (.ifCond .ge 5, 3) := by decide +kernel
theorem dX10_member_41 : decode cX10_member 41 = .ok (.iconst (-1), 1) := by decide +kernel
theorem dX10_member_42 : decode cX10_member 42 = .ok (.ireturn, 1) := by decide +kernel
theorem dX10_member_43 : decode cX10_member 43 = .ok (.aload_n 0, 1) := by decide +kernel
theorem dX10_member_44 : decode cX10_member 44 = .ok (.getfield 42, 3) := by decide +kernel
theorem dX10_member_47 : decode cX10_member 47 = .ok (.iload_n 1, 1) := by decide +kernel
theorem dX10_member_48 : decode cX10_member 48 = .ok (.iload_n 2, 1) := by decide +kernel
theorem dX10_member_49 : decode cX10_member 49 = .ok (.iload_n 3, 1) := by decide +kernel
theorem dX10_member_50 : decode cX10_member 50 = .ok (.invokevirtual 171, 3) := by decide +kernel
theorem dX10_member_53 : decode cX10_member 53 = .ok (.ireturn, 1) := by decide +kernel
theorem dX10_orbitOf_0 : decode cX10_orbitOf 0 = .ok (.aload_n 0, 1) := by decide +kernel
theorem dX10_orbitOf_1 : decode cX10_orbitOf 1 = .ok (.getfield 12, 3) := by decide +kernel
theorem dX10_orbitOf_4 : decode cX10_orbitOf 4 = .ok (.iload_n 1, 1) := by decide +kernel
theorem dX10_orbitOf_5 : decode cX10_orbitOf 5 = .ok (.invokevirtual 148, 3) := by decide +kernel
theorem dX10_orbitOf_8 : decode cX10_orbitOf 8 = .ok (.ifCond .ne 5, 3) := by decide +kernel
theorem dX10_orbitOf_11 : decode cX10_orbitOf 11 = .ok (.iconst (-1), 1) := by decide +kernel
theorem dX10_orbitOf_12 : decode cX10_orbitOf 12 = .ok (.ireturn, 1) := by decide +kernel
theorem dX10_orbitOf_13 : decode cX10_orbitOf 13 = .ok (.aload_n 0, 1) := by decide +kernel
theorem dX10_orbitOf_14 : decode cX10_orbitOf 14 = .ok (.getfield 42, 3) := by decide +kernel
theorem dX10_orbitOf_17 : decode cX10_orbitOf 17 = .ok (.aload_n 0, 1) := by decide +kernel
theorem dX10_orbitOf_18 : decode cX10_orbitOf 18 = .ok (.getfield 12, 3) := by decide +kernel
theorem dX10_orbitOf_21 : decode cX10_orbitOf 21 = .ok (.invokevirtual 161, 3) := by decide +kernel
theorem dX10_orbitOf_24 : decode cX10_orbitOf 24 = .ok (.aload_n 0, 1) := by decide +kernel
theorem dX10_orbitOf_25 : decode cX10_orbitOf 25 = .ok (.getfield 42, 3) := by decide +kernel
theorem dX10_orbitOf_28 : decode cX10_orbitOf 28 = .ok (.iload_n 1, 1) := by decide +kernel
theorem dX10_orbitOf_29 : decode cX10_orbitOf 29 = .ok (.invokevirtual 182, 3) := by decide +kernel
theorem dX10_orbitOf_32 : decode cX10_orbitOf 32 = .ok (.ireturn, 1) := by decide +kernel
theorem dX10_table_0 : decode cX10_table 0 = .ok (.aload_n 0, 1) := by decide +kernel
theorem dX10_table_1 : decode cX10_table 1 = .ok (.iload_n 1, 1) := by decide +kernel
theorem dX10_table_2 : decode cX10_table 2 = .ok (.iload_n 2, 1) := by decide +kernel
theorem dX10_table_3 : decode cX10_table 3 = .ok (.invokevirtual 185, 3) := by decide +kernel
theorem dX10_table_6 : decode cX10_table 6 = .ok (.ifCond .ne 6, 3) := by decide +kernel
theorem dX10_table_9 : decode cX10_table 9 = .ok (.bipush (-2), 2) := by decide +kernel
theorem dX10_table_11 : decode cX10_table 11 = .ok (.ireturn, 1) := by decide +kernel
theorem dX10_table_12 : decode cX10_table 12 = .ok (.aload_n 0, 1) := by decide +kernel
theorem dX10_table_13 : decode cX10_table 13 = .ok (.getfield 42, 3) := by decide +kernel
theorem dX10_table_16 : decode cX10_table 16 = .ok (.aload_n 0, 1) := by decide +kernel
theorem dX10_table_17 : decode cX10_table 17 = .ok (.getfield 12, 3) := by decide +kernel
theorem dX10_table_20 : decode cX10_table 20 = .ok (.invokevirtual 161, 3) := by decide +kernel
theorem dX10_table_23 : decode cX10_table 23 = .ok (.aload_n 0, 1) := by decide +kernel
theorem dX10_table_24 : decode cX10_table 24 = .ok (.getfield 42, 3) := by decide +kernel
theorem dX10_table_27 : decode cX10_table 27 = .ok (.iload_n 1, 1) := by decide +kernel
theorem dX10_table_28 : decode cX10_table 28 = .ok (.iload_n 3, 1) := by decide +kernel
theorem dX10_table_29 : decode cX10_table 29 = .ok (.invokevirtual 168, 3) := by decide +kernel
theorem dX10_table_32 : decode cX10_table 32 = .ok (.ifCond .eq 16, 3) := by decide +kernel
theorem dX10_table_35 : decode cX10_table 35 = .ok (.aload_n 0, 1) := by decide +kernel
theorem dX10_table_36 : decode cX10_table 36 = .ok (.getfield 42, 3) := by decide +kernel
theorem dX10_table_39 : decode cX10_table 39 = .ok (.iload_n 2, 1) := by decide +kernel
theorem dX10_table_40 : decode cX10_table 40 = .ok (.iload 4, 2) := by decide +kernel
theorem dX10_table_42 : decode cX10_table 42 = .ok (.invokevirtual 168, 3) := by decide +kernel
theorem dX10_table_45 : decode cX10_table 45 = .ok (.ifCond .ne 5, 3) := by decide +kernel
theorem dX10_table_48 : decode cX10_table 48 = .ok (.iconst (-1), 1) := by decide +kernel
theorem dX10_table_49 : decode cX10_table 49 = .ok (.ireturn, 1) := by decide +kernel
theorem dX10_table_50 : decode cX10_table 50 = .ok (.aload_n 0, 1) := by decide +kernel
theorem dX10_table_51 : decode cX10_table 51 = .ok (.getfield 42, 3) := by decide +kernel
theorem dX10_table_54 : decode cX10_table 54 = .ok (.iload_n 2, 1) := by decide +kernel
theorem dX10_table_55 : decode cX10_table 55 = .ok (.iload 4, 2) := by decide +kernel
theorem dX10_table_57 : decode cX10_table 57 = .ok (.aload_n 0, 1) := by decide +kernel
theorem dX10_table_58 : decode cX10_table 58 = .ok (.getfield 42, 3) := by decide +kernel
theorem dX10_table_61 : decode cX10_table 61 = .ok (.iload_n 1, 1) := by decide +kernel
theorem dX10_table_62 : decode cX10_table 62 = .ok (.iload_n 3, 1) := by decide +kernel
theorem dX10_table_63 : decode cX10_table 63 = .ok (.iconst 0, 1) := by decide +kernel
theorem dX10_table_64 : decode cX10_table 64 = .ok (.invokevirtual 171, 3) := by decide +kernel
theorem dX10_table_67 : decode cX10_table 67 = .ok (.invokevirtual 188, 3) := by decide +kernel
theorem dX10_table_70 : decode cX10_table 70 = .ok (.ireturn, 1) := by decide +kernel
theorem dX10_solved_0 : decode cX10_solved 0 = .ok (.aload_n 0, 1) := by decide +kernel
theorem dX10_solved_1 : decode cX10_solved 1 = .ok (.iload_n 1, 1) := by decide +kernel
theorem dX10_solved_2 : decode cX10_solved 2 = .ok (.iload_n 2, 1) := by decide +kernel
theorem dX10_solved_3 : decode cX10_solved 3 = .ok (.invokevirtual 185, 3) := by decide +kernel
theorem dX10_solved_6 : decode cX10_solved 6 = .ok (.ifCond .eq 10, 3) := by decide +kernel
theorem dX10_solved_9 : decode cX10_solved 9 = .ok (.iload_n 3, 1) := by decide +kernel
theorem dX10_solved_10 : decode cX10_solved 10 = .ok (.invokestatic 191, 3) := by decide +kernel
theorem dX10_solved_13 : decode cX10_solved 13 = .ok (.ifCond .ne 6, 3) := by decide +kernel
theorem dX10_solved_16 : decode cX10_solved 16 = .ok (.bipush (-2), 2) := by decide +kernel
theorem dX10_solved_18 : decode cX10_solved 18 = .ok (.ireturn, 1) := by decide +kernel
theorem dX10_solved_19 : decode cX10_solved 19 = .ok (.iload 4, 2) := by decide +kernel
theorem dX10_solved_21 : decode cX10_solved 21 = .ok (.ifCond .lt 9, 3) := by decide +kernel
theorem dX10_solved_24 : decode cX10_solved 24 = .ok (.iload 4, 2) := by decide +kernel
theorem dX10_solved_26 : decode cX10_solved 26 = .ok (.iconst 1, 1) := by decide +kernel
theorem dX10_solved_27 : decode cX10_solved 27 = .ok (.if_icmp .le 5, 3) := by decide +kernel
theorem dX10_solved_30 : decode cX10_solved 30 = .ok (.iconst (-1), 1) := by decide +kernel
theorem dX10_solved_31 : decode cX10_solved 31 = .ok (.ireturn, 1) := by decide +kernel
theorem dX10_solved_32 : decode cX10_solved 32 = .ok (.aload_n 0, 1) := by decide +kernel
theorem dX10_solved_33 : decode cX10_solved 33 = .ok (.iload_n 1, 1) := by decide +kernel
theorem dX10_solved_34 : decode cX10_solved 34 = .ok (.iload_n 2, 1) := by decide +kernel
theorem dX10_solved_35 : decode cX10_solved 35 = .ok (.invokevirtual 194, 3) := by decide +kernel
theorem dX10_solved_38 : decode cX10_solved 38 = .ok (.ifCond .ne 6, 3) := by decide +kernel
theorem dX10_solved_41 : decode cX10_solved 41 = .ok (.bipush (-3), 2) := by decide +kernel
theorem dX10_solved_43 : decode cX10_solved 43 = .ok (.ireturn, 1) := by decide +kernel
theorem dX10_solved_44 : decode cX10_solved 44 = .ok (.aload_n 0, 1) := by decide +kernel
theorem dX10_solved_45 : decode cX10_solved 45 = .ok (.getfield 56, 3) := by decide +kernel
theorem dX10_solved_48 : decode cX10_solved 48 = .ok (.iload_n 3, 1) := by decide +kernel
theorem dX10_solved_49 : decode cX10_solved 49 = .ok (.iconst 0, 1) := by decide +kernel
theorem dX10_solved_50 : decode cX10_solved 50 = .ok (.invokevirtual 197, 3) := by decide +kernel
theorem dX10_solved_53 : decode cX10_solved 53 = .ok (.iload 4, 2) := by decide +kernel
theorem dX10_solved_55 : decode cX10_solved 55 = .ok (.ifCond .ne 13, 3) := by decide +kernel
theorem dX10_solved_58 : decode cX10_solved 58 = .ok (.aload_n 0, 1) := by decide +kernel
theorem dX10_solved_59 : decode cX10_solved 59 = .ok (.getfield 56, 3) := by decide +kernel
theorem dX10_solved_62 : decode cX10_solved 62 = .ok (.getfield 200, 3) := by decide +kernel
theorem dX10_solved_65 : decode cX10_solved 65 = .ok (.goto 10, 3) := by decide +kernel
theorem dX10_solved_68 : decode cX10_solved 68 = .ok (.aload_n 0, 1) := by decide +kernel
theorem dX10_solved_69 : decode cX10_solved 69 = .ok (.getfield 56, 3) := by decide +kernel
theorem dX10_solved_72 : decode cX10_solved 72 = .ok (.getfield 203, 3) := by decide +kernel
theorem dX10_solved_75 : decode cX10_solved 75 = .ok (.ireturn, 1) := by decide +kernel
theorem dX10_solution_0 : decode cX10_solution 0 = .ok (.aload_n 0, 1) := by decide +kernel
theorem dX10_solution_1 : decode cX10_solution 1 = .ok (.iload_n 1, 1) := by decide +kernel
theorem dX10_solution_2 : decode cX10_solution 2 = .ok (.iload_n 2, 1) := by decide +kernel
theorem dX10_solution_3 : decode cX10_solution 3 = .ok (.invokevirtual 185, 3) := by decide +kernel
theorem dX10_solution_6 : decode cX10_solution 6 = .ok (.ifCond .eq 10, 3) := by decide +kernel
theorem dX10_solution_9 : decode cX10_solution 9 = .ok (.iload_n 3, 1) := by decide +kernel
theorem dX10_solution_10 : decode cX10_solution 10 = .ok (.invokestatic 191, 3) := by decide +kernel
theorem dX10_solution_13 : decode cX10_solution 13 = .ok (.ifCond .ne 6, 3) := by decide +kernel
theorem dX10_solution_16 : decode cX10_solution 16 = .ok (.bipush (-2), 2) := by decide +kernel
theorem dX10_solution_18 : decode cX10_solution 18 = .ok (.ireturn, 1) := by decide +kernel
theorem dX10_solution_19 : decode cX10_solution 19 = .ok (.iload 4, 2) := by decide +kernel
theorem dX10_solution_21 : decode cX10_solution 21 = .ok (.ifCond .ge 5, 3) := by decide +kernel
theorem dX10_solution_24 : decode cX10_solution 24 = .ok (.iconst (-1), 1) := by decide +kernel
theorem dX10_solution_25 : decode cX10_solution 25 = .ok (.ireturn, 1) := by decide +kernel
theorem dX10_solution_26 : decode cX10_solution 26 = .ok (.aload_n 0, 1) := by decide +kernel
theorem dX10_solution_27 : decode cX10_solution 27 = .ok (.iload_n 1, 1) := by decide +kernel
theorem dX10_solution_28 : decode cX10_solution 28 = .ok (.iload_n 2, 1) := by decide +kernel
theorem dX10_solution_29 : decode cX10_solution 29 = .ok (.invokevirtual 194, 3) := by decide +kernel
theorem dX10_solution_32 : decode cX10_solution 32 = .ok (.ifCond .ne 6, 3) := by decide +kernel
theorem dX10_solution_35 : decode cX10_solution 35 = .ok (.bipush (-3), 2) := by decide +kernel
theorem dX10_solution_37 : decode cX10_solution 37 = .ok (.ireturn, 1) := by decide +kernel
theorem dX10_solution_38 : decode cX10_solution 38 = .ok (.aload_n 0, 1) := by decide +kernel
theorem dX10_solution_39 : decode cX10_solution 39 = .ok (.getfield 56, 3) := by decide +kernel
theorem dX10_solution_42 : decode cX10_solution 42 = .ok (.iload_n 3, 1) := by decide +kernel
theorem dX10_solution_43 : decode cX10_solution 43 = .ok (.iload 4, 2) := by decide +kernel
theorem dX10_solution_45 : decode cX10_solution 45 = .ok (.invokevirtual 197, 3) := by decide +kernel
theorem dX10_solution_48 : decode cX10_solution 48 = .ok (.aload_n 0, 1) := by decide +kernel
theorem dX10_solution_49 : decode cX10_solution 49 = .ok (.getfield 56, 3) := by decide +kernel
theorem dX10_solution_52 : decode cX10_solution 52 = .ok (.getfield 203, 3) := by decide +kernel
theorem dX10_solution_55 : decode cX10_solution 55 = .ok (.ireturn, 1) := by decide +kernel
theorem dX10_cover_0 : decode cX10_cover 0 = .ok (.aload_n 0, 1) := by decide +kernel
theorem dX10_cover_1 : decode cX10_cover 1 = .ok (.iload_n 1, 1) := by decide +kernel
theorem dX10_cover_2 : decode cX10_cover 2 = .ok (.iload_n 2, 1) := by decide +kernel
theorem dX10_cover_3 : decode cX10_cover 3 = .ok (.invokevirtual 185, 3) := by decide +kernel
theorem dX10_cover_6 : decode cX10_cover 6 = .ok (.ifCond .ne 6, 3) := by decide +kernel
theorem dX10_cover_9 : decode cX10_cover 9 = .ok (.bipush (-2), 2) := by decide +kernel
theorem dX10_cover_11 : decode cX10_cover 11 = .ok (.ireturn, 1) := by decide +kernel
theorem dX10_cover_12 : decode cX10_cover 12 = .ok (.iload_n 3, 1) := by decide +kernel
theorem dX10_cover_13 : decode cX10_cover 13 = .ok (.ifCond .lt 8, 3) := by decide +kernel
theorem dX10_cover_16 : decode cX10_cover 16 = .ok (.iload_n 3, 1) := by decide +kernel
theorem dX10_cover_17 : decode cX10_cover 17 = .ok (.iconst 1, 1) := by decide +kernel
theorem dX10_cover_18 : decode cX10_cover 18 = .ok (.if_icmp .le 5, 3) := by decide +kernel
theorem dX10_cover_21 : decode cX10_cover 21 = .ok (.iconst (-1), 1) := by decide +kernel
theorem dX10_cover_22 : decode cX10_cover 22 = .ok (.ireturn, 1) := by decide +kernel
theorem dX10_cover_23 : decode cX10_cover 23 = .ok (.aload_n 0, 1) := by decide +kernel
theorem dX10_cover_24 : decode cX10_cover 24 = .ok (.iload_n 1, 1) := by decide +kernel
theorem dX10_cover_25 : decode cX10_cover 25 = .ok (.iload_n 2, 1) := by decide +kernel
theorem dX10_cover_26 : decode cX10_cover 26 = .ok (.invokevirtual 194, 3) := by decide +kernel
theorem dX10_cover_29 : decode cX10_cover 29 = .ok (.ifCond .ne 6, 3) := by decide +kernel
theorem dX10_cover_32 : decode cX10_cover 32 = .ok (.bipush (-3), 2) := by decide +kernel
theorem dX10_cover_34 : decode cX10_cover 34 = .ok (.ireturn, 1) := by decide +kernel
theorem dX10_cover_35 : decode cX10_cover 35 = .ok (.aload_n 0, 1) := by decide +kernel
theorem dX10_cover_36 : decode cX10_cover 36 = .ok (.getfield 56, 3) := by decide +kernel
theorem dX10_cover_39 : decode cX10_cover 39 = .ok (.invokevirtual 206, 3) := by decide +kernel
theorem dX10_cover_42 : decode cX10_cover 42 = .ok (.aload_n 0, 1) := by decide +kernel
theorem dX10_cover_43 : decode cX10_cover 43 = .ok (.getfield 56, 3) := by decide +kernel
theorem dX10_cover_46 : decode cX10_cover 46 = .ok (.getfield 203, 3) := by decide +kernel
theorem dX10_cover_49 : decode cX10_cover 49 = .ok (.bipush (-5), 2) := by decide +kernel
theorem dX10_cover_51 : decode cX10_cover 51 = .ok (.if_icmp .ne 6, 3) := by decide +kernel
theorem dX10_cover_54 : decode cX10_cover 54 = .ok (.bipush (-5), 2) := by decide +kernel
theorem dX10_cover_56 : decode cX10_cover 56 = .ok (.ireturn, 1) := by decide +kernel
theorem dX10_cover_57 : decode cX10_cover 57 = .ok (.iload_n 3, 1) := by decide +kernel
theorem dX10_cover_58 : decode cX10_cover 58 = .ok (.ifCond .ne 13, 3) := by decide +kernel
theorem dX10_cover_61 : decode cX10_cover 61 = .ok (.aload_n 0, 1) := by decide +kernel
theorem dX10_cover_62 : decode cX10_cover 62 = .ok (.getfield 56, 3) := by decide +kernel
theorem dX10_cover_65 : decode cX10_cover 65 = .ok (.getfield 209, 3) := by decide +kernel
theorem dX10_cover_68 : decode cX10_cover 68 = .ok (.goto 10, 3) := by decide +kernel
theorem dX10_cover_71 : decode cX10_cover 71 = .ok (.aload_n 0, 1) := by decide +kernel
theorem dX10_cover_72 : decode cX10_cover 72 = .ok (.getfield 56, 3) := by decide +kernel
theorem dX10_cover_75 : decode cX10_cover 75 = .ok (.getfield 203, 3) := by decide +kernel
theorem dX10_cover_78 : decode cX10_cover 78 = .ok (.ireturn, 1) := by decide +kernel
theorem dX10_choose_0 : decode cX10_choose 0 = .ok (.iload_n 1, 1) := by decide +kernel
theorem dX10_choose_1 : decode cX10_choose 1 = .ok (.iconst 1, 1) := by decide +kernel
theorem dX10_choose_2 : decode cX10_choose 2 = .ok (.if_icmp .lt 14, 3) := by decide +kernel
theorem dX10_choose_5 : decode cX10_choose 5 = .ok (.aload_n 0, 1) := by decide +kernel
theorem dX10_choose_6 : decode cX10_choose 6 = .ok (.getfield 12, 3) := by decide +kernel
theorem dX10_choose_9 : decode cX10_choose 9 = .ok (.iload_n 1, 1) := by decide +kernel
theorem dX10_choose_10 : decode cX10_choose 10 = .ok (.invokevirtual 158, 3) := by decide +kernel
theorem dX10_choose_13 : decode cX10_choose 13 = .ok (.ifCond .ne 6, 3) := by decide +kernel
theorem dX10_choose_16 : decode cX10_choose 16 = .ok (.bipush (-2), 2) := by decide +kernel
theorem dX10_choose_18 : decode cX10_choose 18 = .ok (.ireturn, 1) := by decide +kernel
theorem dX10_choose_19 : decode cX10_choose 19 = .ok (.aload_n 0, 1) := by decide +kernel
theorem dX10_choose_20 : decode cX10_choose 20 = .ok (.getfield 42, 3) := by decide +kernel
theorem dX10_choose_23 : decode cX10_choose 23 = .ok (.aload_n 0, 1) := by decide +kernel
theorem dX10_choose_24 : decode cX10_choose 24 = .ok (.getfield 12, 3) := by decide +kernel
theorem dX10_choose_27 : decode cX10_choose 27 = .ok (.invokevirtual 161, 3) := by decide +kernel
theorem dX10_choose_30 : decode cX10_choose 30 = .ok (.iload_n 2, 1) := by decide +kernel
theorem dX10_choose_31 : decode cX10_choose 31 = .ok (.ifCond .lt 18, 3) := by decide +kernel
theorem dX10_choose_34 : decode cX10_choose 34 = .ok (.iload_n 2, 1) := by decide +kernel
theorem dX10_choose_35 : decode cX10_choose 35 = .ok (.aload_n 0, 1) := by decide +kernel
theorem dX10_choose_36 : decode cX10_choose 36 = .ok (.getfield 42, 3) := by decide +kernel
theorem dX10_choose_39 : decode cX10_choose 39 = .ok (.iload_n 1, 1) := by decide +kernel
theorem dX10_choose_40 : decode cX10_choose 40 = .ok (.invokevirtual 165, 3) := by decide +kernel
theorem dX10_choose_43 : decode cX10_choose 43 = .ok (.invokestatic 212, 3) := by decide +kernel
theorem dX10_choose_46 : decode cX10_choose 46 = .ok (.ifCond .eq 5, 3) := by decide +kernel
theorem dX10_choose_49 : decode cX10_choose 49 = .ok (.iconst (-1), 1) := by decide +kernel
theorem dX10_choose_50 : decode cX10_choose 50 = .ok (.ireturn, 1) := by decide +kernel
theorem dX10_choose_51 : decode cX10_choose 51 = .ok (.aload_n 0, 1) := by decide +kernel
theorem dX10_choose_52 : decode cX10_choose 52 = .ok (.getfield 12, 3) := by decide +kernel
theorem dX10_choose_55 : decode cX10_choose 55 = .ok (.getfield 129, 3) := by decide +kernel
theorem dX10_choose_58 : decode cX10_choose 58 = .ok (.aload_n 0, 1) := by decide +kernel
theorem dX10_choose_59 : decode cX10_choose 59 = .ok (.getfield 42, 3) := by decide +kernel
theorem dX10_choose_62 : decode cX10_choose 62 = .ok (.iload_n 1, 1) := by decide +kernel
theorem dX10_choose_63 : decode cX10_choose 63 = .ok (.iload_n 2, 1) := by decide +kernel
theorem dX10_choose_64 : decode cX10_choose 64 = .ok (.invokevirtual 215, 3) := by decide +kernel
theorem dX10_choose_67 : decode cX10_choose 67 = .ok (.aload_n 0, 1) := by decide +kernel
theorem dX10_choose_68 : decode cX10_choose 68 = .ok (.getfield 12, 3) := by decide +kernel
theorem dX10_choose_71 : decode cX10_choose 71 = .ok (.getfield 129, 3) := by decide +kernel
theorem dX10_choose_74 : decode cX10_choose 74 = .ok (.getfield 219, 3) := by decide +kernel
theorem dX10_choose_77 : decode cX10_choose 77 = .ok (.ireturn, 1) := by decide +kernel
theorem dX10_block_0 : decode cX10_block 0 = .ok (.aload_n 0, 1) := by decide +kernel
theorem dX10_block_1 : decode cX10_block 1 = .ok (.getfield 12, 3) := by decide +kernel
theorem dX10_block_4 : decode cX10_block 4 = .ok (.iload_n 1, 1) := by decide +kernel
theorem dX10_block_5 : decode cX10_block 5 = .ok (.invokevirtual 148, 3) := by decide +kernel
theorem dX10_block_8 : decode cX10_block 8 = .ok (.ifCond .eq 20, 3) := by decide +kernel
theorem dX10_block_11 : decode cX10_block 11 = .ok (.iload_n 1, 1) := by decide +kernel
theorem dX10_block_12 : decode cX10_block 12 = .ok (.invokestatic 222, 3) := by decide +kernel
theorem dX10_block_15 : decode cX10_block 15 = .ok (.aload_n 0, 1) := by decide +kernel
theorem dX10_block_16 : decode cX10_block 16 = .ok (.getfield 12, 3) := by decide +kernel
theorem dX10_block_19 : decode cX10_block 19 = .ok (.getfield 129, 3) := by decide +kernel
theorem dX10_block_22 : decode cX10_block 22 = .ok (.getfield 227, 3) := by decide +kernel
theorem dX10_block_25 : decode cX10_block 25 = .ok (.if_icmp .eq 5, 3) := by decide +kernel
theorem dX10_block_28 : decode cX10_block 28 = .ok (.iconst (-1), 1) := by decide +kernel
theorem dX10_block_29 : decode cX10_block 29 = .ok (.ireturn, 1) := by decide +kernel
theorem dX10_block_30 : decode cX10_block 30 = .ok (.aload_n 0, 1) := by decide +kernel
theorem dX10_block_31 : decode cX10_block 31 = .ok (.getfield 12, 3) := by decide +kernel
theorem dX10_block_34 : decode cX10_block 34 = .ok (.getfield 129, 3) := by decide +kernel
theorem dX10_block_37 : decode cX10_block 37 = .ok (.iload_n 1, 1) := by decide +kernel
theorem dX10_block_38 : decode cX10_block 38 = .ok (.aload_n 0, 1) := by decide +kernel
theorem dX10_block_39 : decode cX10_block 39 = .ok (.getfield 12, 3) := by decide +kernel
theorem dX10_block_42 : decode cX10_block 42 = .ok (.getfield 129, 3) := by decide +kernel
theorem dX10_block_45 : decode cX10_block 45 = .ok (.iload_n 1, 1) := by decide +kernel
theorem dX10_block_46 : decode cX10_block 46 = .ok (.invokevirtual 230, 3) := by decide +kernel
theorem dX10_block_49 : decode cX10_block 49 = .ok (.ifCond .ne 7, 3) := by decide +kernel
theorem dX10_block_52 : decode cX10_block 52 = .ok (.iconst 1, 1) := by decide +kernel
theorem dX10_block_53 : decode cX10_block 53 = .ok (.goto 4, 3) := by decide +kernel
theorem dX10_block_56 : decode cX10_block 56 = .ok (.iconst 0, 1) := by decide +kernel
theorem dX10_block_57 : decode cX10_block 57 = .ok (.invokevirtual 233, 3) := by decide +kernel
theorem dX10_block_60 : decode cX10_block 60 = .ok (.aload_n 0, 1) := by decide +kernel
theorem dX10_block_61 : decode cX10_block 61 = .ok (.getfield 12, 3) := by decide +kernel
theorem dX10_block_64 : decode cX10_block 64 = .ok (.getfield 129, 3) := by decide +kernel
theorem dX10_block_67 : decode cX10_block 67 = .ok (.getfield 219, 3) := by decide +kernel
theorem dX10_block_70 : decode cX10_block 70 = .ok (.ireturn, 1) := by decide +kernel
theorem dX10_blockOf_0 : decode cX10_blockOf 0 = .ok (.iload_n 1, 1) := by decide +kernel
theorem dX10_blockOf_1 : decode cX10_blockOf 1 = .ok (.ifCond .ge 5, 3) := by decide +kernel
theorem dX10_blockOf_4 : decode cX10_blockOf 4 = .ok (.iconst (-1), 1) := by decide +kernel
theorem dX10_blockOf_5 : decode cX10_blockOf 5 = .ok (.ireturn, 1) := by decide +kernel
theorem dX10_blockOf_6 : decode cX10_blockOf 6 = .ok (.aload_n 0, 1) := by decide +kernel
theorem dX10_blockOf_7 : decode cX10_blockOf 7 = .ok (.getfield 12, 3) := by decide +kernel
theorem dX10_blockOf_10 : decode cX10_blockOf 10 = .ok (.getfield 129, 3) := by decide +kernel
theorem dX10_blockOf_13 : decode cX10_blockOf 13 = .ok (.iload_n 1, 1) := by decide +kernel
theorem dX10_blockOf_14 : decode cX10_blockOf 14 = .ok (.invokevirtual 237, 3) := by decide +kernel
theorem dX10_blockOf_17 : decode cX10_blockOf 17 = .ok (.ireturn, 1) := by decide +kernel
theorem dX10_blocks_0 : decode cX10_blocks 0 = .ok (.iload_n 1, 1) := by decide +kernel
theorem dX10_blocks_1 : decode cX10_blocks 1 = .ok (.tableswitch 85 0 3 #[31, 42, 53, 71], 31) := by decide +kernel
theorem dX10_blocks_32 : decode cX10_blocks 32 = .ok (.aload_n 0, 1) := by decide +kernel
theorem dX10_blocks_33 : decode cX10_blocks 33 = .ok (.getfield 12, 3) := by decide +kernel
theorem dX10_blocks_36 : decode cX10_blocks 36 = .ok (.getfield 129, 3) := by decide +kernel
theorem dX10_blocks_39 : decode cX10_blocks 39 = .ok (.getfield 227, 3) := by decide +kernel
theorem dX10_blocks_42 : decode cX10_blocks 42 = .ok (.ireturn, 1) := by decide +kernel
theorem dX10_blocks_43 : decode cX10_blocks 43 = .ok (.aload_n 0, 1) := by decide +kernel
theorem dX10_blocks_44 : decode cX10_blocks 44 = .ok (.getfield 12, 3) := by decide +kernel
theorem dX10_blocks_47 : decode cX10_blocks 47 = .ok (.getfield 129, 3) := by decide +kernel
theorem dX10_blocks_50 : decode cX10_blocks 50 = .ok (.getfield 219, 3) := by decide +kernel
theorem dX10_blocks_53 : decode cX10_blocks 53 = .ok (.ireturn, 1) := by decide +kernel
theorem dX10_blocks_54 : decode cX10_blocks 54 = .ok (.aload_n 0, 1) := by decide +kernel
theorem dX10_blocks_55 : decode cX10_blocks 55 = .ok (.getfield 12, 3) := by decide +kernel
theorem dX10_blocks_58 : decode cX10_blocks 58 = .ok (.getfield 129, 3) := by decide +kernel
theorem dX10_blocks_61 : decode cX10_blocks 61 = .ok (.aload_n 0, 1) := by decide +kernel
theorem dX10_blocks_62 : decode cX10_blocks 62 = .ok (.getfield 12, 3) := by decide +kernel
theorem dX10_blocks_65 : decode cX10_blocks 65 = .ok (.invokevirtual 239, 3) := by decide +kernel
theorem dX10_blocks_68 : decode cX10_blocks 68 = .ok (.invokevirtual 242, 3) := by decide +kernel
theorem dX10_blocks_71 : decode cX10_blocks 71 = .ok (.ireturn, 1) := by decide +kernel
theorem dX10_blocks_72 : decode cX10_blocks 72 = .ok (.aload_n 0, 1) := by decide +kernel
theorem dX10_blocks_73 : decode cX10_blocks 73 = .ok (.getfield 12, 3) := by decide +kernel
theorem dX10_blocks_76 : decode cX10_blocks 76 = .ok (.getfield 129, 3) := by decide +kernel
theorem dX10_blocks_79 : decode cX10_blocks 79 = .ok (.invokevirtual 245, 3) := by decide +kernel
theorem dX10_blocks_82 : decode cX10_blocks 82 = .ok (.invokestatic 222, 3) := by decide +kernel
theorem dX10_blocks_85 : decode cX10_blocks 85 = .ok (.ireturn, 1) := by decide +kernel
theorem dX10_blocks_86 : decode cX10_blocks 86 = .ok (.iconst (-1), 1) := by decide +kernel
theorem dX10_blocks_87 : decode cX10_blocks 87 = .ok (.ireturn, 1) := by decide +kernel
theorem dX10_share_0 : decode cX10_share 0 = .ok (.iload_n 1, 1) := by decide +kernel
theorem dX10_share_1 : decode cX10_share 1 = .ok (.ifCond .lt 17, 3) := by decide +kernel
theorem dX10_share_4 : decode cX10_share 4 = .ok (.iload_n 1, 1) := by decide +kernel
theorem dX10_share_5 : decode cX10_share 5 = .ok (.aload_n 0, 1) := by decide +kernel
theorem dX10_share_6 : decode cX10_share 6 = .ok (.getfield 12, 3) := by decide +kernel
theorem dX10_share_9 : decode cX10_share 9 = .ok (.getfield 129, 3) := by decide +kernel
theorem dX10_share_12 : decode cX10_share 12 = .ok (.getfield 227, 3) := by decide +kernel
theorem dX10_share_15 : decode cX10_share 15 = .ok (.if_icmp .le 6, 3) := by decide +kernel
theorem dX10_share_18 : decode cX10_share 18 = .ok (.bipush (-2), 2) := by decide +kernel
theorem dX10_share_20 : decode cX10_share 20 = .ok (.ireturn, 1) := by decide +kernel
theorem dX10_share_21 : decode cX10_share 21 = .ok (.aload_n 0, 1) := by decide +kernel
theorem dX10_share_22 : decode cX10_share 22 = .ok (.getfield 12, 3) := by decide +kernel
theorem dX10_share_25 : decode cX10_share 25 = .ok (.getfield 129, 3) := by decide +kernel
theorem dX10_share_28 : decode cX10_share 28 = .ok (.aload_n 0, 1) := by decide +kernel
theorem dX10_share_29 : decode cX10_share 29 = .ok (.getfield 12, 3) := by decide +kernel
theorem dX10_share_32 : decode cX10_share 32 = .ok (.invokevirtual 239, 3) := by decide +kernel
theorem dX10_share_35 : decode cX10_share 35 = .ok (.iload_n 1, 1) := by decide +kernel
theorem dX10_share_36 : decode cX10_share 36 = .ok (.invokevirtual 248, 3) := by decide +kernel
theorem dX10_share_39 : decode cX10_share 39 = .ok (.ireturn, 1) := by decide +kernel
theorem dX10_meets_0 : decode cX10_meets 0 = .ok (.aload_n 0, 1) := by decide +kernel
theorem dX10_meets_1 : decode cX10_meets 1 = .ok (.getfield 12, 3) := by decide +kernel
theorem dX10_meets_4 : decode cX10_meets 4 = .ok (.iload_n 1, 1) := by decide +kernel
theorem dX10_meets_5 : decode cX10_meets 5 = .ok (.invokevirtual 148, 3) := by decide +kernel
theorem dX10_meets_8 : decode cX10_meets 8 = .ok (.ifCond .ne 5, 3) := by decide +kernel
theorem dX10_meets_11 : decode cX10_meets 11 = .ok (.iconst (-1), 1) := by decide +kernel
theorem dX10_meets_12 : decode cX10_meets 12 = .ok (.ireturn, 1) := by decide +kernel
theorem dX10_meets_13 : decode cX10_meets 13 = .ok (.iload_n 2, 1) := by decide +kernel
theorem dX10_meets_14 : decode cX10_meets 14 = .ok (.ifCond .lt 9, 3) := by decide +kernel
theorem dX10_meets_17 : decode cX10_meets 17 = .ok (.iload_n 2, 1) := by decide +kernel
theorem dX10_meets_18 : decode cX10_meets 18 = .ok (.bipush 8, 2) := by decide +kernel
theorem dX10_meets_20 : decode cX10_meets 20 = .ok (.if_icmp .le 6, 3) := by decide +kernel
theorem dX10_meets_23 : decode cX10_meets 23 = .ok (.bipush (-2), 2) := by decide +kernel
theorem dX10_meets_25 : decode cX10_meets 25 = .ok (.ireturn, 1) := by decide +kernel
theorem dX10_meets_26 : decode cX10_meets 26 = .ok (.aload_n 0, 1) := by decide +kernel
theorem dX10_meets_27 : decode cX10_meets 27 = .ok (.getfield 12, 3) := by decide +kernel
theorem dX10_meets_30 : decode cX10_meets 30 = .ok (.getfield 129, 3) := by decide +kernel
theorem dX10_meets_33 : decode cX10_meets 33 = .ok (.iload_n 1, 1) := by decide +kernel
theorem dX10_meets_34 : decode cX10_meets 34 = .ok (.iload_n 2, 1) := by decide +kernel
theorem dX10_meets_35 : decode cX10_meets 35 = .ok (.invokevirtual 251, 3) := by decide +kernel
theorem dX10_meets_38 : decode cX10_meets 38 = .ok (.ireturn, 1) := by decide +kernel
theorem dX10_turned_0 : decode cX10_turned 0 = .ok (.aload_n 0, 1) := by decide +kernel
theorem dX10_turned_1 : decode cX10_turned 1 = .ok (.getfield 12, 3) := by decide +kernel
theorem dX10_turned_4 : decode cX10_turned 4 = .ok (.getfield 129, 3) := by decide +kernel
theorem dX10_turned_7 : decode cX10_turned 7 = .ok (.getfield 227, 3) := by decide +kernel
theorem dX10_turned_10 : decode cX10_turned 10 = .ok (.aload_n 0, 1) := by decide +kernel
theorem dX10_turned_11 : decode cX10_turned 11 = .ok (.getfield 12, 3) := by decide +kernel
theorem dX10_turned_14 : decode cX10_turned 14 = .ok (.getfield 84, 3) := by decide +kernel
theorem dX10_turned_17 : decode cX10_turned 17 = .ok (.if_icmp .ne 6, 3) := by decide +kernel
theorem dX10_turned_20 : decode cX10_turned 20 = .ok (.bipush (-3), 2) := by decide +kernel
theorem dX10_turned_22 : decode cX10_turned 22 = .ok (.ireturn, 1) := by decide +kernel
theorem dX10_turned_23 : decode cX10_turned 23 = .ok (.aload_n 0, 1) := by decide +kernel
theorem dX10_turned_24 : decode cX10_turned 24 = .ok (.getfield 12, 3) := by decide +kernel
theorem dX10_turned_27 : decode cX10_turned 27 = .ok (.getfield 129, 3) := by decide +kernel
theorem dX10_turned_30 : decode cX10_turned 30 = .ok (.aload_n 0, 1) := by decide +kernel
theorem dX10_turned_31 : decode cX10_turned 31 = .ok (.getfield 12, 3) := by decide +kernel
theorem dX10_turned_34 : decode cX10_turned 34 = .ok (.getfield 84, 3) := by decide +kernel
theorem dX10_turned_37 : decode cX10_turned 37 = .ok (.invokevirtual 254, 3) := by decide +kernel
theorem dX10_turned_40 : decode cX10_turned 40 = .ok (.aload_n 0, 1) := by decide +kernel
theorem dX10_turned_41 : decode cX10_turned 41 = .ok (.getfield 12, 3) := by decide +kernel
theorem dX10_turned_44 : decode cX10_turned 44 = .ok (.getfield 129, 3) := by decide +kernel
theorem dX10_turned_47 : decode cX10_turned 47 = .ok (.getfield 219, 3) := by decide +kernel
theorem dX10_turned_50 : decode cX10_turned 50 = .ok (.ireturn, 1) := by decide +kernel
theorem dX10_parted_0 : decode cX10_parted 0 = .ok (.aload_n 0, 1) := by decide +kernel
theorem dX10_parted_1 : decode cX10_parted 1 = .ok (.getfield 12, 3) := by decide +kernel
theorem dX10_parted_4 : decode cX10_parted 4 = .ok (.iload_n 1, 1) := by decide +kernel
theorem dX10_parted_5 : decode cX10_parted 5 = .ok (.invokevirtual 140, 3) := by decide +kernel
theorem dX10_parted_8 : decode cX10_parted 8 = .ok (.ifCond .eq 12, 3) := by decide +kernel
theorem dX10_parted_11 : decode cX10_parted 11 = .ok (.iload_n 2, 1) := by decide +kernel
theorem dX10_parted_12 : decode cX10_parted 12 = .ok (.ifCond .lt 8, 3) := by decide +kernel
theorem dX10_parted_15 : decode cX10_parted 15 = .ok (.iload_n 2, 1) := by decide +kernel
theorem dX10_parted_16 : decode cX10_parted 16 = .ok (.iconst 2, 1) := by decide +kernel
theorem dX10_parted_17 : decode cX10_parted 17 = .ok (.if_icmp .le 5, 3) := by decide +kernel
theorem dX10_parted_20 : decode cX10_parted 20 = .ok (.iconst (-1), 1) := by decide +kernel
theorem dX10_parted_21 : decode cX10_parted 21 = .ok (.ireturn, 1) := by decide +kernel
theorem dX10_parted_22 : decode cX10_parted 22 = .ok (.aload_n 0, 1) := by decide +kernel
theorem dX10_parted_23 : decode cX10_parted 23 = .ok (.getfield 77, 3) := by decide +kernel
theorem dX10_parted_26 : decode cX10_parted 26 = .ok (.aload_n 0, 1) := by decide +kernel
theorem dX10_parted_27 : decode cX10_parted 27 = .ok (.getfield 12, 3) := by decide +kernel
theorem dX10_parted_30 : decode cX10_parted 30 = .ok (.getfield 129, 3) := by decide +kernel
theorem dX10_parted_33 : decode cX10_parted 33 = .ok (.iconst 1, 1) := by decide +kernel
theorem dX10_parted_34 : decode cX10_parted 34 = .ok (.iload_n 1, 1) := by decide +kernel
theorem dX10_parted_35 : decode cX10_parted 35 = .ok (.ishl, 1) := by decide +kernel
theorem dX10_parted_36 : decode cX10_parted 36 = .ok (.iload_n 2, 1) := by decide +kernel
theorem dX10_parted_37 : decode cX10_parted 37 = .ok (.iconst 2, 1) := by decide +kernel
theorem dX10_parted_38 : decode cX10_parted 38 = .ok (.if_icmp .ge 7, 3) := by decide +kernel
theorem dX10_parted_41 : decode cX10_parted 41 = .ok (.iconst 1, 1) := by decide +kernel
theorem dX10_parted_42 : decode cX10_parted 42 = .ok (.goto 4, 3) := by decide +kernel
theorem dX10_parted_45 : decode cX10_parted 45 = .ok (.iconst 0, 1) := by decide +kernel
theorem dX10_parted_46 : decode cX10_parted 46 = .ok (.invokevirtual 257, 3) := by decide +kernel
theorem dX10_parted_49 : decode cX10_parted 49 = .ok (.iload_n 2, 1) := by decide +kernel
theorem dX10_parted_50 : decode cX10_parted 50 = .ok (.ifCond .ne 11, 3) := by decide +kernel
theorem dX10_parted_53 : decode cX10_parted 53 = .ok (.aload_n 0, 1) := by decide +kernel
theorem dX10_parted_54 : decode cX10_parted 54 = .ok (.getfield 77, 3) := by decide +kernel
theorem dX10_parted_57 : decode cX10_parted 57 = .ok (.getfield 219, 3) := by decide +kernel
theorem dX10_parted_60 : decode cX10_parted 60 = .ok (.ireturn, 1) := by decide +kernel
theorem dX10_parted_61 : decode cX10_parted 61 = .ok (.aload_n 0, 1) := by decide +kernel
theorem dX10_parted_62 : decode cX10_parted 62 = .ok (.getfield 77, 3) := by decide +kernel
theorem dX10_parted_65 : decode cX10_parted 65 = .ok (.getfield 219, 3) := by decide +kernel
theorem dX10_parted_68 : decode cX10_parted 68 = .ok (.ifCond .ne 6, 3) := by decide +kernel
theorem dX10_parted_71 : decode cX10_parted 71 = .ok (.bipush (-5), 2) := by decide +kernel
theorem dX10_parted_73 : decode cX10_parted 73 = .ok (.ireturn, 1) := by decide +kernel
theorem dX10_parted_74 : decode cX10_parted 74 = .ok (.aload_n 0, 1) := by decide +kernel
theorem dX10_parted_75 : decode cX10_parted 75 = .ok (.getfield 77, 3) := by decide +kernel
theorem dX10_parted_78 : decode cX10_parted 78 = .ok (.aload_n 0, 1) := by decide +kernel
theorem dX10_parted_79 : decode cX10_parted 79 = .ok (.getfield 12, 3) := by decide +kernel
theorem dX10_parted_82 : decode cX10_parted 82 = .ok (.invokevirtual 239, 3) := by decide +kernel
theorem dX10_parted_85 : decode cX10_parted 85 = .ok (.iconst 1, 1) := by decide +kernel
theorem dX10_parted_86 : decode cX10_parted 86 = .ok (.iload_n 1, 1) := by decide +kernel
theorem dX10_parted_87 : decode cX10_parted 87 = .ok (.ishl, 1) := by decide +kernel
theorem dX10_parted_88 : decode cX10_parted 88 = .ok (.iconst (-1), 1) := by decide +kernel
theorem dX10_parted_89 : decode cX10_parted 89 = .ok (.ixor, 1) := by decide +kernel
theorem dX10_parted_90 : decode cX10_parted 90 = .ok (.iand, 1) := by decide +kernel
theorem dX10_parted_91 : decode cX10_parted 91 = .ok (.invokevirtual 242, 3) := by decide +kernel
theorem dX10_parted_94 : decode cX10_parted 94 = .ok (.ireturn, 1) := by decide +kernel
theorem dX10_keep_0 : decode cX10_keep 0 = .ok (.aload_n 0, 1) := by decide +kernel
theorem dX10_keep_1 : decode cX10_keep 1 = .ok (.getfield 12, 3) := by decide +kernel
theorem dX10_keep_4 : decode cX10_keep 4 = .ok (.invokevirtual 261, 3) := by decide +kernel
theorem dX10_keep_7 : decode cX10_keep 7 = .ok (.astore_n 1, 1) := by decide +kernel
theorem dX10_keep_8 : decode cX10_keep 8 = .ok (.aload_n 1, 1) := by decide +kernel
theorem dX10_keep_9 : decode cX10_keep 9 = .ok (.ifnonnull 6, 3) := by decide +kernel
theorem dX10_keep_12 : decode cX10_keep 12 = .ok (.bipush (-4), 2) := by decide +kernel
theorem dX10_keep_14 : decode cX10_keep 14 = .ok (.ireturn, 1) := by decide +kernel
theorem dX10_keep_15 : decode cX10_keep 15 = .ok (.aload_n 1, 1) := by decide +kernel
theorem dX10_keep_16 : decode cX10_keep 16 = .ok (.aload_n 0, 1) := by decide +kernel
theorem dX10_keep_17 : decode cX10_keep 17 = .ok (.getfield 12, 3) := by decide +kernel
theorem dX10_keep_20 : decode cX10_keep 20 = .ok (.getfield 129, 3) := by decide +kernel
theorem dX10_keep_23 : decode cX10_keep 23 = .ok (.invokevirtual 265, 3) := by decide +kernel
theorem dX10_keep_26 : decode cX10_keep 26 = .ok (.aload_n 0, 1) := by decide +kernel
theorem dX10_keep_27 : decode cX10_keep 27 = .ok (.getfield 12, 3) := by decide +kernel
theorem dX10_keep_30 : decode cX10_keep 30 = .ok (.dup, 1) := by decide +kernel
theorem dX10_keep_31 : decode cX10_keep 31 = .ok (.getfield 269, 3) := by decide +kernel
theorem dX10_keep_34 : decode cX10_keep 34 = .ok (.dup_x1, 1) := by decide +kernel
theorem dX10_keep_35 : decode cX10_keep 35 = .ok (.iconst 1, 1) := by decide +kernel
theorem dX10_keep_36 : decode cX10_keep 36 = .ok (.iadd, 1) := by decide +kernel
theorem dX10_keep_37 : decode cX10_keep 37 = .ok (.putfield 269, 3) := by decide +kernel
theorem dX10_keep_40 : decode cX10_keep 40 = .ok (.ireturn, 1) := by decide +kernel
theorem dX10_design_0 : decode cX10_design 0 = .ok (.aload_n 0, 1) := by decide +kernel
theorem dX10_design_1 : decode cX10_design 1 = .ok (.getfield 12, 3) := by decide +kernel
theorem dX10_design_4 : decode cX10_design 4 = .ok (.iload_n 1, 1) := by decide +kernel
theorem dX10_design_5 : decode cX10_design 5 = .ok (.invokevirtual 272, 3) := by decide +kernel
theorem dX10_design_8 : decode cX10_design 8 = .ok (.astore_n 3, 1) := by decide +kernel
theorem dX10_design_9 : decode cX10_design 9 = .ok (.aload_n 3, 1) := by decide +kernel
theorem dX10_design_10 : decode cX10_design 10 = .ok (.ifnonnull 5, 3) := by decide +kernel
theorem dX10_design_13 : decode cX10_design 13 = .ok (.iconst (-1), 1) := by decide +kernel
theorem dX10_design_14 : decode cX10_design 14 = .ok (.ireturn, 1) := by decide +kernel
theorem dX10_design_15 : decode cX10_design 15 = .ok (.iload_n 2, 1) := by decide +kernel
theorem dX10_design_16 : decode cX10_design 16 = .ok (.lookupswitch 38 #[(0, 28), (1, 33)], 28) := by decide +kernel
theorem dX10_design_44 : decode cX10_design 44 = .ok (.aload_n 3, 1) := by decide +kernel
theorem dX10_design_45 : decode cX10_design 45 = .ok (.getfield 227, 3) := by decide +kernel
theorem dX10_design_48 : decode cX10_design 48 = .ok (.ireturn, 1) := by decide +kernel
theorem dX10_design_49 : decode cX10_design 49 = .ok (.aload_n 3, 1) := by decide +kernel
theorem dX10_design_50 : decode cX10_design 50 = .ok (.getfield 219, 3) := by decide +kernel
theorem dX10_design_53 : decode cX10_design 53 = .ok (.ireturn, 1) := by decide +kernel
theorem dX10_design_54 : decode cX10_design 54 = .ok (.iconst (-1), 1) := by decide +kernel
theorem dX10_design_55 : decode cX10_design 55 = .ok (.ireturn, 1) := by decide +kernel
theorem dX10_alike_0 : decode cX10_alike 0 = .ok (.aload_n 0, 1) := by decide +kernel
theorem dX10_alike_1 : decode cX10_alike 1 = .ok (.getfield 12, 3) := by decide +kernel
theorem dX10_alike_4 : decode cX10_alike 4 = .ok (.iload_n 1, 1) := by decide +kernel
theorem dX10_alike_5 : decode cX10_alike 5 = .ok (.invokevirtual 272, 3) := by decide +kernel
theorem dX10_alike_8 : decode cX10_alike 8 = .ok (.astore_n 3, 1) := by decide +kernel
theorem dX10_alike_9 : decode cX10_alike 9 = .ok (.aload_n 0, 1) := by decide +kernel
theorem dX10_alike_10 : decode cX10_alike 10 = .ok (.getfield 12, 3) := by decide +kernel
theorem dX10_alike_13 : decode cX10_alike 13 = .ok (.iload_n 2, 1) := by decide +kernel
theorem dX10_alike_14 : decode cX10_alike 14 = .ok (.invokevirtual 272, 3) := by decide +kernel
theorem dX10_alike_17 : decode cX10_alike 17 = .ok (.astore 4, 2) := by decide +kernel
theorem dX10_alike_19 : decode cX10_alike 19 = .ok (.aload_n 3, 1) := by decide +kernel
theorem dX10_alike_20 : decode cX10_alike 20 = .ok (.ifnull 8, 3) := by decide +kernel
theorem dX10_alike_23 : decode cX10_alike 23 = .ok (.aload 4, 2) := by decide +kernel
theorem dX10_alike_25 : decode cX10_alike 25 = .ok (.ifnonnull 5, 3) := by decide +kernel
theorem dX10_alike_28 : decode cX10_alike 28 = .ok (.iconst (-1), 1) := by decide +kernel
theorem dX10_alike_29 : decode cX10_alike 29 = .ok (.ireturn, 1) := by decide +kernel
theorem dX10_alike_30 : decode cX10_alike 30 = .ok (.aload_n 0, 1) := by decide +kernel
theorem dX10_alike_31 : decode cX10_alike 31 = .ok (.getfield 12, 3) := by decide +kernel
theorem dX10_alike_34 : decode cX10_alike 34 = .ok (.getfield 84, 3) := by decide +kernel
theorem dX10_alike_37 : decode cX10_alike 37 = .ok (.bipush 7, 2) := by decide +kernel
theorem dX10_alike_39 : decode cX10_alike 39 = .ok (.if_icmp .le 6, 3) := by decide +kernel
theorem dX10_alike_42 : decode cX10_alike 42 = .ok (.bipush (-3), 2) := by decide +kernel
theorem dX10_alike_44 : decode cX10_alike 44 = .ok (.ireturn, 1) := by decide +kernel
theorem dX10_alike_45 : decode cX10_alike 45 = .ok (.aload_n 0, 1) := by decide +kernel
theorem dX10_alike_46 : decode cX10_alike 46 = .ok (.getfield 63, 3) := by decide +kernel
theorem dX10_alike_49 : decode cX10_alike 49 = .ok (.aload_n 3, 1) := by decide +kernel
theorem dX10_alike_50 : decode cX10_alike 50 = .ok (.aload 4, 2) := by decide +kernel
theorem dX10_alike_52 : decode cX10_alike 52 = .ok (.aload_n 0, 1) := by decide +kernel
theorem dX10_alike_53 : decode cX10_alike 53 = .ok (.getfield 12, 3) := by decide +kernel
theorem dX10_alike_56 : decode cX10_alike 56 = .ok (.getfield 84, 3) := by decide +kernel
theorem dX10_alike_59 : decode cX10_alike 59 = .ok (.invokevirtual 276, 3) := by decide +kernel
theorem dX10_alike_62 : decode cX10_alike 62 = .ok (.ifCond .eq 7, 3) := by decide +kernel
theorem dX10_alike_65 : decode cX10_alike 65 = .ok (.iconst 1, 1) := by decide +kernel
theorem dX10_alike_66 : decode cX10_alike 66 = .ok (.goto 4, 3) := by decide +kernel
theorem dX10_alike_69 : decode cX10_alike 69 = .ok (.iconst 0, 1) := by decide +kernel
theorem dX10_alike_70 : decode cX10_alike 70 = .ok (.ireturn, 1) := by decide +kernel
theorem dX10_selves_0 : decode cX10_selves 0 = .ok (.aload_n 0, 1) := by decide +kernel
theorem dX10_selves_1 : decode cX10_selves 1 = .ok (.getfield 12, 3) := by decide +kernel
theorem dX10_selves_4 : decode cX10_selves 4 = .ok (.iload_n 1, 1) := by decide +kernel
theorem dX10_selves_5 : decode cX10_selves 5 = .ok (.invokevirtual 272, 3) := by decide +kernel
theorem dX10_selves_8 : decode cX10_selves 8 = .ok (.astore_n 2, 1) := by decide +kernel
theorem dX10_selves_9 : decode cX10_selves 9 = .ok (.aload_n 2, 1) := by decide +kernel
theorem dX10_selves_10 : decode cX10_selves 10 = .ok (.ifnonnull 5, 3) := by decide +kernel
theorem dX10_selves_13 : decode cX10_selves 13 = .ok (.iconst (-1), 1) := by decide +kernel
theorem dX10_selves_14 : decode cX10_selves 14 = .ok (.ireturn, 1) := by decide +kernel
theorem dX10_selves_15 : decode cX10_selves 15 = .ok (.aload_n 0, 1) := by decide +kernel
theorem dX10_selves_16 : decode cX10_selves 16 = .ok (.getfield 12, 3) := by decide +kernel
theorem dX10_selves_19 : decode cX10_selves 19 = .ok (.getfield 84, 3) := by decide +kernel
theorem dX10_selves_22 : decode cX10_selves 22 = .ok (.bipush 7, 2) := by decide +kernel
theorem dX10_selves_24 : decode cX10_selves 24 = .ok (.if_icmp .le 6, 3) := by decide +kernel
theorem dX10_selves_27 : decode cX10_selves 27 = .ok (.bipush (-3), 2) := by decide +kernel
theorem dX10_selves_29 : decode cX10_selves 29 = .ok (.ireturn, 1) := by decide +kernel
theorem dX10_selves_30 : decode cX10_selves 30 = .ok (.aload_n 0, 1) := by decide +kernel
theorem dX10_selves_31 : decode cX10_selves 31 = .ok (.getfield 63, 3) := by decide +kernel
theorem dX10_selves_34 : decode cX10_selves 34 = .ok (.aload_n 2, 1) := by decide +kernel
theorem dX10_selves_35 : decode cX10_selves 35 = .ok (.aload_n 0, 1) := by decide +kernel
theorem dX10_selves_36 : decode cX10_selves 36 = .ok (.getfield 12, 3) := by decide +kernel
theorem dX10_selves_39 : decode cX10_selves 39 = .ok (.getfield 84, 3) := by decide +kernel
theorem dX10_selves_42 : decode cX10_selves 42 = .ok (.invokevirtual 280, 3) := by decide +kernel
theorem dX10_selves_45 : decode cX10_selves 45 = .ok (.ireturn, 1) := by decide +kernel
theorem dX10_unlike_0 : decode cX10_unlike 0 = .ok (.aload_n 0, 1) := by decide +kernel
theorem dX10_unlike_1 : decode cX10_unlike 1 = .ok (.iload_n 1, 1) := by decide +kernel
theorem dX10_unlike_2 : decode cX10_unlike 2 = .ok (.iload_n 2, 1) := by decide +kernel
theorem dX10_unlike_3 : decode cX10_unlike 3 = .ok (.invokevirtual 185, 3) := by decide +kernel
theorem dX10_unlike_6 : decode cX10_unlike 6 = .ok (.ifCond .eq 10, 3) := by decide +kernel
theorem dX10_unlike_9 : decode cX10_unlike 9 = .ok (.iload_n 3, 1) := by decide +kernel
theorem dX10_unlike_10 : decode cX10_unlike 10 = .ok (.invokestatic 191, 3) := by decide +kernel
theorem dX10_unlike_13 : decode cX10_unlike 13 = .ok (.ifCond .ne 6, 3) := by decide +kernel
theorem dX10_unlike_16 : decode cX10_unlike 16 = .ok (.bipush (-2), 2) := by decide +kernel
theorem dX10_unlike_18 : decode cX10_unlike 18 = .ok (.ireturn, 1) := by decide +kernel
theorem dX10_unlike_19 : decode cX10_unlike 19 = .ok (.aload_n 0, 1) := by decide +kernel
theorem dX10_unlike_20 : decode cX10_unlike 20 = .ok (.getfield 12, 3) := by decide +kernel
theorem dX10_unlike_23 : decode cX10_unlike 23 = .ok (.getfield 84, 3) := by decide +kernel
theorem dX10_unlike_26 : decode cX10_unlike 26 = .ok (.bipush 6, 2) := by decide +kernel
theorem dX10_unlike_28 : decode cX10_unlike 28 = .ok (.if_icmp .gt 12, 3) := by decide +kernel
theorem dX10_unlike_31 : decode cX10_unlike 31 = .ok (.aload_n 0, 1) := by decide +kernel
theorem dX10_unlike_32 : decode cX10_unlike 32 = .ok (.iload_n 1, 1) := by decide +kernel
theorem dX10_unlike_33 : decode cX10_unlike 33 = .ok (.iload_n 2, 1) := by decide +kernel
theorem dX10_unlike_34 : decode cX10_unlike 34 = .ok (.invokevirtual 194, 3) := by decide +kernel
theorem dX10_unlike_37 : decode cX10_unlike 37 = .ok (.ifCond .ne 6, 3) := by decide +kernel
theorem dX10_unlike_40 : decode cX10_unlike 40 = .ok (.bipush (-3), 2) := by decide +kernel
theorem dX10_unlike_42 : decode cX10_unlike 42 = .ok (.ireturn, 1) := by decide +kernel
theorem dX10_unlike_43 : decode cX10_unlike 43 = .ok (.aload_n 0, 1) := by decide +kernel
theorem dX10_unlike_44 : decode cX10_unlike 44 = .ok (.getfield 56, 3) := by decide +kernel
theorem dX10_unlike_47 : decode cX10_unlike 47 = .ok (.iload_n 3, 1) := by decide +kernel
theorem dX10_unlike_48 : decode cX10_unlike 48 = .ok (.iconst 0, 1) := by decide +kernel
theorem dX10_unlike_49 : decode cX10_unlike 49 = .ok (.invokevirtual 197, 3) := by decide +kernel
theorem dX10_unlike_52 : decode cX10_unlike 52 = .ok (.aload_n 0, 1) := by decide +kernel
theorem dX10_unlike_53 : decode cX10_unlike 53 = .ok (.getfield 56, 3) := by decide +kernel
theorem dX10_unlike_56 : decode cX10_unlike 56 = .ok (.getfield 200, 3) := by decide +kernel
theorem dX10_unlike_59 : decode cX10_unlike 59 = .ok (.bipush 24, 2) := by decide +kernel
theorem dX10_unlike_61 : decode cX10_unlike 61 = .ok (.if_icmp .le 6, 3) := by decide +kernel
theorem dX10_unlike_64 : decode cX10_unlike 64 = .ok (.bipush (-3), 2) := by decide +kernel
theorem dX10_unlike_66 : decode cX10_unlike 66 = .ok (.ireturn, 1) := by decide +kernel
theorem dX10_unlike_67 : decode cX10_unlike 67 = .ok (.iconst 0, 1) := by decide +kernel
theorem dX10_unlike_68 : decode cX10_unlike 68 = .ok (.istore 4, 2) := by decide +kernel
theorem dX10_unlike_70 : decode cX10_unlike 70 = .ok (.iconst 0, 1) := by decide +kernel
theorem dX10_unlike_71 : decode cX10_unlike 71 = .ok (.istore 5, 2) := by decide +kernel
theorem dX10_unlike_73 : decode cX10_unlike 73 = .ok (.iload 5, 2) := by decide +kernel
theorem dX10_unlike_75 : decode cX10_unlike 75 = .ok (.aload_n 0, 1) := by decide +kernel
theorem dX10_unlike_76 : decode cX10_unlike 76 = .ok (.getfield 56, 3) := by decide +kernel
theorem dX10_unlike_79 : decode cX10_unlike 79 = .ok (.getfield 200, 3) := by decide +kernel
theorem dX10_unlike_82 : decode cX10_unlike 82 = .ok (.if_icmp .ge 22, 3) := by decide +kernel
theorem dX10_unlike_85 : decode cX10_unlike 85 = .ok (.aload_n 0, 1) := by decide +kernel
theorem dX10_unlike_86 : decode cX10_unlike 86 = .ok (.iload_n 2, 1) := by decide +kernel
theorem dX10_unlike_87 : decode cX10_unlike 87 = .ok (.iload 5, 2) := by decide +kernel
theorem dX10_unlike_89 : decode cX10_unlike 89 = .ok (.invokevirtual 284, 3) := by decide +kernel
theorem dX10_unlike_92 : decode cX10_unlike 92 = .ok (.ifCond .ne 6, 3) := by decide +kernel
theorem dX10_unlike_95 : decode cX10_unlike 95 = .ok (.iinc 4 1, 3) := by decide +kernel
theorem dX10_unlike_98 : decode cX10_unlike 98 = .ok (.iinc 5 1, 3) := by decide +kernel
theorem dX10_unlike_101 : decode cX10_unlike 101 = .ok (.goto (-28), 3) := by decide +kernel
theorem dX10_unlike_104 : decode cX10_unlike 104 = .ok (.iload 4, 2) := by decide +kernel
theorem dX10_unlike_106 : decode cX10_unlike 106 = .ok (.ireturn, 1) := by decide +kernel
theorem dX10_lots_0 : decode cX10_lots 0 = .ok (.aload_n 0, 1) := by decide +kernel
theorem dX10_lots_1 : decode cX10_lots 1 = .ok (.getfield 12, 3) := by decide +kernel
theorem dX10_lots_4 : decode cX10_lots 4 = .ok (.iload_n 1, 1) := by decide +kernel
theorem dX10_lots_5 : decode cX10_lots 5 = .ok (.invokevirtual 158, 3) := by decide +kernel
theorem dX10_lots_8 : decode cX10_lots 8 = .ok (.ifCond .eq 14, 3) := by decide +kernel
theorem dX10_lots_11 : decode cX10_lots 11 = .ok (.iload_n 2, 1) := by decide +kernel
theorem dX10_lots_12 : decode cX10_lots 12 = .ok (.iconst 1, 1) := by decide +kernel
theorem dX10_lots_13 : decode cX10_lots 13 = .ok (.if_icmp .lt 9, 3) := by decide +kernel
theorem dX10_lots_16 : decode cX10_lots 16 = .ok (.iload_n 2, 1) := by decide +kernel
theorem dX10_lots_17 : decode cX10_lots 17 = .ok (.bipush 20, 2) := by decide +kernel
theorem dX10_lots_19 : decode cX10_lots 19 = .ok (.if_icmp .le 6, 3) := by decide +kernel
theorem dX10_lots_22 : decode cX10_lots 22 = .ok (.bipush (-2), 2) := by decide +kernel
theorem dX10_lots_24 : decode cX10_lots 24 = .ok (.ireturn, 1) := by decide +kernel
theorem dX10_lots_25 : decode cX10_lots 25 = .ok (.iload 4, 2) := by decide +kernel
theorem dX10_lots_27 : decode cX10_lots 27 = .ok (.ifCond .lt 9, 3) := by decide +kernel
theorem dX10_lots_30 : decode cX10_lots 30 = .ok (.iload 4, 2) := by decide +kernel
theorem dX10_lots_32 : decode cX10_lots 32 = .ok (.iconst 1, 1) := by decide +kernel
theorem dX10_lots_33 : decode cX10_lots 33 = .ok (.if_icmp .le 5, 3) := by decide +kernel
theorem dX10_lots_36 : decode cX10_lots 36 = .ok (.iconst (-1), 1) := by decide +kernel
theorem dX10_lots_37 : decode cX10_lots 37 = .ok (.ireturn, 1) := by decide +kernel
theorem dX10_lots_38 : decode cX10_lots 38 = .ok (.aload_n 0, 1) := by decide +kernel
theorem dX10_lots_39 : decode cX10_lots 39 = .ok (.getfield 42, 3) := by decide +kernel
theorem dX10_lots_42 : decode cX10_lots 42 = .ok (.aload_n 0, 1) := by decide +kernel
theorem dX10_lots_43 : decode cX10_lots 43 = .ok (.getfield 12, 3) := by decide +kernel
theorem dX10_lots_46 : decode cX10_lots 46 = .ok (.invokevirtual 161, 3) := by decide +kernel
theorem dX10_lots_49 : decode cX10_lots 49 = .ok (.aload_n 0, 1) := by decide +kernel
theorem dX10_lots_50 : decode cX10_lots 50 = .ok (.getfield 70, 3) := by decide +kernel
theorem dX10_lots_53 : decode cX10_lots 53 = .ok (.aload_n 0, 1) := by decide +kernel
theorem dX10_lots_54 : decode cX10_lots 54 = .ok (.getfield 42, 3) := by decide +kernel
theorem dX10_lots_57 : decode cX10_lots 57 = .ok (.aload_n 0, 1) := by decide +kernel
theorem dX10_lots_58 : decode cX10_lots 58 = .ok (.getfield 12, 3) := by decide +kernel
theorem dX10_lots_61 : decode cX10_lots 61 = .ok (.getfield 84, 3) := by decide +kernel
theorem dX10_lots_64 : decode cX10_lots 64 = .ok (.iload_n 1, 1) := by decide +kernel
theorem dX10_lots_65 : decode cX10_lots 65 = .ok (.iload_n 2, 1) := by decide +kernel
theorem dX10_lots_66 : decode cX10_lots 66 = .ok (.iload_n 3, 1) := by decide +kernel
theorem dX10_lots_67 : decode cX10_lots 67 = .ok (.invokevirtual 287, 3) := by decide +kernel
theorem dX10_lots_70 : decode cX10_lots 70 = .ok (.iload 4, 2) := by decide +kernel
theorem dX10_lots_72 : decode cX10_lots 72 = .ok (.ifCond .ne 13, 3) := by decide +kernel
theorem dX10_lots_75 : decode cX10_lots 75 = .ok (.aload_n 0, 1) := by decide +kernel
theorem dX10_lots_76 : decode cX10_lots 76 = .ok (.getfield 70, 3) := by decide +kernel
theorem dX10_lots_79 : decode cX10_lots 79 = .ok (.getfield 291, 3) := by decide +kernel
theorem dX10_lots_82 : decode cX10_lots 82 = .ok (.goto 10, 3) := by decide +kernel
theorem dX10_lots_85 : decode cX10_lots 85 = .ok (.aload_n 0, 1) := by decide +kernel
theorem dX10_lots_86 : decode cX10_lots 86 = .ok (.getfield 70, 3) := by decide +kernel
theorem dX10_lots_89 : decode cX10_lots 89 = .ok (.getfield 294, 3) := by decide +kernel
theorem dX10_lots_92 : decode cX10_lots 92 = .ok (.ireturn, 1) := by decide +kernel
theorem dX10_feed_0 : decode cX10_feed 0 = .ok (.iload_n 1, 1) := by decide +kernel
theorem dX10_feed_1 : decode cX10_feed 1 = .ok (.ifCond .lt 9, 3) := by decide +kernel
theorem dX10_feed_4 : decode cX10_feed 4 = .ok (.iload_n 1, 1) := by decide +kernel
theorem dX10_feed_5 : decode cX10_feed 5 = .ok (.bipush 127, 2) := by decide +kernel
theorem dX10_feed_7 : decode cX10_feed 7 = .ok (.if_icmp .le 6, 3) := by decide +kernel
theorem dX10_feed_10 : decode cX10_feed 10 = .ok (.bipush (-2), 2) := by decide +kernel
theorem dX10_feed_12 : decode cX10_feed 12 = .ok (.ireturn, 1) := by decide +kernel
theorem dX10_feed_13 : decode cX10_feed 13 = .ok (.aload_n 0, 1) := by decide +kernel
theorem dX10_feed_14 : decode cX10_feed 14 = .ok (.getfield 28, 3) := by decide +kernel
theorem dX10_feed_17 : decode cX10_feed 17 = .ok (.iload_n 1, 1) := by decide +kernel
theorem dX10_feed_18 : decode cX10_feed 18 = .ok (.invokevirtual 297, 3) := by decide +kernel
theorem dX10_feed_21 : decode cX10_feed 21 = .ok (.ifCond .ne 6, 3) := by decide +kernel
theorem dX10_feed_24 : decode cX10_feed 24 = .ok (.bipush (-4), 2) := by decide +kernel
theorem dX10_feed_26 : decode cX10_feed 26 = .ok (.ireturn, 1) := by decide +kernel
theorem dX10_feed_27 : decode cX10_feed 27 = .ok (.aload_n 0, 1) := by decide +kernel
theorem dX10_feed_28 : decode cX10_feed 28 = .ok (.getfield 28, 3) := by decide +kernel
theorem dX10_feed_31 : decode cX10_feed 31 = .ok (.getfield 300, 3) := by decide +kernel
theorem dX10_feed_34 : decode cX10_feed 34 = .ok (.ireturn, 1) := by decide +kernel
theorem dX10_read_0 : decode cX10_read 0 = .ok (.aload_n 0, 1) := by decide +kernel
theorem dX10_read_1 : decode cX10_read 1 = .ok (.getfield 28, 3) := by decide +kernel
theorem dX10_read_4 : decode cX10_read 4 = .ok (.invokevirtual 303, 3) := by decide +kernel
theorem dX10_read_7 : decode cX10_read 7 = .ok (.istore_n 1, 1) := by decide +kernel
theorem dX10_read_8 : decode cX10_read 8 = .ok (.iload_n 1, 1) := by decide +kernel
theorem dX10_read_9 : decode cX10_read 9 = .ok (.iconst (-1), 1) := by decide +kernel
theorem dX10_read_10 : decode cX10_read 10 = .ok (.if_icmp .ne 10, 3) := by decide +kernel
theorem dX10_read_13 : decode cX10_read 13 = .ok (.aload_n 0, 1) := by decide +kernel
theorem dX10_read_14 : decode cX10_read 14 = .ok (.invokevirtual 306, 3) := by decide +kernel
theorem dX10_read_17 : decode cX10_read 17 = .ok (.goto 7, 3) := by decide +kernel
theorem dX10_read_20 : decode cX10_read 20 = .ok (.bipush (-10), 2) := by decide +kernel
theorem dX10_read_22 : decode cX10_read 22 = .ok (.iload_n 1, 1) := by decide +kernel
theorem dX10_read_23 : decode cX10_read 23 = .ok (.isub, 1) := by decide +kernel
theorem dX10_read_24 : decode cX10_read 24 = .ok (.istore_n 2, 1) := by decide +kernel
theorem dX10_read_25 : decode cX10_read 25 = .ok (.aload_n 0, 1) := by decide +kernel
theorem dX10_read_26 : decode cX10_read 26 = .ok (.getfield 28, 3) := by decide +kernel
theorem dX10_read_29 : decode cX10_read 29 = .ok (.iconst 0, 1) := by decide +kernel
theorem dX10_read_30 : decode cX10_read 30 = .ok (.putfield 300, 3) := by decide +kernel
theorem dX10_read_33 : decode cX10_read 33 = .ok (.iload_n 2, 1) := by decide +kernel
theorem dX10_read_34 : decode cX10_read 34 = .ok (.ireturn, 1) := by decide +kernel
theorem dX10_judge_0 : decode cX10_judge 0 = .ok (.aload_n 0, 1) := by decide +kernel
theorem dX10_judge_1 : decode cX10_judge 1 = .ok (.iload_n 1, 1) := by decide +kernel
theorem dX10_judge_2 : decode cX10_judge 2 = .ok (.invokevirtual 309, 3) := by decide +kernel
theorem dX10_judge_5 : decode cX10_judge 5 = .ok (.astore_n 3, 1) := by decide +kernel
theorem dX10_judge_6 : decode cX10_judge 6 = .ok (.aload_n 3, 1) := by decide +kernel
theorem dX10_judge_7 : decode cX10_judge 7 = .ok (.ifnonnull 5, 3) := by decide +kernel
theorem dX10_judge_10 : decode cX10_judge 10 = .ok (.iconst (-1), 1) := by decide +kernel
theorem dX10_judge_11 : decode cX10_judge 11 = .ok (.ireturn, 1) := by decide +kernel
theorem dX10_judge_12 : decode cX10_judge 12 = .ok (.aload_n 3, 1) := by decide +kernel
theorem dX10_judge_13 : decode cX10_judge 13 = .ok (.getfield 313, 3) := by decide +kernel
theorem dX10_judge_16 : decode cX10_judge 16 = .ok (.iconst (-1), 1) := by decide +kernel
theorem dX10_judge_17 : decode cX10_judge 17 = .ok (.if_icmp .eq 14, 3) := by decide +kernel
theorem dX10_judge_20 : decode cX10_judge 20 = .ok (.aload_n 3, 1) := by decide +kernel
theorem dX10_judge_21 : decode cX10_judge 21 = .ok (.getfield 313, 3) := by decide +kernel
theorem dX10_judge_24 : decode cX10_judge 24 = .ok (.iconst 1, 1) := by decide +kernel
theorem dX10_judge_25 : decode cX10_judge 25 = .ok (.if_icmp .eq 6, 3) := by decide +kernel
theorem dX10_judge_28 : decode cX10_judge 28 = .ok (.bipush (-12), 2) := by decide +kernel
theorem dX10_judge_30 : decode cX10_judge 30 = .ok (.ireturn, 1) := by decide +kernel
theorem dX10_judge_31 : decode cX10_judge 31 = .ok (.iconst 0, 1) := by decide +kernel
theorem dX10_judge_32 : decode cX10_judge 32 = .ok (.istore 4, 2) := by decide +kernel
theorem dX10_judge_34 : decode cX10_judge 34 = .ok (.iload 4, 2) := by decide +kernel
theorem dX10_judge_36 : decode cX10_judge 36 = .ok (.aload_n 0, 1) := by decide +kernel
theorem dX10_judge_37 : decode cX10_judge 37 = .ok (.getfield 12, 3) := by decide +kernel
theorem dX10_judge_40 : decode cX10_judge 40 = .ok (.getfield 129, 3) := by decide +kernel
theorem dX10_judge_43 : decode cX10_judge 43 = .ok (.getfield 219, 3) := by decide +kernel
theorem dX10_judge_46 : decode cX10_judge 46 = .ok (.if_icmp .ge 58, 3) := by decide +kernel
theorem dX10_judge_49 : decode cX10_judge 49 = .ok (.iload_n 2, 1) := by decide +kernel
theorem dX10_judge_50 : decode cX10_judge 50 = .ok (.ifCond .lt 14, 3) := by decide +kernel
theorem dX10_judge_53 : decode cX10_judge 53 = .ok (.iload 4, 2) := by decide +kernel
theorem dX10_judge_55 : decode cX10_judge 55 = .ok (.aload_n 3, 1) := by decide +kernel
theorem dX10_judge_56 : decode cX10_judge 56 = .ok (.getfield 316, 3) := by decide +kernel
theorem dX10_judge_59 : decode cX10_judge 59 = .ok (.iload_n 2, 1) := by decide +kernel
theorem dX10_judge_60 : decode cX10_judge 60 = .ok (.isub, 1) := by decide +kernel
theorem dX10_judge_61 : decode cX10_judge 61 = .ok (.if_icmp .lt 9, 3) := by decide +kernel
theorem dX10_judge_64 : decode cX10_judge 64 = .ok (.bipush 100, 2) := by decide +kernel
theorem dX10_judge_66 : decode cX10_judge 66 = .ok (.iload 4, 2) := by decide +kernel
theorem dX10_judge_68 : decode cX10_judge 68 = .ok (.iadd, 1) := by decide +kernel
theorem dX10_judge_69 : decode cX10_judge 69 = .ok (.ireturn, 1) := by decide +kernel
theorem dX10_judge_70 : decode cX10_judge 70 = .ok (.aload_n 3, 1) := by decide +kernel
theorem dX10_judge_71 : decode cX10_judge 71 = .ok (.iload_n 2, 1) := by decide +kernel
theorem dX10_judge_72 : decode cX10_judge 72 = .ok (.iload 4, 2) := by decide +kernel
theorem dX10_judge_74 : decode cX10_judge 74 = .ok (.iadd, 1) := by decide +kernel
theorem dX10_judge_75 : decode cX10_judge 75 = .ok (.invokevirtual 317, 3) := by decide +kernel
theorem dX10_judge_78 : decode cX10_judge 78 = .ok (.aload_n 0, 1) := by decide +kernel
theorem dX10_judge_79 : decode cX10_judge 79 = .ok (.getfield 12, 3) := by decide +kernel
theorem dX10_judge_82 : decode cX10_judge 82 = .ok (.getfield 129, 3) := by decide +kernel
theorem dX10_judge_85 : decode cX10_judge 85 = .ok (.iload 4, 2) := by decide +kernel
theorem dX10_judge_87 : decode cX10_judge 87 = .ok (.invokevirtual 237, 3) := by decide +kernel
theorem dX10_judge_90 : decode cX10_judge 90 = .ok (.i2l, 1) := by decide +kernel
theorem dX10_judge_91 : decode cX10_judge 91 = .ok (.lcmp, 1) := by decide +kernel
theorem dX10_judge_92 : decode cX10_judge 92 = .ok (.ifCond .eq 6, 3) := by decide +kernel
theorem dX10_judge_95 : decode cX10_judge 95 = .ok (.iload 4, 2) := by decide +kernel
theorem dX10_judge_97 : decode cX10_judge 97 = .ok (.ireturn, 1) := by decide +kernel
theorem dX10_judge_98 : decode cX10_judge 98 = .ok (.iinc 4 1, 3) := by decide +kernel
theorem dX10_judge_101 : decode cX10_judge 101 = .ok (.goto (-67), 3) := by decide +kernel
theorem dX10_judge_104 : decode cX10_judge 104 = .ok (.bipush (-5), 2) := by decide +kernel
theorem dX10_judge_106 : decode cX10_judge 106 = .ok (.ireturn, 1) := by decide +kernel
theorem dX10_image_0 : decode cX10_image 0 = .ok (.aload_n 0, 1) := by decide +kernel
theorem dX10_image_1 : decode cX10_image 1 = .ok (.getfield 18, 3) := by decide +kernel
theorem dX10_image_4 : decode cX10_image 4 = .ok (.aload_n 0, 1) := by decide +kernel
theorem dX10_image_5 : decode cX10_image 5 = .ok (.getfield 12, 3) := by decide +kernel
theorem dX10_image_8 : decode cX10_image 8 = .ok (.invokevirtual 321, 3) := by decide +kernel
theorem dX10_image_11 : decode cX10_image 11 = .ok (.aload_n 0, 1) := by decide +kernel
theorem dX10_image_12 : decode cX10_image 12 = .ok (.iconst 1, 1) := by decide +kernel
theorem dX10_image_13 : decode cX10_image 13 = .ok (.putfield 21, 3) := by decide +kernel
theorem dX10_image_16 : decode cX10_image 16 = .ok (.aload_n 0, 1) := by decide +kernel
theorem dX10_image_17 : decode cX10_image 17 = .ok (.getfield 12, 3) := by decide +kernel
theorem dX10_image_20 : decode cX10_image 20 = .ok (.getfield 129, 3) := by decide +kernel
theorem dX10_image_23 : decode cX10_image 23 = .ok (.getfield 219, 3) := by decide +kernel
theorem dX10_image_26 : decode cX10_image 26 = .ok (.ireturn, 1) := by decide +kernel
theorem dX10_undo_0 : decode cX10_undo 0 = .ok (.aload_n 0, 1) := by decide +kernel
theorem dX10_undo_1 : decode cX10_undo 1 = .ok (.getfield 21, 3) := by decide +kernel
theorem dX10_undo_4 : decode cX10_undo 4 = .ok (.ifCond .ne 6, 3) := by decide +kernel
theorem dX10_undo_7 : decode cX10_undo 7 = .ok (.bipush (-3), 2) := by decide +kernel
theorem dX10_undo_9 : decode cX10_undo 9 = .ok (.ireturn, 1) := by decide +kernel
theorem dX10_undo_10 : decode cX10_undo 10 = .ok (.aload_n 0, 1) := by decide +kernel
theorem dX10_undo_11 : decode cX10_undo 11 = .ok (.getfield 12, 3) := by decide +kernel
theorem dX10_undo_14 : decode cX10_undo 14 = .ok (.aload_n 0, 1) := by decide +kernel
theorem dX10_undo_15 : decode cX10_undo 15 = .ok (.getfield 18, 3) := by decide +kernel
theorem dX10_undo_18 : decode cX10_undo 18 = .ok (.invokevirtual 321, 3) := by decide +kernel
theorem dX10_undo_21 : decode cX10_undo 21 = .ok (.aload_n 0, 1) := by decide +kernel
theorem dX10_undo_22 : decode cX10_undo 22 = .ok (.getfield 12, 3) := by decide +kernel
theorem dX10_undo_25 : decode cX10_undo 25 = .ok (.getfield 129, 3) := by decide +kernel
theorem dX10_undo_28 : decode cX10_undo 28 = .ok (.getfield 219, 3) := by decide +kernel
theorem dX10_undo_31 : decode cX10_undo 31 = .ok (.ireturn, 1) := by decide +kernel
theorem dX10_count_0 : decode cX10_count 0 = .ok (.iload_n 1, 1) := by decide +kernel
theorem dX10_count_1 : decode cX10_count 1 = .ok (.tableswitch 78 0 4 #[35, 43, 51, 62, 70], 35) := by decide +kernel
theorem dX10_count_36 : decode cX10_count 36 = .ok (.aload_n 0, 1) := by decide +kernel
theorem dX10_count_37 : decode cX10_count 37 = .ok (.getfield 12, 3) := by decide +kernel
theorem dX10_count_40 : decode cX10_count 40 = .ok (.getfield 84, 3) := by decide +kernel
theorem dX10_count_43 : decode cX10_count 43 = .ok (.ireturn, 1) := by decide +kernel
theorem dX10_count_44 : decode cX10_count 44 = .ok (.aload_n 0, 1) := by decide +kernel
theorem dX10_count_45 : decode cX10_count 45 = .ok (.getfield 12, 3) := by decide +kernel
theorem dX10_count_48 : decode cX10_count 48 = .ok (.getfield 106, 3) := by decide +kernel
theorem dX10_count_51 : decode cX10_count 51 = .ok (.ireturn, 1) := by decide +kernel
theorem dX10_count_52 : decode cX10_count 52 = .ok (.aload_n 0, 1) := by decide +kernel
theorem dX10_count_53 : decode cX10_count 53 = .ok (.getfield 12, 3) := by decide +kernel
theorem dX10_count_56 : decode cX10_count 56 = .ok (.getfield 129, 3) := by decide +kernel
theorem dX10_count_59 : decode cX10_count 59 = .ok (.getfield 219, 3) := by decide +kernel
theorem dX10_count_62 : decode cX10_count 62 = .ok (.ireturn, 1) := by decide +kernel
theorem dX10_count_63 : decode cX10_count 63 = .ok (.aload_n 0, 1) := by decide +kernel
theorem dX10_count_64 : decode cX10_count 64 = .ok (.getfield 12, 3) := by decide +kernel
theorem dX10_count_67 : decode cX10_count 67 = .ok (.getfield 269, 3) := by decide +kernel
theorem dX10_count_70 : decode cX10_count 70 = .ok (.ireturn, 1) := by decide +kernel
theorem dX10_count_71 : decode cX10_count 71 = .ok (.aload_n 0, 1) := by decide +kernel
theorem dX10_count_72 : decode cX10_count 72 = .ok (.getfield 28, 3) := by decide +kernel
theorem dX10_count_75 : decode cX10_count 75 = .ok (.getfield 300, 3) := by decide +kernel
theorem dX10_count_78 : decode cX10_count 78 = .ok (.ireturn, 1) := by decide +kernel
theorem dX10_count_79 : decode cX10_count 79 = .ok (.bipush (-2), 2) := by decide +kernel
theorem dX10_count_81 : decode cX10_count 81 = .ok (.ireturn, 1) := by decide +kernel
theorem dX10_tape_0 : decode cX10_tape 0 = .ok (.aload_n 0, 1) := by decide +kernel
theorem dX10_tape_1 : decode cX10_tape 1 = .ok (.iload_n 1, 1) := by decide +kernel
theorem dX10_tape_2 : decode cX10_tape 2 = .ok (.invokevirtual 309, 3) := by decide +kernel
theorem dX10_tape_5 : decode cX10_tape 5 = .ok (.astore 4, 2) := by decide +kernel
theorem dX10_tape_7 : decode cX10_tape 7 = .ok (.aload 4, 2) := by decide +kernel
theorem dX10_tape_9 : decode cX10_tape 9 = .ok (.ifnonnull 5, 3) := by decide +kernel
theorem dX10_tape_12 : decode cX10_tape 12 = .ok (.iconst (-1), 1) := by decide +kernel
theorem dX10_tape_13 : decode cX10_tape 13 = .ok (.ireturn, 1) := by decide +kernel
theorem dX10_tape_14 : decode cX10_tape 14 = .ok (.iload_n 2, 1) := by decide +kernel
theorem dX10_tape_15 : decode cX10_tape 15 = .ok (.iconst (-1), 1) := by decide +kernel
theorem dX10_tape_16 : decode cX10_tape 16 = .ok (.if_icmp .lt 8, 3) := by decide +kernel
theorem dX10_tape_19 : decode cX10_tape 19 = .ok (.iload_n 2, 1) := by decide +kernel
theorem dX10_tape_20 : decode cX10_tape 20 = .ok (.iconst 5, 1) := by decide +kernel
theorem dX10_tape_21 : decode cX10_tape 21 = .ok (.if_icmp .lt 6, 3) := by decide +kernel
theorem dX10_tape_24 : decode cX10_tape 24 = .ok (.bipush (-2), 2) := by decide +kernel
theorem dX10_tape_26 : decode cX10_tape 26 = .ok (.ireturn, 1) := by decide +kernel
theorem dX10_tape_27 : decode cX10_tape 27 = .ok (.iload_n 2, 1) := by decide +kernel
theorem dX10_tape_28 : decode cX10_tape 28 = .ok (.iconst (-1), 1) := by decide +kernel
theorem dX10_tape_29 : decode cX10_tape 29 = .ok (.if_icmp .eq 12, 3) := by decide +kernel
theorem dX10_tape_32 : decode cX10_tape 32 = .ok (.iload_n 3, 1) := by decide +kernel
theorem dX10_tape_33 : decode cX10_tape 33 = .ok (.bipush 60, 2) := by decide +kernel
theorem dX10_tape_35 : decode cX10_tape 35 = .ok (.if_icmp .le 6, 3) := by decide +kernel
theorem dX10_tape_38 : decode cX10_tape 38 = .ok (.bipush (-2), 2) := by decide +kernel
theorem dX10_tape_40 : decode cX10_tape 40 = .ok (.ireturn, 1) := by decide +kernel
theorem dX10_tape_41 : decode cX10_tape 41 = .ok (.iload_n 2, 1) := by decide +kernel
theorem dX10_tape_42 : decode cX10_tape 42 = .ok (.iconst (-1), 1) := by decide +kernel
theorem dX10_tape_43 : decode cX10_tape 43 = .ok (.if_icmp .eq 10, 3) := by decide +kernel
theorem dX10_tape_46 : decode cX10_tape 46 = .ok (.iload_n 3, 1) := by decide +kernel
theorem dX10_tape_47 : decode cX10_tape 47 = .ok (.ifCond .ge 6, 3) := by decide +kernel
theorem dX10_tape_50 : decode cX10_tape 50 = .ok (.bipush (-14), 2) := by decide +kernel
theorem dX10_tape_52 : decode cX10_tape 52 = .ok (.ireturn, 1) := by decide +kernel
theorem dX10_tape_53 : decode cX10_tape 53 = .ok (.aload 4, 2) := by decide +kernel
theorem dX10_tape_55 : decode cX10_tape 55 = .ok (.iload_n 2, 1) := by decide +kernel
theorem dX10_tape_56 : decode cX10_tape 56 = .ok (.iload_n 2, 1) := by decide +kernel
theorem dX10_tape_57 : decode cX10_tape 57 = .ok (.iconst (-1), 1) := by decide +kernel
theorem dX10_tape_58 : decode cX10_tape 58 = .ok (.if_icmp .ne 7, 3) := by decide +kernel
theorem dX10_tape_61 : decode cX10_tape 61 = .ok (.iconst 0, 1) := by decide +kernel
theorem dX10_tape_62 : decode cX10_tape 62 = .ok (.goto 4, 3) := by decide +kernel
theorem dX10_tape_65 : decode cX10_tape 65 = .ok (.iload_n 3, 1) := by decide +kernel
theorem dX10_tape_66 : decode cX10_tape 66 = .ok (.invokevirtual 323, 3) := by decide +kernel
theorem dX10_tape_69 : decode cX10_tape 69 = .ok (.iconst 1, 1) := by decide +kernel
theorem dX10_tape_70 : decode cX10_tape 70 = .ok (.ireturn, 1) := by decide +kernel
theorem dX10_item_0 : decode cX10_item 0 = .ok (.aload_n 0, 1) := by decide +kernel
theorem dX10_item_1 : decode cX10_item 1 = .ok (.iload_n 1, 1) := by decide +kernel
theorem dX10_item_2 : decode cX10_item 2 = .ok (.invokevirtual 309, 3) := by decide +kernel
theorem dX10_item_5 : decode cX10_item 5 = .ok (.astore 5, 2) := by decide +kernel
theorem dX10_item_7 : decode cX10_item 7 = .ok (.aload 5, 2) := by decide +kernel
theorem dX10_item_9 : decode cX10_item 9 = .ok (.ifnonnull 5, 3) := by decide +kernel
theorem dX10_item_12 : decode cX10_item 12 = .ok (.iconst (-1), 1) := by decide +kernel
theorem dX10_item_13 : decode cX10_item 13 = .ok (.ireturn, 1) := by decide +kernel
theorem dX10_item_14 : decode cX10_item 14 = .ok (.aload 5, 2) := by decide +kernel
theorem dX10_item_16 : decode cX10_item 16 = .ok (.getfield 313, 3) := by decide +kernel
theorem dX10_item_19 : decode cX10_item 19 = .ok (.iconst (-1), 1) := by decide +kernel
theorem dX10_item_20 : decode cX10_item 20 = .ok (.if_icmp .ne 6, 3) := by decide +kernel
theorem dX10_item_23 : decode cX10_item 23 = .ok (.bipush (-11), 2) := by decide +kernel
theorem dX10_item_25 : decode cX10_item 25 = .ok (.ireturn, 1) := by decide +kernel
theorem dX10_item_26 : decode cX10_item 26 = .ok (.iload_n 2, 1) := by decide +kernel
theorem dX10_item_27 : decode cX10_item 27 = .ok (.ifCond .lt 12, 3) := by decide +kernel
theorem dX10_item_30 : decode cX10_item 30 = .ok (.iload_n 2, 1) := by decide +kernel
theorem dX10_item_31 : decode cX10_item 31 = .ok (.aload 5, 2) := by decide +kernel
theorem dX10_item_33 : decode cX10_item 33 = .ok (.getfield 316, 3) := by decide +kernel
theorem dX10_item_36 : decode cX10_item 36 = .ok (.if_icmp .lt 6, 3) := by decide +kernel
theorem dX10_item_39 : decode cX10_item 39 = .ok (.bipush (-13), 2) := by decide +kernel
theorem dX10_item_41 : decode cX10_item 41 = .ok (.ireturn, 1) := by decide +kernel
theorem dX10_item_42 : decode cX10_item 42 = .ok (.aload 5, 2) := by decide +kernel
theorem dX10_item_44 : decode cX10_item 44 = .ok (.iload_n 2, 1) := by decide +kernel
theorem dX10_item_45 : decode cX10_item 45 = .ok (.lload_n 3, 1) := by decide +kernel
theorem dX10_item_46 : decode cX10_item 46 = .ok (.invokevirtual 326, 3) := by decide +kernel
theorem dX10_item_49 : decode cX10_item 49 = .ok (.iconst 1, 1) := by decide +kernel
theorem dX10_item_50 : decode cX10_item 50 = .ok (.ireturn, 1) := by decide +kernel
theorem dX10_peek_0 : decode cX10_peek 0 = .ok (.aload_n 0, 1) := by decide +kernel
theorem dX10_peek_1 : decode cX10_peek 1 = .ok (.iload_n 1, 1) := by decide +kernel
theorem dX10_peek_2 : decode cX10_peek 2 = .ok (.invokevirtual 309, 3) := by decide +kernel
theorem dX10_peek_5 : decode cX10_peek 5 = .ok (.astore_n 3, 1) := by decide +kernel
theorem dX10_peek_6 : decode cX10_peek 6 = .ok (.aload_n 3, 1) := by decide +kernel
theorem dX10_peek_7 : decode cX10_peek 7 = .ok (.ifnonnull 7, 3) := by decide +kernel
theorem dX10_peek_10 : decode cX10_peek 10 = .ok (.ldc2_w 329, 3) := by decide +kernel
theorem dX10_peek_13 : decode cX10_peek 13 = .ok (.lreturn, 1) := by decide +kernel
theorem dX10_peek_14 : decode cX10_peek 14 = .ok (.aload_n 3, 1) := by decide +kernel
theorem dX10_peek_15 : decode cX10_peek 15 = .ok (.iload_n 2, 1) := by decide +kernel
theorem dX10_peek_16 : decode cX10_peek 16 = .ok (.invokevirtual 317, 3) := by decide +kernel
theorem dX10_peek_19 : decode cX10_peek 19 = .ok (.lreturn, 1) := by decide +kernel
theorem dX10_shift_0 : decode cX10_shift 0 = .ok (.aload_n 0, 1) := by decide +kernel
theorem dX10_shift_1 : decode cX10_shift 1 = .ok (.iload_n 1, 1) := by decide +kernel
theorem dX10_shift_2 : decode cX10_shift 2 = .ok (.invokevirtual 309, 3) := by decide +kernel
theorem dX10_shift_5 : decode cX10_shift 5 = .ok (.astore 6, 2) := by decide +kernel
theorem dX10_shift_7 : decode cX10_shift 7 = .ok (.aload_n 0, 1) := by decide +kernel
theorem dX10_shift_8 : decode cX10_shift 8 = .ok (.iload_n 3, 1) := by decide +kernel
theorem dX10_shift_9 : decode cX10_shift 9 = .ok (.invokevirtual 309, 3) := by decide +kernel
theorem dX10_shift_12 : decode cX10_shift 12 = .ok (.astore 7, 2) := by decide +kernel
theorem dX10_shift_14 : decode cX10_shift 14 = .ok (.aload 6, 2) := by decide +kernel
theorem dX10_shift_16 : decode cX10_shift 16 = .ok (.ifnull 8, 3) := by decide +kernel
theorem dX10_shift_19 : decode cX10_shift 19 = .ok (.aload 7, 2) := by decide +kernel
theorem dX10_shift_21 : decode cX10_shift 21 = .ok (.ifnonnull 5, 3) := by decide +kernel
theorem dX10_shift_24 : decode cX10_shift 24 = .ok (.iconst (-1), 1) := by decide +kernel
theorem dX10_shift_25 : decode cX10_shift 25 = .ok (.ireturn, 1) := by decide +kernel
theorem dX10_shift_26 : decode cX10_shift 26 = .ok (.aload 6, 2) := by decide +kernel
theorem dX10_shift_28 : decode cX10_shift 28 = .ok (.getfield 313, 3) := by decide +kernel
theorem dX10_shift_31 : decode cX10_shift 31 = .ok (.iconst (-1), 1) := by decide +kernel
theorem dX10_shift_32 : decode cX10_shift 32 = .ok (.if_icmp .eq 12, 3) := by decide +kernel
theorem dX10_shift_35 : decode cX10_shift 35 = .ok (.aload 7, 2) := by decide +kernel
theorem dX10_shift_37 : decode cX10_shift 37 = .ok (.getfield 313, 3) := by decide +kernel
theorem dX10_shift_40 : decode cX10_shift 40 = .ok (.iconst (-1), 1) := by decide +kernel
theorem dX10_shift_41 : decode cX10_shift 41 = .ok (.if_icmp .ne 6, 3) := by decide +kernel
theorem dX10_shift_44 : decode cX10_shift 44 = .ok (.bipush (-11), 2) := by decide +kernel
theorem dX10_shift_46 : decode cX10_shift 46 = .ok (.ireturn, 1) := by decide +kernel
theorem dX10_shift_47 : decode cX10_shift 47 = .ok (.aload 6, 2) := by decide +kernel
theorem dX10_shift_49 : decode cX10_shift 49 = .ok (.getfield 313, 3) := by decide +kernel
theorem dX10_shift_52 : decode cX10_shift 52 = .ok (.aload 7, 2) := by decide +kernel
theorem dX10_shift_54 : decode cX10_shift 54 = .ok (.getfield 313, 3) := by decide +kernel
theorem dX10_shift_57 : decode cX10_shift 57 = .ok (.if_icmp .eq 6, 3) := by decide +kernel
theorem dX10_shift_60 : decode cX10_shift 60 = .ok (.bipush (-12), 2) := by decide +kernel
theorem dX10_shift_62 : decode cX10_shift 62 = .ok (.ireturn, 1) := by decide +kernel
theorem dX10_shift_63 : decode cX10_shift 63 = .ok (.aload 6, 2) := by decide +kernel
theorem dX10_shift_65 : decode cX10_shift 65 = .ok (.iload_n 2, 1) := by decide +kernel
theorem dX10_shift_66 : decode cX10_shift 66 = .ok (.iload 5, 2) := by decide +kernel
theorem dX10_shift_68 : decode cX10_shift 68 = .ok (.invokevirtual 331, 3) := by decide +kernel
theorem dX10_shift_71 : decode cX10_shift 71 = .ok (.ifCond .eq 15, 3) := by decide +kernel
theorem dX10_shift_74 : decode cX10_shift 74 = .ok (.aload 7, 2) := by decide +kernel
theorem dX10_shift_76 : decode cX10_shift 76 = .ok (.iload 4, 2) := by decide +kernel
theorem dX10_shift_78 : decode cX10_shift 78 = .ok (.iload 5, 2) := by decide +kernel
theorem dX10_shift_80 : decode cX10_shift 80 = .ok (.invokevirtual 331, 3) := by decide +kernel
theorem dX10_shift_83 : decode cX10_shift 83 = .ok (.ifCond .ne 6, 3) := by decide +kernel
theorem dX10_shift_86 : decode cX10_shift 86 = .ok (.bipush (-13), 2) := by decide +kernel
theorem dX10_shift_88 : decode cX10_shift 88 = .ok (.ireturn, 1) := by decide +kernel
theorem dX10_shift_89 : decode cX10_shift 89 = .ok (.aload 7, 2) := by decide +kernel
theorem dX10_shift_91 : decode cX10_shift 91 = .ok (.iload 4, 2) := by decide +kernel
theorem dX10_shift_93 : decode cX10_shift 93 = .ok (.aload 6, 2) := by decide +kernel
theorem dX10_shift_95 : decode cX10_shift 95 = .ok (.iload_n 2, 1) := by decide +kernel
theorem dX10_shift_96 : decode cX10_shift 96 = .ok (.iload 5, 2) := by decide +kernel
theorem dX10_shift_98 : decode cX10_shift 98 = .ok (.invokevirtual 334, 3) := by decide +kernel
theorem dX10_shift_101 : decode cX10_shift 101 = .ok (.iload 5, 2) := by decide +kernel
theorem dX10_shift_103 : decode cX10_shift 103 = .ok (.ireturn, 1) := by decide +kernel
theorem dX10_areSizes_0 : decode cX10_areSizes 0 = .ok (.aload_n 0, 1) := by decide +kernel
theorem dX10_areSizes_1 : decode cX10_areSizes 1 = .ok (.getfield 12, 3) := by decide +kernel
theorem dX10_areSizes_4 : decode cX10_areSizes 4 = .ok (.iload_n 1, 1) := by decide +kernel
theorem dX10_areSizes_5 : decode cX10_areSizes 5 = .ok (.invokevirtual 158, 3) := by decide +kernel
theorem dX10_areSizes_8 : decode cX10_areSizes 8 = .ok (.ifCond .eq 23, 3) := by decide +kernel
theorem dX10_areSizes_11 : decode cX10_areSizes 11 = .ok (.aload_n 0, 1) := by decide +kernel
theorem dX10_areSizes_12 : decode cX10_areSizes 12 = .ok (.getfield 12, 3) := by decide +kernel
theorem dX10_areSizes_15 : decode cX10_areSizes 15 = .ok (.iload_n 2, 1) := by decide +kernel
theorem dX10_areSizes_16 : decode cX10_areSizes 16 = .ok (.invokevirtual 158, 3) := by decide +kernel
theorem dX10_areSizes_19 : decode cX10_areSizes 19 = .ok (.ifCond .eq 12, 3) := by decide +kernel
theorem dX10_areSizes_22 : decode cX10_areSizes 22 = .ok (.iload_n 1, 1) := by decide +kernel
theorem dX10_areSizes_23 : decode cX10_areSizes 23 = .ok (.iload_n 2, 1) := by decide +kernel
theorem dX10_areSizes_24 : decode cX10_areSizes 24 = .ok (.if_icmp .gt 7, 3) := by decide +kernel
theorem dX10_areSizes_27 : decode cX10_areSizes 27 = .ok (.iconst 1, 1) := by decide +kernel
theorem dX10_areSizes_28 : decode cX10_areSizes 28 = .ok (.goto 4, 3) := by decide +kernel
theorem dX10_areSizes_31 : decode cX10_areSizes 31 = .ok (.iconst 0, 1) := by decide +kernel
theorem dX10_areSizes_32 : decode cX10_areSizes 32 = .ok (.ireturn, 1) := by decide +kernel
theorem dX10_isAim_0 : decode cX10_isAim 0 = .ok (.iload_n 0, 1) := by decide +kernel
theorem dX10_isAim_1 : decode cX10_isAim 1 = .ok (.iconst 1, 1) := by decide +kernel
theorem dX10_isAim_2 : decode cX10_isAim 2 = .ok (.if_icmp .lt 13, 3) := by decide +kernel
theorem dX10_isAim_5 : decode cX10_isAim 5 = .ok (.iload_n 0, 1) := by decide +kernel
theorem dX10_isAim_6 : decode cX10_isAim 6 = .ok (.bipush 70, 2) := by decide +kernel
theorem dX10_isAim_8 : decode cX10_isAim 8 = .ok (.if_icmp .gt 7, 3) := by decide +kernel
theorem dX10_isAim_11 : decode cX10_isAim 11 = .ok (.iconst 1, 1) := by decide +kernel
theorem dX10_isAim_12 : decode cX10_isAim 12 = .ok (.goto 4, 3) := by decide +kernel
theorem dX10_isAim_15 : decode cX10_isAim 15 = .ok (.iconst 0, 1) := by decide +kernel
theorem dX10_isAim_16 : decode cX10_isAim 16 = .ok (.ireturn, 1) := by decide +kernel
theorem dX10_hasBitsFrom_0 : decode cX10_hasBitsFrom 0 = .ok (.iload_n 1, 1) := by decide +kernel
theorem dX10_hasBitsFrom_1 : decode cX10_hasBitsFrom 1 = .ok (.bipush 31, 2) := by decide +kernel
theorem dX10_hasBitsFrom_3 : decode cX10_hasBitsFrom 3 = .ok (.if_icmp .ge 13, 3) := by decide +kernel
theorem dX10_hasBitsFrom_6 : decode cX10_hasBitsFrom 6 = .ok (.iload_n 0, 1) := by decide +kernel
theorem dX10_hasBitsFrom_7 : decode cX10_hasBitsFrom 7 = .ok (.iload_n 1, 1) := by decide +kernel
theorem dX10_hasBitsFrom_8 : decode cX10_hasBitsFrom 8 = .ok (.ishr, 1) := by decide +kernel
theorem dX10_hasBitsFrom_9 : decode cX10_hasBitsFrom 9 = .ok (.ifCond .eq 7, 3) := by decide +kernel
theorem dX10_hasBitsFrom_12 : decode cX10_hasBitsFrom 12 = .ok (.iconst 1, 1) := by decide +kernel
theorem dX10_hasBitsFrom_13 : decode cX10_hasBitsFrom 13 = .ok (.goto 4, 3) := by decide +kernel
theorem dX10_hasBitsFrom_16 : decode cX10_hasBitsFrom 16 = .ok (.iconst 0, 1) := by decide +kernel
theorem dX10_hasBitsFrom_17 : decode cX10_hasBitsFrom 17 = .ok (.ireturn, 1) := by decide +kernel
theorem dX10_haveDivisorInCommon_0 : decode cX10_haveDivisorInCommon 0 = .ok (.iconst 2, 1) := by decide +kernel
theorem dX10_haveDivisorInCommon_1 : decode cX10_haveDivisorInCommon 1 = .ok (.istore_n 2, 1) := by decide +kernel
theorem dX10_haveDivisorInCommon_2 : decode cX10_haveDivisorInCommon 2 = .ok (.iload_n 2, 1) := by decide +kernel
theorem dX10_haveDivisorInCommon_3 : decode cX10_haveDivisorInCommon 3 = .ok (.iload_n 1, 1) := by decide +kernel
theorem dX10_haveDivisorInCommon_4 : decode cX10_haveDivisorInCommon 4 = .ok (.if_icmp .gt 23, 3) := by decide +kernel
theorem dX10_haveDivisorInCommon_7 : decode cX10_haveDivisorInCommon 7 = .ok (.iload_n 0, 1) := by decide +kernel
theorem dX10_haveDivisorInCommon_8 : decode cX10_haveDivisorInCommon 8 = .ok (.iload_n 2, 1) := by decide +kernel
theorem dX10_haveDivisorInCommon_9 : decode cX10_haveDivisorInCommon 9 = .ok (.irem, 1) := by decide +kernel
theorem dX10_haveDivisorInCommon_10 : decode cX10_haveDivisorInCommon 10 = .ok (.ifCond .ne 11, 3) := by decide +kernel
theorem dX10_haveDivisorInCommon_13 : decode cX10_haveDivisorInCommon 13 = .ok (.iload_n 1, 1) := by decide +kernel
theorem dX10_haveDivisorInCommon_14 : decode cX10_haveDivisorInCommon 14 = .ok (.iload_n 2, 1) := by decide +kernel
theorem dX10_haveDivisorInCommon_15 : decode cX10_haveDivisorInCommon 15 = .ok (.irem, 1) := by decide +kernel
theorem dX10_haveDivisorInCommon_16 : decode cX10_haveDivisorInCommon 16 = .ok (.ifCond .ne 5, 3) := by decide +kernel
theorem dX10_haveDivisorInCommon_19 : decode cX10_haveDivisorInCommon 19 = .ok (.iconst 1, 1) := by decide +kernel
theorem dX10_haveDivisorInCommon_20 : decode cX10_haveDivisorInCommon 20 = .ok (.ireturn, 1) := by decide +kernel
theorem dX10_haveDivisorInCommon_21 : decode cX10_haveDivisorInCommon 21 = .ok (.iinc 2 1, 3) := by decide +kernel
theorem dX10_haveDivisorInCommon_24 : decode cX10_haveDivisorInCommon 24 = .ok (.goto (-22), 3) := by decide +kernel
theorem dX10_haveDivisorInCommon_27 : decode cX10_haveDivisorInCommon 27 = .ok (.iconst 0, 1) := by decide +kernel
theorem dX10_haveDivisorInCommon_28 : decode cX10_haveDivisorInCommon 28 = .ok (.ireturn, 1) := by decide +kernel
theorem dX10_isArrangement_0 : decode cX10_isArrangement 0 = .ok (.iload_n 0, 1) := by decide +kernel
theorem dX10_isArrangement_1 : decode cX10_isArrangement 1 = .ok (.istore_n 2, 1) := by decide +kernel
theorem dX10_isArrangement_2 : decode cX10_isArrangement 2 = .ok (.iconst 0, 1) := by decide +kernel
theorem dX10_isArrangement_3 : decode cX10_isArrangement 3 = .ok (.istore_n 3, 1) := by decide +kernel
theorem dX10_isArrangement_4 : decode cX10_isArrangement 4 = .ok (.iconst 0, 1) := by decide +kernel
theorem dX10_isArrangement_5 : decode cX10_isArrangement 5 = .ok (.istore 4, 2) := by decide +kernel
theorem dX10_isArrangement_7 : decode cX10_isArrangement 7 = .ok (.iload 4, 2) := by decide +kernel
theorem dX10_isArrangement_9 : decode cX10_isArrangement 9 = .ok (.iload_n 1, 1) := by decide +kernel
theorem dX10_isArrangement_10 : decode cX10_isArrangement 10 = .ok (.if_icmp .ge 41, 3) := by decide +kernel
theorem dX10_isArrangement_13 : decode cX10_isArrangement 13 = .ok (.iload_n 2, 1) := by decide +kernel
theorem dX10_isArrangement_14 : decode cX10_isArrangement 14 = .ok (.bipush 10, 2) := by decide +kernel
theorem dX10_isArrangement_16 : decode cX10_isArrangement 16 = .ok (.irem, 1) := by decide +kernel
theorem dX10_isArrangement_17 : decode cX10_isArrangement 17 = .ok (.istore 5, 2) := by decide +kernel
theorem dX10_isArrangement_19 : decode cX10_isArrangement 19 = .ok (.iload 5, 2) := by decide +kernel
theorem dX10_isArrangement_21 : decode cX10_isArrangement 21 = .ok (.iconst 1, 1) := by decide +kernel
theorem dX10_isArrangement_22 : decode cX10_isArrangement 22 = .ok (.if_icmp .lt 9, 3) := by decide +kernel
theorem dX10_isArrangement_25 : decode cX10_isArrangement 25 = .ok (.iload 5, 2) := by decide +kernel
theorem dX10_isArrangement_27 : decode cX10_isArrangement 27 = .ok (.iload_n 1, 1) := by decide +kernel
theorem dX10_isArrangement_28 : decode cX10_isArrangement 28 = .ok (.if_icmp .le 5, 3) := by decide +kernel
theorem dX10_isArrangement_31 : decode cX10_isArrangement 31 = .ok (.iconst 0, 1) := by decide +kernel
theorem dX10_isArrangement_32 : decode cX10_isArrangement 32 = .ok (.ireturn, 1) := by decide +kernel
theorem dX10_isArrangement_33 : decode cX10_isArrangement 33 = .ok (.iload_n 3, 1) := by decide +kernel
theorem dX10_isArrangement_34 : decode cX10_isArrangement 34 = .ok (.iconst 1, 1) := by decide +kernel
theorem dX10_isArrangement_35 : decode cX10_isArrangement 35 = .ok (.iload 5, 2) := by decide +kernel
theorem dX10_isArrangement_37 : decode cX10_isArrangement 37 = .ok (.ishl, 1) := by decide +kernel
theorem dX10_isArrangement_38 : decode cX10_isArrangement 38 = .ok (.ior, 1) := by decide +kernel
theorem dX10_isArrangement_39 : decode cX10_isArrangement 39 = .ok (.istore_n 3, 1) := by decide +kernel
theorem dX10_isArrangement_40 : decode cX10_isArrangement 40 = .ok (.iload_n 2, 1) := by decide +kernel
theorem dX10_isArrangement_41 : decode cX10_isArrangement 41 = .ok (.bipush 10, 2) := by decide +kernel
theorem dX10_isArrangement_43 : decode cX10_isArrangement 43 = .ok (.idiv, 1) := by decide +kernel
theorem dX10_isArrangement_44 : decode cX10_isArrangement 44 = .ok (.istore_n 2, 1) := by decide +kernel
theorem dX10_isArrangement_45 : decode cX10_isArrangement 45 = .ok (.iinc 4 1, 3) := by decide +kernel
theorem dX10_isArrangement_48 : decode cX10_isArrangement 48 = .ok (.goto (-41), 3) := by decide +kernel
theorem dX10_isArrangement_51 : decode cX10_isArrangement 51 = .ok (.iload_n 2, 1) := by decide +kernel
theorem dX10_isArrangement_52 : decode cX10_isArrangement 52 = .ok (.ifCond .ne 15, 3) := by decide +kernel
theorem dX10_isArrangement_55 : decode cX10_isArrangement 55 = .ok (.iload_n 3, 1) := by decide +kernel
theorem dX10_isArrangement_56 : decode cX10_isArrangement 56 = .ok (.invokestatic 222, 3) := by decide +kernel
theorem dX10_isArrangement_59 : decode cX10_isArrangement 59 = .ok (.iload_n 1, 1) := by decide +kernel
theorem dX10_isArrangement_60 : decode cX10_isArrangement 60 = .ok (.if_icmp .ne 7, 3) := by decide +kernel
theorem dX10_isArrangement_63 : decode cX10_isArrangement 63 = .ok (.iconst 1, 1) := by decide +kernel
theorem dX10_isArrangement_64 : decode cX10_isArrangement 64 = .ok (.goto 4, 3) := by decide +kernel
theorem dX10_isArrangement_67 : decode cX10_isArrangement 67 = .ok (.iconst 0, 1) := by decide +kernel
theorem dX10_isArrangement_68 : decode cX10_isArrangement 68 = .ok (.ireturn, 1) := by decide +kernel
theorem dX10_loadChoices_0 : decode cX10_loadChoices 0 = .ok (.aload_n 0, 1) := by decide +kernel
theorem dX10_loadChoices_1 : decode cX10_loadChoices 1 = .ok (.getfield 42, 3) := by decide +kernel
theorem dX10_loadChoices_4 : decode cX10_loadChoices 4 = .ok (.aload_n 0, 1) := by decide +kernel
theorem dX10_loadChoices_5 : decode cX10_loadChoices 5 = .ok (.getfield 12, 3) := by decide +kernel
theorem dX10_loadChoices_8 : decode cX10_loadChoices 8 = .ok (.invokevirtual 161, 3) := by decide +kernel
theorem dX10_loadChoices_11 : decode cX10_loadChoices 11 = .ok (.aload_n 0, 1) := by decide +kernel
theorem dX10_loadChoices_12 : decode cX10_loadChoices 12 = .ok (.getfield 42, 3) := by decide +kernel
theorem dX10_loadChoices_15 : decode cX10_loadChoices 15 = .ok (.iload_n 2, 1) := by decide +kernel
theorem dX10_loadChoices_16 : decode cX10_loadChoices 16 = .ok (.invokevirtual 165, 3) := by decide +kernel
theorem dX10_loadChoices_19 : decode cX10_loadChoices 19 = .ok (.bipush 14, 2) := by decide +kernel
theorem dX10_loadChoices_21 : decode cX10_loadChoices 21 = .ok (.if_icmp .le 5, 3) := by decide +kernel
theorem dX10_loadChoices_24 : decode cX10_loadChoices 24 = .ok (.iconst 0, 1) := by decide +kernel
theorem dX10_loadChoices_25 : decode cX10_loadChoices 25 = .ok (.ireturn, 1) := by decide +kernel
theorem dX10_loadChoices_26 : decode cX10_loadChoices 26 = .ok (.aload_n 0, 1) := by decide +kernel
theorem dX10_loadChoices_27 : decode cX10_loadChoices 27 = .ok (.getfield 56, 3) := by decide +kernel
theorem dX10_loadChoices_30 : decode cX10_loadChoices 30 = .ok (.aload_n 0, 1) := by decide +kernel
theorem dX10_loadChoices_31 : decode cX10_loadChoices 31 = .ok (.getfield 42, 3) := by decide +kernel
theorem dX10_loadChoices_34 : decode cX10_loadChoices 34 = .ok (.iload_n 1, 1) := by decide +kernel
theorem dX10_loadChoices_35 : decode cX10_loadChoices 35 = .ok (.iload_n 2, 1) := by decide +kernel
theorem dX10_loadChoices_36 : decode cX10_loadChoices 36 = .ok (.invokevirtual 338, 3) := by decide +kernel
theorem dX10_loadChoices_39 : decode cX10_loadChoices 39 = .ok (.iconst 1, 1) := by decide +kernel
theorem dX10_loadChoices_40 : decode cX10_loadChoices 40 = .ok (.ireturn, 1) := by decide +kernel
theorem dX10_isLikeAnEarlierSolution_0 : decode cX10_isLikeAnEarlierSolution 0 = .ok (.aload_n 0, 1) := by decide +kernel
theorem dX10_isLikeAnEarlierSolution_1 : decode cX10_isLikeAnEarlierSolution 1 = .ok (.getfield 77, 3) := by decide +kernel
theorem dX10_isLikeAnEarlierSolution_4 : decode cX10_isLikeAnEarlierSolution 4 = .ok (.aload_n 0, 1) := by decide +kernel
theorem dX10_isLikeAnEarlierSolution_5 : decode cX10_isLikeAnEarlierSolution 5 = .ok (.getfield 42, 3) := by decide +kernel
theorem dX10_isLikeAnEarlierSolution_8 : decode cX10_isLikeAnEarlierSolution 8 = .ok (.iload_n 1, 1) := by decide +kernel
theorem dX10_isLikeAnEarlierSolution_9 : decode cX10_isLikeAnEarlierSolution 9 = .ok (.aload_n 0, 1) := by decide +kernel
theorem dX10_isLikeAnEarlierSolution_10 : decode cX10_isLikeAnEarlierSolution 10 = .ok (.getfield 56, 3) := by decide +kernel
theorem dX10_isLikeAnEarlierSolution_13 : decode cX10_isLikeAnEarlierSolution 13 = .ok (.iload_n 2, 1) := by decide +kernel
theorem dX10_isLikeAnEarlierSolution_14 : decode cX10_isLikeAnEarlierSolution 14 = .ok (.invokevirtual 341, 3) := by decide +kernel
theorem dX10_isLikeAnEarlierSolution_17 : decode cX10_isLikeAnEarlierSolution 17 = .ok (.invokevirtual 215, 3) := by decide +kernel
theorem dX10_isLikeAnEarlierSolution_20 : decode cX10_isLikeAnEarlierSolution 20 = .ok (.iconst 0, 1) := by decide +kernel
theorem dX10_isLikeAnEarlierSolution_21 : decode cX10_isLikeAnEarlierSolution 21 = .ok (.istore_n 3, 1) := by decide +kernel
theorem dX10_isLikeAnEarlierSolution_22 : decode cX10_isLikeAnEarlierSolution 22 = .ok (.iload_n 3, 1) := by decide +kernel
theorem dX10_isLikeAnEarlierSolution_23 : decode cX10_isLikeAnEarlierSolution 23 = .ok (.iload_n 2, 1) := by decide +kernel
theorem dX10_isLikeAnEarlierSolution_24 : decode cX10_isLikeAnEarlierSolution 24 = .ok (.if_icmp .ge 56, 3) := by decide +kernel
theorem dX10_isLikeAnEarlierSolution_27 : decode cX10_isLikeAnEarlierSolution 27 = .ok (.aload_n 0, 1) := by decide +kernel
theorem dX10_isLikeAnEarlierSolution_28 : decode cX10_isLikeAnEarlierSolution 28 = .ok (.getfield 81, 3) := by decide +kernel
theorem dX10_isLikeAnEarlierSolution_31 : decode cX10_isLikeAnEarlierSolution 31 = .ok (.aload_n 0, 1) := by decide +kernel
theorem dX10_isLikeAnEarlierSolution_32 : decode cX10_isLikeAnEarlierSolution 32 = .ok (.getfield 42, 3) := by decide +kernel
theorem dX10_isLikeAnEarlierSolution_35 : decode cX10_isLikeAnEarlierSolution 35 = .ok (.iload_n 1, 1) := by decide +kernel
theorem dX10_isLikeAnEarlierSolution_36 : decode cX10_isLikeAnEarlierSolution 36 = .ok (.aload_n 0, 1) := by decide +kernel
theorem dX10_isLikeAnEarlierSolution_37 : decode cX10_isLikeAnEarlierSolution 37 = .ok (.getfield 56, 3) := by decide +kernel
theorem dX10_isLikeAnEarlierSolution_40 : decode cX10_isLikeAnEarlierSolution 40 = .ok (.iload_n 3, 1) := by decide +kernel
theorem dX10_isLikeAnEarlierSolution_41 : decode cX10_isLikeAnEarlierSolution 41 = .ok (.invokevirtual 341, 3) := by decide +kernel
theorem dX10_isLikeAnEarlierSolution_44 : decode cX10_isLikeAnEarlierSolution 44 = .ok (.invokevirtual 215, 3) := by decide +kernel
theorem dX10_isLikeAnEarlierSolution_47 : decode cX10_isLikeAnEarlierSolution 47 = .ok (.aload_n 0, 1) := by decide +kernel
theorem dX10_isLikeAnEarlierSolution_48 : decode cX10_isLikeAnEarlierSolution 48 = .ok (.getfield 63, 3) := by decide +kernel
theorem dX10_isLikeAnEarlierSolution_51 : decode cX10_isLikeAnEarlierSolution 51 = .ok (.aload_n 0, 1) := by decide +kernel
theorem dX10_isLikeAnEarlierSolution_52 : decode cX10_isLikeAnEarlierSolution 52 = .ok (.getfield 77, 3) := by decide +kernel
theorem dX10_isLikeAnEarlierSolution_55 : decode cX10_isLikeAnEarlierSolution 55 = .ok (.aload_n 0, 1) := by decide +kernel
theorem dX10_isLikeAnEarlierSolution_56 : decode cX10_isLikeAnEarlierSolution 56 = .ok (.getfield 81, 3) := by decide +kernel
theorem dX10_isLikeAnEarlierSolution_59 : decode cX10_isLikeAnEarlierSolution 59 = .ok (.aload_n 0, 1) := by decide +kernel
theorem dX10_isLikeAnEarlierSolution_60 : decode cX10_isLikeAnEarlierSolution 60 = .ok (.getfield 12, 3) := by decide +kernel
theorem dX10_isLikeAnEarlierSolution_63 : decode cX10_isLikeAnEarlierSolution 63 = .ok (.getfield 84, 3) := by decide +kernel
theorem dX10_isLikeAnEarlierSolution_66 : decode cX10_isLikeAnEarlierSolution 66 = .ok (.invokevirtual 276, 3) := by decide +kernel
theorem dX10_isLikeAnEarlierSolution_69 : decode cX10_isLikeAnEarlierSolution 69 = .ok (.ifCond .eq 5, 3) := by decide +kernel
theorem dX10_isLikeAnEarlierSolution_72 : decode cX10_isLikeAnEarlierSolution 72 = .ok (.iconst 1, 1) := by decide +kernel
theorem dX10_isLikeAnEarlierSolution_73 : decode cX10_isLikeAnEarlierSolution 73 = .ok (.ireturn, 1) := by decide +kernel
theorem dX10_isLikeAnEarlierSolution_74 : decode cX10_isLikeAnEarlierSolution 74 = .ok (.iinc 3 1, 3) := by decide +kernel
theorem dX10_isLikeAnEarlierSolution_77 : decode cX10_isLikeAnEarlierSolution 77 = .ok (.goto (-55), 3) := by decide +kernel
theorem dX10_isLikeAnEarlierSolution_80 : decode cX10_isLikeAnEarlierSolution 80 = .ok (.iconst 0, 1) := by decide +kernel
theorem dX10_isLikeAnEarlierSolution_81 : decode cX10_isLikeAnEarlierSolution 81 = .ok (.ireturn, 1) := by decide +kernel
theorem dX10_doClauses_0 : decode cX10_doClauses 0 = .ok (.iconst 0, 1) := by decide +kernel
theorem dX10_doClauses_1 : decode cX10_doClauses 1 = .ok (.istore_n 1, 1) := by decide +kernel
theorem dX10_doClauses_2 : decode cX10_doClauses 2 = .ok (.iconst 0, 1) := by decide +kernel
theorem dX10_doClauses_3 : decode cX10_doClauses 3 = .ok (.istore_n 2, 1) := by decide +kernel
theorem dX10_doClauses_4 : decode cX10_doClauses 4 = .ok (.iconst 0, 1) := by decide +kernel
theorem dX10_doClauses_5 : decode cX10_doClauses 5 = .ok (.istore_n 3, 1) := by decide +kernel
theorem dX10_doClauses_6 : decode cX10_doClauses 6 = .ok (.iload_n 3, 1) := by decide +kernel
theorem dX10_doClauses_7 : decode cX10_doClauses 7 = .ok (.bipush 12, 2) := by decide +kernel
theorem dX10_doClauses_9 : decode cX10_doClauses 9 = .ok (.if_icmp .ge 56, 3) := by decide +kernel
theorem dX10_doClauses_12 : decode cX10_doClauses 12 = .ok (.iload_n 2, 1) := by decide +kernel
theorem dX10_doClauses_13 : decode cX10_doClauses 13 = .ok (.aload_n 0, 1) := by decide +kernel
theorem dX10_doClauses_14 : decode cX10_doClauses 14 = .ok (.getfield 28, 3) := by decide +kernel
theorem dX10_doClauses_17 : decode cX10_doClauses 17 = .ok (.getfield 300, 3) := by decide +kernel
theorem dX10_doClauses_20 : decode cX10_doClauses 20 = .ok (.if_icmp .ge 45, 3) := by decide +kernel
theorem dX10_doClauses_23 : decode cX10_doClauses 23 = .ok (.iload_n 2, 1) := by decide +kernel
theorem dX10_doClauses_24 : decode cX10_doClauses 24 = .ok (.iconst 1, 1) := by decide +kernel
theorem dX10_doClauses_25 : decode cX10_doClauses 25 = .ok (.iadd, 1) := by decide +kernel
theorem dX10_doClauses_26 : decode cX10_doClauses 26 = .ok (.aload_n 0, 1) := by decide +kernel
theorem dX10_doClauses_27 : decode cX10_doClauses 27 = .ok (.getfield 28, 3) := by decide +kernel
theorem dX10_doClauses_30 : decode cX10_doClauses 30 = .ok (.iload_n 2, 1) := by decide +kernel
theorem dX10_doClauses_31 : decode cX10_doClauses 31 = .ok (.iconst 1, 1) := by decide +kernel
theorem dX10_doClauses_32 : decode cX10_doClauses 32 = .ok (.iadd, 1) := by decide +kernel
theorem dX10_doClauses_33 : decode cX10_doClauses 33 = .ok (.bipush 8, 2) := by decide +kernel
theorem dX10_doClauses_35 : decode cX10_doClauses 35 = .ok (.invokevirtual 344, 3) := by decide +kernel
theorem dX10_doClauses_38 : decode cX10_doClauses 38 = .ok (.iadd, 1) := by decide +kernel
theorem dX10_doClauses_39 : decode cX10_doClauses 39 = .ok (.istore 4, 2) := by decide +kernel
theorem dX10_doClauses_41 : decode cX10_doClauses 41 = .ok (.aload_n 0, 1) := by decide +kernel
theorem dX10_doClauses_42 : decode cX10_doClauses 42 = .ok (.iload_n 2, 1) := by decide +kernel
theorem dX10_doClauses_43 : decode cX10_doClauses 43 = .ok (.iload 4, 2) := by decide +kernel
theorem dX10_doClauses_45 : decode cX10_doClauses 45 = .ok (.invokevirtual 347, 3) := by decide +kernel
theorem dX10_doClauses_48 : decode cX10_doClauses 48 = .ok (.ifCond .eq 6, 3) := by decide +kernel
theorem dX10_doClauses_51 : decode cX10_doClauses 51 = .ok (.iinc 1 1, 3) := by decide +kernel
theorem dX10_doClauses_54 : decode cX10_doClauses 54 = .ok (.iload 4, 2) := by decide +kernel
theorem dX10_doClauses_56 : decode cX10_doClauses 56 = .ok (.iconst 1, 1) := by decide +kernel
theorem dX10_doClauses_57 : decode cX10_doClauses 57 = .ok (.iadd, 1) := by decide +kernel
theorem dX10_doClauses_58 : decode cX10_doClauses 58 = .ok (.istore_n 2, 1) := by decide +kernel
theorem dX10_doClauses_59 : decode cX10_doClauses 59 = .ok (.iinc 3 1, 3) := by decide +kernel
theorem dX10_doClauses_62 : decode cX10_doClauses 62 = .ok (.goto (-56), 3) := by decide +kernel
theorem dX10_doClauses_65 : decode cX10_doClauses 65 = .ok (.iload_n 1, 1) := by decide +kernel
theorem dX10_doClauses_66 : decode cX10_doClauses 66 = .ok (.ireturn, 1) := by decide +kernel
theorem dX10_doClause_0 : decode cX10_doClause 0 = .ok (.aload_n 0, 1) := by decide +kernel
theorem dX10_doClause_1 : decode cX10_doClause 1 = .ok (.getfield 28, 3) := by decide +kernel
theorem dX10_doClause_4 : decode cX10_doClause 4 = .ok (.iload_n 1, 1) := by decide +kernel
theorem dX10_doClause_5 : decode cX10_doClause 5 = .ok (.iconst 1, 1) := by decide +kernel
theorem dX10_doClause_6 : decode cX10_doClause 6 = .ok (.iadd, 1) := by decide +kernel
theorem dX10_doClause_7 : decode cX10_doClause 7 = .ok (.iload_n 2, 1) := by decide +kernel
theorem dX10_doClause_8 : decode cX10_doClause 8 = .ok (.invokevirtual 350, 3) := by decide +kernel
theorem dX10_doClause_11 : decode cX10_doClause 11 = .ok (.istore_n 3, 1) := by decide +kernel
theorem dX10_doClause_12 : decode cX10_doClause 12 = .ok (.aload_n 0, 1) := by decide +kernel
theorem dX10_doClause_13 : decode cX10_doClause 13 = .ok (.getfield 28, 3) := by decide +kernel
theorem dX10_doClause_16 : decode cX10_doClause 16 = .ok (.iload_n 1, 1) := by decide +kernel
theorem dX10_doClause_17 : decode cX10_doClause 17 = .ok (.invokevirtual 353, 3) := by decide +kernel
theorem dX10_doClause_20 : decode cX10_doClause 20 = .ok (.tableswitch 149 98 110 #[140, 149, 149, 149, 149, 82, 103, 149, 149, 117, 149, 149, 68], 68) := by decide +kernel
theorem dX10_doClause_88 : decode cX10_doClause 88 = .ok (.aload_n 0, 1) := by decide +kernel
theorem dX10_doClause_89 : decode cX10_doClause 89 = .ok (.iload_n 3, 1) := by decide +kernel
theorem dX10_doClause_90 : decode cX10_doClause 90 = .ok (.invokevirtual 356, 3) := by decide +kernel
theorem dX10_doClause_93 : decode cX10_doClause 93 = .ok (.ifCond .lt 7, 3) := by decide +kernel
theorem dX10_doClause_96 : decode cX10_doClause 96 = .ok (.iconst 1, 1) := by decide +kernel
theorem dX10_doClause_97 : decode cX10_doClause 97 = .ok (.goto 4, 3) := by decide +kernel
theorem dX10_doClause_100 : decode cX10_doClause 100 = .ok (.iconst 0, 1) := by decide +kernel
theorem dX10_doClause_101 : decode cX10_doClause 101 = .ok (.ireturn, 1) := by decide +kernel
theorem dX10_doClause_102 : decode cX10_doClause 102 = .ok (.aload_n 0, 1) := by decide +kernel
theorem dX10_doClause_103 : decode cX10_doClause 103 = .ok (.iload_n 3, 1) := by decide +kernel
theorem dX10_doClause_104 : decode cX10_doClause 104 = .ok (.bipush 10, 2) := by decide +kernel
theorem dX10_doClause_106 : decode cX10_doClause 106 = .ok (.idiv, 1) := by decide +kernel
theorem dX10_doClause_107 : decode cX10_doClause 107 = .ok (.iload_n 3, 1) := by decide +kernel
theorem dX10_doClause_108 : decode cX10_doClause 108 = .ok (.bipush 10, 2) := by decide +kernel
theorem dX10_doClause_110 : decode cX10_doClause 110 = .ok (.irem, 1) := by decide +kernel
theorem dX10_doClause_111 : decode cX10_doClause 111 = .ok (.invokevirtual 359, 3) := by decide +kernel
theorem dX10_doClause_114 : decode cX10_doClause 114 = .ok (.ifCond .lt 7, 3) := by decide +kernel
theorem dX10_doClause_117 : decode cX10_doClause 117 = .ok (.iconst 1, 1) := by decide +kernel
theorem dX10_doClause_118 : decode cX10_doClause 118 = .ok (.goto 4, 3) := by decide +kernel
theorem dX10_doClause_121 : decode cX10_doClause 121 = .ok (.iconst 0, 1) := by decide +kernel
theorem dX10_doClause_122 : decode cX10_doClause 122 = .ok (.ireturn, 1) := by decide +kernel
theorem dX10_doClause_123 : decode cX10_doClause 123 = .ok (.aload_n 0, 1) := by decide +kernel
theorem dX10_doClause_124 : decode cX10_doClause 124 = .ok (.iload_n 3, 1) := by decide +kernel
theorem dX10_doClause_125 : decode cX10_doClause 125 = .ok (.invokevirtual 362, 3) := by decide +kernel
theorem dX10_doClause_128 : decode cX10_doClause 128 = .ok (.ifCond .lt 7, 3) := by decide +kernel
theorem dX10_doClause_131 : decode cX10_doClause 131 = .ok (.iconst 1, 1) := by decide +kernel
theorem dX10_doClause_132 : decode cX10_doClause 132 = .ok (.goto 4, 3) := by decide +kernel
theorem dX10_doClause_135 : decode cX10_doClause 135 = .ok (.iconst 0, 1) := by decide +kernel
theorem dX10_doClause_136 : decode cX10_doClause 136 = .ok (.ireturn, 1) := by decide +kernel
theorem dX10_doClause_137 : decode cX10_doClause 137 = .ok (.aload_n 0, 1) := by decide +kernel
theorem dX10_doClause_138 : decode cX10_doClause 138 = .ok (.iload_n 3, 1) := by decide +kernel
theorem dX10_doClause_139 : decode cX10_doClause 139 = .ok (.bipush 10, 2) := by decide +kernel
theorem dX10_doClause_141 : decode cX10_doClause 141 = .ok (.idiv, 1) := by decide +kernel
theorem dX10_doClause_142 : decode cX10_doClause 142 = .ok (.iconst 1, 1) := by decide +kernel
theorem dX10_doClause_143 : decode cX10_doClause 143 = .ok (.iload_n 3, 1) := by decide +kernel
theorem dX10_doClause_144 : decode cX10_doClause 144 = .ok (.bipush 10, 2) := by decide +kernel
theorem dX10_doClause_146 : decode cX10_doClause 146 = .ok (.irem, 1) := by decide +kernel
theorem dX10_doClause_147 : decode cX10_doClause 147 = .ok (.ishl, 1) := by decide +kernel
theorem dX10_doClause_148 : decode cX10_doClause 148 = .ok (.invokevirtual 365, 3) := by decide +kernel
theorem dX10_doClause_151 : decode cX10_doClause 151 = .ok (.ifCond .lt 7, 3) := by decide +kernel
theorem dX10_doClause_154 : decode cX10_doClause 154 = .ok (.iconst 1, 1) := by decide +kernel
theorem dX10_doClause_155 : decode cX10_doClause 155 = .ok (.goto 4, 3) := by decide +kernel
theorem dX10_doClause_158 : decode cX10_doClause 158 = .ok (.iconst 0, 1) := by decide +kernel
theorem dX10_doClause_159 : decode cX10_doClause 159 = .ok (.ireturn, 1) := by decide +kernel
theorem dX10_doClause_160 : decode cX10_doClause 160 = .ok (.aload_n 0, 1) := by decide +kernel
theorem dX10_doClause_161 : decode cX10_doClause 161 = .ok (.iload_n 1, 1) := by decide +kernel
theorem dX10_doClause_162 : decode cX10_doClause 162 = .ok (.iconst 1, 1) := by decide +kernel
theorem dX10_doClause_163 : decode cX10_doClause 163 = .ok (.iadd, 1) := by decide +kernel
theorem dX10_doClause_164 : decode cX10_doClause 164 = .ok (.iload_n 2, 1) := by decide +kernel
theorem dX10_doClause_165 : decode cX10_doClause 165 = .ok (.invokevirtual 368, 3) := by decide +kernel
theorem dX10_doClause_168 : decode cX10_doClause 168 = .ok (.ireturn, 1) := by decide +kernel
theorem dX10_doClause_169 : decode cX10_doClause 169 = .ok (.iconst 0, 1) := by decide +kernel
theorem dX10_doClause_170 : decode cX10_doClause 170 = .ok (.ireturn, 1) := by decide +kernel
theorem dX10_doBlockClause_0 : decode cX10_doBlockClause 0 = .ok (.iconst 0, 1) := by decide +kernel
theorem dX10_doBlockClause_1 : decode cX10_doBlockClause 1 = .ok (.istore_n 3, 1) := by decide +kernel
theorem dX10_doBlockClause_2 : decode cX10_doBlockClause 2 = .ok (.iload_n 1, 1) := by decide +kernel
theorem dX10_doBlockClause_3 : decode cX10_doBlockClause 3 = .ok (.istore 4, 2) := by decide +kernel
theorem dX10_doBlockClause_5 : decode cX10_doBlockClause 5 = .ok (.iload 4, 2) := by decide +kernel
theorem dX10_doBlockClause_7 : decode cX10_doBlockClause 7 = .ok (.iload_n 2, 1) := by decide +kernel
theorem dX10_doBlockClause_8 : decode cX10_doBlockClause 8 = .ok (.if_icmp .ge 41, 3) := by decide +kernel
theorem dX10_doBlockClause_11 : decode cX10_doBlockClause 11 = .ok (.aload_n 0, 1) := by decide +kernel
theorem dX10_doBlockClause_12 : decode cX10_doBlockClause 12 = .ok (.getfield 28, 3) := by decide +kernel
theorem dX10_doBlockClause_15 : decode cX10_doBlockClause 15 = .ok (.iload 4, 2) := by decide +kernel
theorem dX10_doBlockClause_17 : decode cX10_doBlockClause 17 = .ok (.invokevirtual 371, 3) := by decide +kernel
theorem dX10_doBlockClause_20 : decode cX10_doBlockClause 20 = .ok (.istore 5, 2) := by decide +kernel
theorem dX10_doBlockClause_22 : decode cX10_doBlockClause 22 = .ok (.aload_n 0, 1) := by decide +kernel
theorem dX10_doBlockClause_23 : decode cX10_doBlockClause 23 = .ok (.getfield 12, 3) := by decide +kernel
theorem dX10_doBlockClause_26 : decode cX10_doBlockClause 26 = .ok (.iload 5, 2) := by decide +kernel
theorem dX10_doBlockClause_28 : decode cX10_doBlockClause 28 = .ok (.invokevirtual 140, 3) := by decide +kernel
theorem dX10_doBlockClause_31 : decode cX10_doBlockClause 31 = .ok (.ifCond .ne 5, 3) := by decide +kernel
theorem dX10_doBlockClause_34 : decode cX10_doBlockClause 34 = .ok (.iconst 0, 1) := by decide +kernel
theorem dX10_doBlockClause_35 : decode cX10_doBlockClause 35 = .ok (.ireturn, 1) := by decide +kernel
theorem dX10_doBlockClause_36 : decode cX10_doBlockClause 36 = .ok (.iload_n 3, 1) := by decide +kernel
theorem dX10_doBlockClause_37 : decode cX10_doBlockClause 37 = .ok (.iconst 1, 1) := by decide +kernel
theorem dX10_doBlockClause_38 : decode cX10_doBlockClause 38 = .ok (.iload 5, 2) := by decide +kernel
theorem dX10_doBlockClause_40 : decode cX10_doBlockClause 40 = .ok (.ishl, 1) := by decide +kernel
theorem dX10_doBlockClause_41 : decode cX10_doBlockClause 41 = .ok (.ior, 1) := by decide +kernel
theorem dX10_doBlockClause_42 : decode cX10_doBlockClause 42 = .ok (.istore_n 3, 1) := by decide +kernel
theorem dX10_doBlockClause_43 : decode cX10_doBlockClause 43 = .ok (.iinc 4 1, 3) := by decide +kernel
theorem dX10_doBlockClause_46 : decode cX10_doBlockClause 46 = .ok (.goto (-41), 3) := by decide +kernel
theorem dX10_doBlockClause_49 : decode cX10_doBlockClause 49 = .ok (.aload_n 0, 1) := by decide +kernel
theorem dX10_doBlockClause_50 : decode cX10_doBlockClause 50 = .ok (.iload_n 3, 1) := by decide +kernel
theorem dX10_doBlockClause_51 : decode cX10_doBlockClause 51 = .ok (.invokevirtual 374, 3) := by decide +kernel
theorem dX10_doBlockClause_54 : decode cX10_doBlockClause 54 = .ok (.ifCond .lt 7, 3) := by decide +kernel
theorem dX10_doBlockClause_57 : decode cX10_doBlockClause 57 = .ok (.iconst 1, 1) := by decide +kernel
theorem dX10_doBlockClause_58 : decode cX10_doBlockClause 58 = .ok (.goto 4, 3) := by decide +kernel
theorem dX10_doBlockClause_61 : decode cX10_doBlockClause 61 = .ok (.iconst 0, 1) := by decide +kernel
theorem dX10_doBlockClause_62 : decode cX10_doBlockClause 62 = .ok (.ireturn, 1) := by decide +kernel
theorem dX10_tapeAt_0 : decode cX10_tapeAt 0 = .ok (.iload_n 1, 1) := by decide +kernel
theorem dX10_tapeAt_1 : decode cX10_tapeAt 1 = .ok (.ifCond .lt 12, 3) := by decide +kernel
theorem dX10_tapeAt_4 : decode cX10_tapeAt 4 = .ok (.iload_n 1, 1) := by decide +kernel
theorem dX10_tapeAt_5 : decode cX10_tapeAt 5 = .ok (.aload_n 0, 1) := by decide +kernel
theorem dX10_tapeAt_6 : decode cX10_tapeAt 6 = .ok (.getfield 34, 3) := by decide +kernel
theorem dX10_tapeAt_9 : decode cX10_tapeAt 9 = .ok (.arraylength, 1) := by decide +kernel
theorem dX10_tapeAt_10 : decode cX10_tapeAt 10 = .ok (.if_icmp .lt 5, 3) := by decide +kernel
theorem dX10_tapeAt_13 : decode cX10_tapeAt 13 = .ok (.aconst_null, 1) := by decide +kernel
theorem dX10_tapeAt_14 : decode cX10_tapeAt 14 = .ok (.areturn, 1) := by decide +kernel
theorem dX10_tapeAt_15 : decode cX10_tapeAt 15 = .ok (.aload_n 0, 1) := by decide +kernel
theorem dX10_tapeAt_16 : decode cX10_tapeAt 16 = .ok (.getfield 34, 3) := by decide +kernel
theorem dX10_tapeAt_19 : decode cX10_tapeAt 19 = .ok (.iload_n 1, 1) := by decide +kernel
theorem dX10_tapeAt_20 : decode cX10_tapeAt 20 = .ok (.aaload, 1) := by decide +kernel
theorem dX10_tapeAt_21 : decode cX10_tapeAt 21 = .ok (.areturn, 1) := by decide +kernel
theorem dX10_modulo_0 : decode cX10_modulo 0 = .ok (.iload_n 1, 1) := by decide +kernel
theorem dX10_modulo_1 : decode cX10_modulo 1 = .ok (.iconst 1, 1) := by decide +kernel
theorem dX10_modulo_2 : decode cX10_modulo 2 = .ok (.if_icmp .ge 7, 3) := by decide +kernel
theorem dX10_modulo_5 : decode cX10_modulo 5 = .ok (.iconst 0, 1) := by decide +kernel
theorem dX10_modulo_6 : decode cX10_modulo 6 = .ok (.goto 6, 3) := by decide +kernel
theorem dX10_modulo_9 : decode cX10_modulo 9 = .ok (.iload_n 0, 1) := by decide +kernel
theorem dX10_modulo_10 : decode cX10_modulo 10 = .ok (.iload_n 1, 1) := by decide +kernel
theorem dX10_modulo_11 : decode cX10_modulo 11 = .ok (.irem, 1) := by decide +kernel
theorem dX10_modulo_12 : decode cX10_modulo 12 = .ok (.ireturn, 1) := by decide +kernel
theorem dX11_init_0 : decode cX11_init 0 = .ok (.aload_n 0, 1) := by decide +kernel
theorem dX11_init_1 : decode cX11_init 1 = .ok (.invokespecial 3, 3) := by decide +kernel
theorem dX11_init_4 : decode cX11_init 4 = .ok (.aload_n 0, 1) := by decide +kernel
theorem dX11_init_5 : decode cX11_init 5 = .ok (.bipush 48, 2) := by decide +kernel
theorem dX11_init_7 : decode cX11_init 7 = .ok (.newarray .int, 2) := by decide +kernel
theorem dX11_init_9 : decode cX11_init 9 = .ok (.putfield 11, 3) := by decide +kernel
theorem dX11_init_12 : decode cX11_init 12 = .ok (.aload_n 0, 1) := by decide +kernel
theorem dX11_init_13 : decode cX11_init 13 = .ok (.bipush 48, 2) := by decide +kernel
theorem dX11_init_15 : decode cX11_init 15 = .ok (.newarray .int, 2) := by decide +kernel
theorem dX11_init_17 : decode cX11_init 17 = .ok (.putfield 15, 3) := by decide +kernel
theorem dX11_init_20 : decode cX11_init 20 = .ok (.aload_n 0, 1) := by decide +kernel
theorem dX11_init_21 : decode cX11_init 21 = .ok (.iconst 5, 1) := by decide +kernel
theorem dX11_init_22 : decode cX11_init 22 = .ok (.sipush 256, 3) := by decide +kernel
theorem dX11_init_25 : decode cX11_init 25 = .ok (.multianewarray 18 2, 4) := by decide +kernel
theorem dX11_init_29 : decode cX11_init 29 = .ok (.putfield 20, 3) := by decide +kernel
theorem dX11_init_32 : decode cX11_init 32 = .ok (.aload_n 0, 1) := by decide +kernel
theorem dX11_init_33 : decode cX11_init 33 = .ok (.iconst 5, 1) := by decide +kernel
theorem dX11_init_34 : decode cX11_init 34 = .ok (.sipush 256, 3) := by decide +kernel
theorem dX11_init_37 : decode cX11_init 37 = .ok (.multianewarray 18 2, 4) := by decide +kernel
theorem dX11_init_41 : decode cX11_init 41 = .ok (.putfield 23, 3) := by decide +kernel
theorem dX11_init_44 : decode cX11_init 44 = .ok (.aload_n 0, 1) := by decide +kernel
theorem dX11_init_45 : decode cX11_init 45 = .ok (.bipush 8, 2) := by decide +kernel
theorem dX11_init_47 : decode cX11_init 47 = .ok (.newarray .int, 2) := by decide +kernel
theorem dX11_init_49 : decode cX11_init 49 = .ok (.putfield 26, 3) := by decide +kernel
theorem dX11_init_52 : decode cX11_init 52 = .ok (.aload_n 0, 1) := by decide +kernel
theorem dX11_init_53 : decode cX11_init 53 = .ok (.sipush 500, 3) := by decide +kernel
theorem dX11_init_56 : decode cX11_init 56 = .ok (.newarray .int, 2) := by decide +kernel
theorem dX11_init_58 : decode cX11_init 58 = .ok (.putfield 29, 3) := by decide +kernel
theorem dX11_init_61 : decode cX11_init 61 = .ok (.aload_n 0, 1) := by decide +kernel
theorem dX11_init_62 : decode cX11_init 62 = .ok (.sipush 256, 3) := by decide +kernel
theorem dX11_init_65 : decode cX11_init 65 = .ok (.newarray .int, 2) := by decide +kernel
theorem dX11_init_67 : decode cX11_init 67 = .ok (.putfield 32, 3) := by decide +kernel
theorem dX11_init_70 : decode cX11_init 70 = .ok (.aload_n 0, 1) := by decide +kernel
theorem dX11_init_71 : decode cX11_init 71 = .ok (.bipush 9, 2) := by decide +kernel
theorem dX11_init_73 : decode cX11_init 73 = .ok (.newarray .int, 2) := by decide +kernel
theorem dX11_init_75 : decode cX11_init 75 = .ok (.putfield 35, 3) := by decide +kernel
theorem dX11_init_78 : decode cX11_init 78 = .ok (.aload_n 0, 1) := by decide +kernel
theorem dX11_init_79 : decode cX11_init 79 = .ok (.sipush 256, 3) := by decide +kernel
theorem dX11_init_82 : decode cX11_init 82 = .ok (.newarray .int, 2) := by decide +kernel
theorem dX11_init_84 : decode cX11_init 84 = .ok (.putfield 38, 3) := by decide +kernel
theorem dX11_init_87 : decode cX11_init 87 = .ok (.aload_n 0, 1) := by decide +kernel
theorem dX11_init_88 : decode cX11_init 88 = .ok (.bipush 70, 2) := by decide +kernel
theorem dX11_init_90 : decode cX11_init 90 = .ok (.bipush 70, 2) := by decide +kernel
theorem dX11_init_92 : decode cX11_init 92 = .ok (.multianewarray 41 2, 4) := by decide +kernel
theorem dX11_init_96 : decode cX11_init 96 = .ok (.putfield 43, 3) := by decide +kernel
theorem dX11_init_99 : decode cX11_init 99 = .ok (.aload_n 0, 1) := by decide +kernel
theorem dX11_init_100 : decode cX11_init 100 = .ok (.bipush 70, 2) := by decide +kernel
theorem dX11_init_102 : decode cX11_init 102 = .ok (.newarray .int, 2) := by decide +kernel
theorem dX11_init_104 : decode cX11_init 104 = .ok (.putfield 46, 3) := by decide +kernel
theorem dX11_init_107 : decode cX11_init 107 = .ok (.aload_n 0, 1) := by decide +kernel
theorem dX11_init_108 : decode cX11_init 108 = .ok (.sipush 256, 3) := by decide +kernel
theorem dX11_init_111 : decode cX11_init 111 = .ok (.newarray .boolean, 2) := by decide +kernel
theorem dX11_init_113 : decode cX11_init 113 = .ok (.putfield 49, 3) := by decide +kernel
theorem dX11_init_116 : decode cX11_init 116 = .ok (.aload_n 0, 1) := by decide +kernel
theorem dX11_init_117 : decode cX11_init 117 = .ok (.bipush 8, 2) := by decide +kernel
theorem dX11_init_119 : decode cX11_init 119 = .ok (.newarray .int, 2) := by decide +kernel
theorem dX11_init_121 : decode cX11_init 121 = .ok (.putfield 53, 3) := by decide +kernel
theorem dX11_init_124 : decode cX11_init 124 = .ok (.aload_n 0, 1) := by decide +kernel
theorem dX11_init_125 : decode cX11_init 125 = .ok (.bipush 24, 2) := by decide +kernel
theorem dX11_init_127 : decode cX11_init 127 = .ok (.sipush 256, 3) := by decide +kernel
theorem dX11_init_130 : decode cX11_init 130 = .ok (.multianewarray 18 2, 4) := by decide +kernel
theorem dX11_init_134 : decode cX11_init 134 = .ok (.putfield 56, 3) := by decide +kernel
theorem dX11_init_137 : decode cX11_init 137 = .ok (.aload_n 0, 1) := by decide +kernel
theorem dX11_init_138 : decode cX11_init 138 = .ok (.bipush 100, 2) := by decide +kernel
theorem dX11_init_140 : decode cX11_init 140 = .ok (.newarray .int, 2) := by decide +kernel
theorem dX11_init_142 : decode cX11_init 142 = .ok (.putfield 59, 3) := by decide +kernel
theorem dX11_init_145 : decode cX11_init 145 = .ok (.aload_n 0, 1) := by decide +kernel
theorem dX11_init_146 : decode cX11_init 146 = .ok (.bipush 6, 2) := by decide +kernel
theorem dX11_init_148 : decode cX11_init 148 = .ok (.newarray .int, 2) := by decide +kernel
theorem dX11_init_150 : decode cX11_init 150 = .ok (.dup, 1) := by decide +kernel
theorem dX11_init_151 : decode cX11_init 151 = .ok (.iconst 0, 1) := by decide +kernel
theorem dX11_init_152 : decode cX11_init 152 = .ok (.iconst (-1), 1) := by decide +kernel
theorem dX11_init_153 : decode cX11_init 153 = .ok (.iastore, 1) := by decide +kernel
theorem dX11_init_154 : decode cX11_init 154 = .ok (.dup, 1) := by decide +kernel
theorem dX11_init_155 : decode cX11_init 155 = .ok (.iconst 1, 1) := by decide +kernel
theorem dX11_init_156 : decode cX11_init 156 = .ok (.iconst (-1), 1) := by decide +kernel
theorem dX11_init_157 : decode cX11_init 157 = .ok (.iastore, 1) := by decide +kernel
theorem dX11_init_158 : decode cX11_init 158 = .ok (.dup, 1) := by decide +kernel
theorem dX11_init_159 : decode cX11_init 159 = .ok (.iconst 2, 1) := by decide +kernel
theorem dX11_init_160 : decode cX11_init 160 = .ok (.iconst (-1), 1) := by decide +kernel
theorem dX11_init_161 : decode cX11_init 161 = .ok (.iastore, 1) := by decide +kernel
theorem dX11_init_162 : decode cX11_init 162 = .ok (.dup, 1) := by decide +kernel
theorem dX11_init_163 : decode cX11_init 163 = .ok (.iconst 3, 1) := by decide +kernel
theorem dX11_init_164 : decode cX11_init 164 = .ok (.iconst (-1), 1) := by decide +kernel
theorem dX11_init_165 : decode cX11_init 165 = .ok (.iastore, 1) := by decide +kernel
theorem dX11_init_166 : decode cX11_init 166 = .ok (.dup, 1) := by decide +kernel
theorem dX11_init_167 : decode cX11_init 167 = .ok (.iconst 4, 1) := by decide +kernel
theorem dX11_init_168 : decode cX11_init 168 = .ok (.iconst (-1), 1) := by decide +kernel
theorem dX11_init_169 : decode cX11_init 169 = .ok (.iastore, 1) := by decide +kernel
theorem dX11_init_170 : decode cX11_init 170 = .ok (.dup, 1) := by decide +kernel
theorem dX11_init_171 : decode cX11_init 171 = .ok (.iconst 5, 1) := by decide +kernel
theorem dX11_init_172 : decode cX11_init 172 = .ok (.iconst (-1), 1) := by decide +kernel
theorem dX11_init_173 : decode cX11_init 173 = .ok (.iastore, 1) := by decide +kernel
theorem dX11_init_174 : decode cX11_init 174 = .ok (.putfield 62, 3) := by decide +kernel
theorem dX11_init_177 : decode cX11_init 177 = .ok (.aload_n 0, 1) := by decide +kernel
theorem dX11_init_178 : decode cX11_init 178 = .ok (.bipush 6, 2) := by decide +kernel
theorem dX11_init_180 : decode cX11_init 180 = .ok (.newarray .int, 2) := by decide +kernel
theorem dX11_init_182 : decode cX11_init 182 = .ok (.putfield 65, 3) := by decide +kernel
theorem dX11_init_185 : decode cX11_init 185 = .ok (.aload_n 0, 1) := by decide +kernel
theorem dX11_init_186 : decode cX11_init 186 = .ok (.bipush 6, 2) := by decide +kernel
theorem dX11_init_188 : decode cX11_init 188 = .ok (.bipush 60, 2) := by decide +kernel
theorem dX11_init_190 : decode cX11_init 190 = .ok (.multianewarray 68 2, 4) := by decide +kernel
theorem dX11_init_194 : decode cX11_init 194 = .ok (.putfield 70, 3) := by decide +kernel
theorem dX11_init_197 : decode cX11_init 197 = .ok (.aload_n 0, 1) := by decide +kernel
theorem dX11_init_198 : decode cX11_init 198 = .ok (.bipush 60, 2) := by decide +kernel
theorem dX11_init_200 : decode cX11_init 200 = .ok (.newarray .long, 2) := by decide +kernel
theorem dX11_init_202 : decode cX11_init 202 = .ok (.putfield 73, 3) := by decide +kernel
theorem dX11_init_205 : decode cX11_init 205 = .ok (.aload_n 0, 1) := by decide +kernel
theorem dX11_init_206 : decode cX11_init 206 = .ok (.iconst 5, 1) := by decide +kernel
theorem dX11_init_207 : decode cX11_init 207 = .ok (.invokevirtual 77, 3) := by decide +kernel
theorem dX11_init_210 : decode cX11_init 210 = .ok (.return_, 1) := by decide +kernel
theorem dX11_in_0 : decode cX11_in 0 = .ok (.lload_n 0, 1) := by decide +kernel
theorem dX11_in_1 : decode cX11_in 1 = .ok (.lload_n 2, 1) := by decide +kernel
theorem dX11_in_2 : decode cX11_in 2 = .ok (.lcmp, 1) := by decide +kernel
theorem dX11_in_3 : decode cX11_in 3 = .ok (.ifCond .lt 14, 3) := by decide +kernel
theorem dX11_in_6 : decode cX11_in 6 = .ok (.lload_n 0, 1) := by decide +kernel
theorem dX11_in_7 : decode cX11_in 7 = .ok (.lload 4, 2) := by decide +kernel
theorem dX11_in_9 : decode cX11_in 9 = .ok (.lcmp, 1) := by decide +kernel
theorem dX11_in_10 : decode cX11_in 10 = .ok (.ifCond .gt 7, 3) := by decide +kernel
theorem dX11_in_13 : decode cX11_in 13 = .ok (.iconst 1, 1) := by decide +kernel
theorem dX11_in_14 : decode cX11_in 14 = .ok (.goto 4, 3) := by decide +kernel
theorem dX11_in_17 : decode cX11_in 17 = .ok (.iconst 0, 1) := by decide +kernel
theorem dX11_in_18 : decode cX11_in 18 = .ok (.ireturn, 1) := by decide +kernel
theorem dX11_starts_0 : decode cX11_starts 0 = .ok (.iconst 0, 1) := by decide +kernel
theorem dX11_starts_1 : decode cX11_starts 1 = .ok (.istore_n 2, 1) := by decide +kernel
theorem dX11_starts_2 : decode cX11_starts 2 = .ok (.iload_n 2, 1) := by decide +kernel
theorem dX11_starts_3 : decode cX11_starts 3 = .ok (.bipush 48, 2) := by decide +kernel
theorem dX11_starts_5 : decode cX11_starts 5 = .ok (.if_icmp .ge 16, 3) := by decide +kernel
theorem dX11_starts_8 : decode cX11_starts 8 = .ok (.aload_n 0, 1) := by decide +kernel
theorem dX11_starts_9 : decode cX11_starts 9 = .ok (.getfield 11, 3) := by decide +kernel
theorem dX11_starts_12 : decode cX11_starts 12 = .ok (.iload_n 2, 1) := by decide +kernel
theorem dX11_starts_13 : decode cX11_starts 13 = .ok (.iconst 0, 1) := by decide +kernel
theorem dX11_starts_14 : decode cX11_starts 14 = .ok (.iastore, 1) := by decide +kernel
theorem dX11_starts_15 : decode cX11_starts 15 = .ok (.iinc 2 1, 3) := by decide +kernel
theorem dX11_starts_18 : decode cX11_starts 18 = .ok (.goto (-16), 3) := by decide +kernel
theorem dX11_starts_21 : decode cX11_starts 21 = .ok (.aload_n 0, 1) := by decide +kernel
theorem dX11_starts_22 : decode cX11_starts 22 = .ok (.getfield 11, 3) := by decide +kernel
theorem dX11_starts_25 : decode cX11_starts 25 = .ok (.iconst 0, 1) := by decide +kernel
theorem dX11_starts_26 : decode cX11_starts 26 = .ok (.iload_n 1, 1) := by decide +kernel
theorem dX11_starts_27 : decode cX11_starts 27 = .ok (.iastore, 1) := by decide +kernel
theorem dX11_starts_28 : decode cX11_starts 28 = .ok (.aload_n 0, 1) := by decide +kernel
theorem dX11_starts_29 : decode cX11_starts 29 = .ok (.getfield 11, 3) := by decide +kernel
theorem dX11_starts_32 : decode cX11_starts 32 = .ok (.bipush 42, 2) := by decide +kernel
theorem dX11_starts_34 : decode cX11_starts 34 = .ok (.iconst 2, 1) := by decide +kernel
theorem dX11_starts_35 : decode cX11_starts 35 = .ok (.iastore, 1) := by decide +kernel
theorem dX11_starts_36 : decode cX11_starts 36 = .ok (.iconst 0, 1) := by decide +kernel
theorem dX11_starts_37 : decode cX11_starts 37 = .ok (.istore_n 2, 1) := by decide +kernel
theorem dX11_starts_38 : decode cX11_starts 38 = .ok (.iload_n 2, 1) := by decide +kernel
theorem dX11_starts_39 : decode cX11_starts 39 = .ok (.sipush 256, 3) := by decide +kernel
theorem dX11_starts_42 : decode cX11_starts 42 = .ok (.if_icmp .ge 18, 3) := by decide +kernel
theorem dX11_starts_45 : decode cX11_starts 45 = .ok (.aload_n 0, 1) := by decide +kernel
theorem dX11_starts_46 : decode cX11_starts 46 = .ok (.getfield 20, 3) := by decide +kernel
theorem dX11_starts_49 : decode cX11_starts 49 = .ok (.iconst 0, 1) := by decide +kernel
theorem dX11_starts_50 : decode cX11_starts 50 = .ok (.aaload, 1) := by decide +kernel
theorem dX11_starts_51 : decode cX11_starts 51 = .ok (.iload_n 2, 1) := by decide +kernel
theorem dX11_starts_52 : decode cX11_starts 52 = .ok (.iconst 0, 1) := by decide +kernel
theorem dX11_starts_53 : decode cX11_starts 53 = .ok (.bastore, 1) := by decide +kernel
theorem dX11_starts_54 : decode cX11_starts 54 = .ok (.iinc 2 1, 3) := by decide +kernel
theorem dX11_starts_57 : decode cX11_starts 57 = .ok (.goto (-19), 3) := by decide +kernel
theorem dX11_starts_60 : decode cX11_starts 60 = .ok (.return_, 1) := by decide +kernel
theorem dX11_size_0 : decode cX11_size 0 = .ok (.iconst 0, 1) := by decide +kernel
theorem dX11_size_1 : decode cX11_size 1 = .ok (.istore_n 1, 1) := by decide +kernel
theorem dX11_size_2 : decode cX11_size 2 = .ok (.iconst 0, 1) := by decide +kernel
theorem dX11_size_3 : decode cX11_size 3 = .ok (.istore_n 2, 1) := by decide +kernel
theorem dX11_size_4 : decode cX11_size 4 = .ok (.iload_n 2, 1) := by decide +kernel
theorem dX11_size_5 : decode cX11_size 5 = .ok (.bipush 8, 2) := by decide +kernel
theorem dX11_size_7 : decode cX11_size 7 = .ok (.if_icmp .ge 17, 3) := by decide +kernel
theorem dX11_size_10 : decode cX11_size 10 = .ok (.iload_n 1, 1) := by decide +kernel
theorem dX11_size_11 : decode cX11_size 11 = .ok (.iload_n 0, 1) := by decide +kernel
theorem dX11_size_12 : decode cX11_size 12 = .ok (.iload_n 2, 1) := by decide +kernel
theorem dX11_size_13 : decode cX11_size 13 = .ok (.ishr, 1) := by decide +kernel
theorem dX11_size_14 : decode cX11_size 14 = .ok (.iconst 1, 1) := by decide +kernel
theorem dX11_size_15 : decode cX11_size 15 = .ok (.iand, 1) := by decide +kernel
theorem dX11_size_16 : decode cX11_size 16 = .ok (.iadd, 1) := by decide +kernel
theorem dX11_size_17 : decode cX11_size 17 = .ok (.istore_n 1, 1) := by decide +kernel
theorem dX11_size_18 : decode cX11_size 18 = .ok (.iinc 2 1, 3) := by decide +kernel
theorem dX11_size_21 : decode cX11_size 21 = .ok (.goto (-17), 3) := by decide +kernel
theorem dX11_size_24 : decode cX11_size 24 = .ok (.iload_n 1, 1) := by decide +kernel
theorem dX11_size_25 : decode cX11_size 25 = .ok (.ireturn, 1) := by decide +kernel
theorem dX11_whole_0 : decode cX11_whole 0 = .ok (.iconst 1, 1) := by decide +kernel
theorem dX11_whole_1 : decode cX11_whole 1 = .ok (.aload_n 0, 1) := by decide +kernel
theorem dX11_whole_2 : decode cX11_whole 2 = .ok (.getfield 11, 3) := by decide +kernel
theorem dX11_whole_5 : decode cX11_whole 5 = .ok (.iconst 0, 1) := by decide +kernel
theorem dX11_whole_6 : decode cX11_whole 6 = .ok (.iaload, 1) := by decide +kernel
theorem dX11_whole_7 : decode cX11_whole 7 = .ok (.ishl, 1) := by decide +kernel
theorem dX11_whole_8 : decode cX11_whole 8 = .ok (.iconst 1, 1) := by decide +kernel
theorem dX11_whole_9 : decode cX11_whole 9 = .ok (.isub, 1) := by decide +kernel
theorem dX11_whole_10 : decode cX11_whole 10 = .ok (.ireturn, 1) := by decide +kernel
theorem dX11_isSet_0 : decode cX11_isSet 0 = .ok (.iload_n 1, 1) := by decide +kernel
theorem dX11_isSet_1 : decode cX11_isSet 1 = .ok (.i2l, 1) := by decide +kernel
theorem dX11_isSet_2 : decode cX11_isSet 2 = .ok (.lconst 0, 1) := by decide +kernel
theorem dX11_isSet_3 : decode cX11_isSet 3 = .ok (.aload_n 0, 1) := by decide +kernel
theorem dX11_isSet_4 : decode cX11_isSet 4 = .ok (.invokevirtual 81, 3) := by decide +kernel
theorem dX11_isSet_7 : decode cX11_isSet 7 = .ok (.i2l, 1) := by decide +kernel
theorem dX11_isSet_8 : decode cX11_isSet 8 = .ok (.invokestatic 85, 3) := by decide +kernel
theorem dX11_isSet_11 : decode cX11_isSet 11 = .ok (.ireturn, 1) := by decide +kernel
theorem dX11_isPoint_0 : decode cX11_isPoint 0 = .ok (.iload_n 1, 1) := by decide +kernel
theorem dX11_isPoint_1 : decode cX11_isPoint 1 = .ok (.i2l, 1) := by decide +kernel
theorem dX11_isPoint_2 : decode cX11_isPoint 2 = .ok (.lconst 0, 1) := by decide +kernel
theorem dX11_isPoint_3 : decode cX11_isPoint 3 = .ok (.aload_n 0, 1) := by decide +kernel
theorem dX11_isPoint_4 : decode cX11_isPoint 4 = .ok (.getfield 11, 3) := by decide +kernel
theorem dX11_isPoint_7 : decode cX11_isPoint 7 = .ok (.iconst 0, 1) := by decide +kernel
theorem dX11_isPoint_8 : decode cX11_isPoint 8 = .ok (.iaload, 1) := by decide +kernel
theorem dX11_isPoint_9 : decode cX11_isPoint 9 = .ok (.iconst 1, 1) := by decide +kernel
theorem dX11_isPoint_10 : decode cX11_isPoint 10 = .ok (.isub, 1) := by decide +kernel
theorem dX11_isPoint_11 : decode cX11_isPoint 11 = .ok (.i2l, 1) := by decide +kernel
theorem dX11_isPoint_12 : decode cX11_isPoint 12 = .ok (.invokestatic 85, 3) := by decide +kernel
theorem dX11_isPoint_15 : decode cX11_isPoint 15 = .ok (.ireturn, 1) := by decide +kernel
theorem dX11_isWay_0 : decode cX11_isWay 0 = .ok (.iload_n 1, 1) := by decide +kernel
theorem dX11_isWay_1 : decode cX11_isWay 1 = .ok (.i2l, 1) := by decide +kernel
theorem dX11_isWay_2 : decode cX11_isWay 2 = .ok (.lconst 0, 1) := by decide +kernel
theorem dX11_isWay_3 : decode cX11_isWay 3 = .ok (.aload_n 0, 1) := by decide +kernel
theorem dX11_isWay_4 : decode cX11_isWay 4 = .ok (.getfield 11, 3) := by decide +kernel
theorem dX11_isWay_7 : decode cX11_isWay 7 = .ok (.iconst 1, 1) := by decide +kernel
theorem dX11_isWay_8 : decode cX11_isWay 8 = .ok (.iaload, 1) := by decide +kernel
theorem dX11_isWay_9 : decode cX11_isWay 9 = .ok (.iconst 1, 1) := by decide +kernel
theorem dX11_isWay_10 : decode cX11_isWay 10 = .ok (.isub, 1) := by decide +kernel
theorem dX11_isWay_11 : decode cX11_isWay 11 = .ok (.i2l, 1) := by decide +kernel
theorem dX11_isWay_12 : decode cX11_isWay 12 = .ok (.invokestatic 85, 3) := by decide +kernel
theorem dX11_isWay_15 : decode cX11_isWay 15 = .ok (.ireturn, 1) := by decide +kernel
theorem dX11_points_0 : decode cX11_points 0 = .ok (.iload_n 1, 1) := by decide +kernel
theorem dX11_points_1 : decode cX11_points 1 = .ok (.i2l, 1) := by decide +kernel
theorem dX11_points_2 : decode cX11_points 2 = .ok (.ldc2_w 89, 3) := by decide +kernel
theorem dX11_points_5 : decode cX11_points 5 = .ok (.ldc2_w 91, 3) := by decide +kernel
theorem dX11_points_8 : decode cX11_points 8 = .ok (.invokestatic 85, 3) := by decide +kernel
theorem dX11_points_11 : decode cX11_points 11 = .ok (.ifCond .ne 6, 3) := by decide +kernel
theorem dX11_points_14 : decode cX11_points 14 = .ok (.bipush (-2), 2) := by decide +kernel
theorem dX11_points_16 : decode cX11_points 16 = .ok (.ireturn, 1) := by decide +kernel
theorem dX11_points_17 : decode cX11_points 17 = .ok (.aload_n 0, 1) := by decide +kernel
theorem dX11_points_18 : decode cX11_points 18 = .ok (.getfield 11, 3) := by decide +kernel
theorem dX11_points_21 : decode cX11_points 21 = .ok (.iconst 0, 1) := by decide +kernel
theorem dX11_points_22 : decode cX11_points 22 = .ok (.iaload, 1) := by decide +kernel
theorem dX11_points_23 : decode cX11_points 23 = .ok (.istore_n 2, 1) := by decide +kernel
theorem dX11_points_24 : decode cX11_points 24 = .ok (.aload_n 0, 1) := by decide +kernel
theorem dX11_points_25 : decode cX11_points 25 = .ok (.iload_n 1, 1) := by decide +kernel
theorem dX11_points_26 : decode cX11_points 26 = .ok (.invokevirtual 77, 3) := by decide +kernel
theorem dX11_points_29 : decode cX11_points 29 = .ok (.iload_n 2, 1) := by decide +kernel
theorem dX11_points_30 : decode cX11_points 30 = .ok (.ireturn, 1) := by decide +kernel
theorem dX11_common_0 : decode cX11_common 0 = .ok (.iload_n 1, 1) := by decide +kernel
theorem dX11_common_1 : decode cX11_common 1 = .ok (.ifCond .ne 7, 3) := by decide +kernel
theorem dX11_common_4 : decode cX11_common 4 = .ok (.iload_n 0, 1) := by decide +kernel
theorem dX11_common_5 : decode cX11_common 5 = .ok (.goto 10, 3) := by decide +kernel
theorem dX11_common_8 : decode cX11_common 8 = .ok (.iload_n 1, 1) := by decide +kernel
theorem dX11_common_9 : decode cX11_common 9 = .ok (.iload_n 0, 1) := by decide +kernel
theorem dX11_common_10 : decode cX11_common 10 = .ok (.iload_n 1, 1) := by decide +kernel
theorem dX11_common_11 : decode cX11_common 11 = .ok (.irem, 1) := by decide +kernel
theorem dX11_common_12 : decode cX11_common 12 = .ok (.invokestatic 93, 3) := by decide +kernel
theorem dX11_common_15 : decode cX11_common 15 = .ok (.ireturn, 1) := by decide +kernel
theorem dX11_goes_0 : decode cX11_goes 0 = .ok (.aload_n 0, 1) := by decide +kernel
theorem dX11_goes_1 : decode cX11_goes 1 = .ok (.getfield 11, 3) := by decide +kernel
theorem dX11_goes_4 : decode cX11_goes 4 = .ok (.iconst 0, 1) := by decide +kernel
theorem dX11_goes_5 : decode cX11_goes 5 = .ok (.iaload, 1) := by decide +kernel
theorem dX11_goes_6 : decode cX11_goes 6 = .ok (.istore 4, 2) := by decide +kernel
theorem dX11_goes_8 : decode cX11_goes 8 = .ok (.iload_n 1, 1) := by decide +kernel
theorem dX11_goes_9 : decode cX11_goes 9 = .ok (.tableswitch 96 0 3 #[31, 38, 50, 57], 31) := by decide +kernel
theorem dX11_goes_40 : decode cX11_goes 40 = .ok (.iload_n 3, 1) := by decide +kernel
theorem dX11_goes_41 : decode cX11_goes 41 = .ok (.iload_n 2, 1) := by decide +kernel
theorem dX11_goes_42 : decode cX11_goes 42 = .ok (.iadd, 1) := by decide +kernel
theorem dX11_goes_43 : decode cX11_goes 43 = .ok (.iload 4, 2) := by decide +kernel
theorem dX11_goes_45 : decode cX11_goes 45 = .ok (.irem, 1) := by decide +kernel
theorem dX11_goes_46 : decode cX11_goes 46 = .ok (.ireturn, 1) := by decide +kernel
theorem dX11_goes_47 : decode cX11_goes 47 = .ok (.iload_n 2, 1) := by decide +kernel
theorem dX11_goes_48 : decode cX11_goes 48 = .ok (.iload_n 3, 1) := by decide +kernel
theorem dX11_goes_49 : decode cX11_goes 49 = .ok (.isub, 1) := by decide +kernel
theorem dX11_goes_50 : decode cX11_goes 50 = .ok (.iconst 2, 1) := by decide +kernel
theorem dX11_goes_51 : decode cX11_goes 51 = .ok (.iload 4, 2) := by decide +kernel
theorem dX11_goes_53 : decode cX11_goes 53 = .ok (.imul, 1) := by decide +kernel
theorem dX11_goes_54 : decode cX11_goes 54 = .ok (.iadd, 1) := by decide +kernel
theorem dX11_goes_55 : decode cX11_goes 55 = .ok (.iload 4, 2) := by decide +kernel
theorem dX11_goes_57 : decode cX11_goes 57 = .ok (.irem, 1) := by decide +kernel
theorem dX11_goes_58 : decode cX11_goes 58 = .ok (.ireturn, 1) := by decide +kernel
theorem dX11_goes_59 : decode cX11_goes 59 = .ok (.iload_n 3, 1) := by decide +kernel
theorem dX11_goes_60 : decode cX11_goes 60 = .ok (.iload_n 2, 1) := by decide +kernel
theorem dX11_goes_61 : decode cX11_goes 61 = .ok (.imul, 1) := by decide +kernel
theorem dX11_goes_62 : decode cX11_goes 62 = .ok (.iload 4, 2) := by decide +kernel
theorem dX11_goes_64 : decode cX11_goes 64 = .ok (.irem, 1) := by decide +kernel
theorem dX11_goes_65 : decode cX11_goes 65 = .ok (.ireturn, 1) := by decide +kernel
theorem dX11_goes_66 : decode cX11_goes 66 = .ok (.iload_n 2, 1) := by decide +kernel
theorem dX11_goes_67 : decode cX11_goes 67 = .ok (.iload 4, 2) := by decide +kernel
theorem dX11_goes_69 : decode cX11_goes 69 = .ok (.irem, 1) := by decide +kernel
theorem dX11_goes_70 : decode cX11_goes 70 = .ok (.istore 5, 2) := by decide +kernel
theorem dX11_goes_72 : decode cX11_goes 72 = .ok (.iload 5, 2) := by decide +kernel
theorem dX11_goes_74 : decode cX11_goes 74 = .ok (.iconst 1, 1) := by decide +kernel
theorem dX11_goes_75 : decode cX11_goes 75 = .ok (.iadd, 1) := by decide +kernel
theorem dX11_goes_76 : decode cX11_goes 76 = .ok (.iload 4, 2) := by decide +kernel
theorem dX11_goes_78 : decode cX11_goes 78 = .ok (.irem, 1) := by decide +kernel
theorem dX11_goes_79 : decode cX11_goes 79 = .ok (.istore 6, 2) := by decide +kernel
theorem dX11_goes_81 : decode cX11_goes 81 = .ok (.iload_n 3, 1) := by decide +kernel
theorem dX11_goes_82 : decode cX11_goes 82 = .ok (.iload 5, 2) := by decide +kernel
theorem dX11_goes_84 : decode cX11_goes 84 = .ok (.if_icmp .ne 8, 3) := by decide +kernel
theorem dX11_goes_87 : decode cX11_goes 87 = .ok (.iload 6, 2) := by decide +kernel
theorem dX11_goes_89 : decode cX11_goes 89 = .ok (.goto 15, 3) := by decide +kernel
theorem dX11_goes_92 : decode cX11_goes 92 = .ok (.iload_n 3, 1) := by decide +kernel
theorem dX11_goes_93 : decode cX11_goes 93 = .ok (.iload 6, 2) := by decide +kernel
theorem dX11_goes_95 : decode cX11_goes 95 = .ok (.if_icmp .ne 8, 3) := by decide +kernel
theorem dX11_goes_98 : decode cX11_goes 98 = .ok (.iload 5, 2) := by decide +kernel
theorem dX11_goes_100 : decode cX11_goes 100 = .ok (.goto 4, 3) := by decide +kernel
theorem dX11_goes_103 : decode cX11_goes 103 = .ok (.iload_n 3, 1) := by decide +kernel
theorem dX11_goes_104 : decode cX11_goes 104 = .ok (.ireturn, 1) := by decide +kernel
theorem dX11_goes_105 : decode cX11_goes 105 = .ok (.iload_n 3, 1) := by decide +kernel
theorem dX11_goes_106 : decode cX11_goes 106 = .ok (.iload 4, 2) := by decide +kernel
theorem dX11_goes_108 : decode cX11_goes 108 = .ok (.iconst 1, 1) := by decide +kernel
theorem dX11_goes_109 : decode cX11_goes 109 = .ok (.isub, 1) := by decide +kernel
theorem dX11_goes_110 : decode cX11_goes 110 = .ok (.if_icmp .ne 7, 3) := by decide +kernel
theorem dX11_goes_113 : decode cX11_goes 113 = .ok (.iload_n 3, 1) := by decide +kernel
theorem dX11_goes_114 : decode cX11_goes 114 = .ok (.goto 11, 3) := by decide +kernel
theorem dX11_goes_117 : decode cX11_goes 117 = .ok (.iload_n 3, 1) := by decide +kernel
theorem dX11_goes_118 : decode cX11_goes 118 = .ok (.iload_n 2, 1) := by decide +kernel
theorem dX11_goes_119 : decode cX11_goes 119 = .ok (.iadd, 1) := by decide +kernel
theorem dX11_goes_120 : decode cX11_goes 120 = .ok (.iload 4, 2) := by decide +kernel
theorem dX11_goes_122 : decode cX11_goes 122 = .ok (.iconst 1, 1) := by decide +kernel
theorem dX11_goes_123 : decode cX11_goes 123 = .ok (.isub, 1) := by decide +kernel
theorem dX11_goes_124 : decode cX11_goes 124 = .ok (.irem, 1) := by decide +kernel
theorem dX11_goes_125 : decode cX11_goes 125 = .ok (.ireturn, 1) := by decide +kernel
theorem dX11_way_0 : decode cX11_way 0 = .ok (.iload_n 1, 1) := by decide +kernel
theorem dX11_way_1 : decode cX11_way 1 = .ok (.i2l, 1) := by decide +kernel
theorem dX11_way_2 : decode cX11_way 2 = .ok (.lconst 0, 1) := by decide +kernel
theorem dX11_way_3 : decode cX11_way 3 = .ok (.ldc2_w 97, 3) := by decide +kernel
theorem dX11_way_6 : decode cX11_way 6 = .ok (.invokestatic 85, 3) := by decide +kernel
theorem dX11_way_9 : decode cX11_way 9 = .ok (.ifCond .ne 5, 3) := by decide +kernel
theorem dX11_way_12 : decode cX11_way 12 = .ok (.iconst (-1), 1) := by decide +kernel
theorem dX11_way_13 : decode cX11_way 13 = .ok (.ireturn, 1) := by decide +kernel
theorem dX11_way_14 : decode cX11_way 14 = .ok (.iload_n 2, 1) := by decide +kernel
theorem dX11_way_15 : decode cX11_way 15 = .ok (.i2l, 1) := by decide +kernel
theorem dX11_way_16 : decode cX11_way 16 = .ok (.lconst 0, 1) := by decide +kernel
theorem dX11_way_17 : decode cX11_way 17 = .ok (.ldc2_w 99, 3) := by decide +kernel
theorem dX11_way_20 : decode cX11_way 20 = .ok (.invokestatic 85, 3) := by decide +kernel
theorem dX11_way_23 : decode cX11_way 23 = .ok (.ifCond .eq 22, 3) := by decide +kernel
theorem dX11_way_26 : decode cX11_way 26 = .ok (.iload_n 1, 1) := by decide +kernel
theorem dX11_way_27 : decode cX11_way 27 = .ok (.iconst 2, 1) := by decide +kernel
theorem dX11_way_28 : decode cX11_way 28 = .ok (.if_icmp .ne 20, 3) := by decide +kernel
theorem dX11_way_31 : decode cX11_way 31 = .ok (.aload_n 0, 1) := by decide +kernel
theorem dX11_way_32 : decode cX11_way 32 = .ok (.getfield 11, 3) := by decide +kernel
theorem dX11_way_35 : decode cX11_way 35 = .ok (.iconst 0, 1) := by decide +kernel
theorem dX11_way_36 : decode cX11_way 36 = .ok (.iaload, 1) := by decide +kernel
theorem dX11_way_37 : decode cX11_way 37 = .ok (.iload_n 2, 1) := by decide +kernel
theorem dX11_way_38 : decode cX11_way 38 = .ok (.invokestatic 93, 3) := by decide +kernel
theorem dX11_way_41 : decode cX11_way 41 = .ok (.iconst 1, 1) := by decide +kernel
theorem dX11_way_42 : decode cX11_way 42 = .ok (.if_icmp .eq 6, 3) := by decide +kernel
theorem dX11_way_45 : decode cX11_way 45 = .ok (.bipush (-2), 2) := by decide +kernel
theorem dX11_way_47 : decode cX11_way 47 = .ok (.ireturn, 1) := by decide +kernel
theorem dX11_way_48 : decode cX11_way 48 = .ok (.aload_n 0, 1) := by decide +kernel
theorem dX11_way_49 : decode cX11_way 49 = .ok (.getfield 11, 3) := by decide +kernel
theorem dX11_way_52 : decode cX11_way 52 = .ok (.iconst 1, 1) := by decide +kernel
theorem dX11_way_53 : decode cX11_way 53 = .ok (.iaload, 1) := by decide +kernel
theorem dX11_way_54 : decode cX11_way 54 = .ok (.iconst 4, 1) := by decide +kernel
theorem dX11_way_55 : decode cX11_way 55 = .ok (.if_icmp .ne 6, 3) := by decide +kernel
theorem dX11_way_58 : decode cX11_way 58 = .ok (.bipush (-4), 2) := by decide +kernel
theorem dX11_way_60 : decode cX11_way 60 = .ok (.ireturn, 1) := by decide +kernel
theorem dX11_way_61 : decode cX11_way 61 = .ok (.aload_n 0, 1) := by decide +kernel
theorem dX11_way_62 : decode cX11_way 62 = .ok (.getfield 11, 3) := by decide +kernel
theorem dX11_way_65 : decode cX11_way 65 = .ok (.iconst 1, 1) := by decide +kernel
theorem dX11_way_66 : decode cX11_way 66 = .ok (.iaload, 1) := by decide +kernel
theorem dX11_way_67 : decode cX11_way 67 = .ok (.istore_n 3, 1) := by decide +kernel
theorem dX11_way_68 : decode cX11_way 68 = .ok (.aload_n 0, 1) := by decide +kernel
theorem dX11_way_69 : decode cX11_way 69 = .ok (.getfield 11, 3) := by decide +kernel
theorem dX11_way_72 : decode cX11_way 72 = .ok (.iconst 2, 1) := by decide +kernel
theorem dX11_way_73 : decode cX11_way 73 = .ok (.iload_n 3, 1) := by decide +kernel
theorem dX11_way_74 : decode cX11_way 74 = .ok (.iadd, 1) := by decide +kernel
theorem dX11_way_75 : decode cX11_way 75 = .ok (.iload_n 1, 1) := by decide +kernel
theorem dX11_way_76 : decode cX11_way 76 = .ok (.iastore, 1) := by decide +kernel
theorem dX11_way_77 : decode cX11_way 77 = .ok (.aload_n 0, 1) := by decide +kernel
theorem dX11_way_78 : decode cX11_way 78 = .ok (.getfield 11, 3) := by decide +kernel
theorem dX11_way_81 : decode cX11_way 81 = .ok (.bipush 6, 2) := by decide +kernel
theorem dX11_way_83 : decode cX11_way 83 = .ok (.iload_n 3, 1) := by decide +kernel
theorem dX11_way_84 : decode cX11_way 84 = .ok (.iadd, 1) := by decide +kernel
theorem dX11_way_85 : decode cX11_way 85 = .ok (.iload_n 2, 1) := by decide +kernel
theorem dX11_way_86 : decode cX11_way 86 = .ok (.iastore, 1) := by decide +kernel
theorem dX11_way_87 : decode cX11_way 87 = .ok (.iconst 0, 1) := by decide +kernel
theorem dX11_way_88 : decode cX11_way 88 = .ok (.istore 4, 2) := by decide +kernel
theorem dX11_way_90 : decode cX11_way 90 = .ok (.iload 4, 2) := by decide +kernel
theorem dX11_way_92 : decode cX11_way 92 = .ok (.aload_n 0, 1) := by decide +kernel
theorem dX11_way_93 : decode cX11_way 93 = .ok (.getfield 11, 3) := by decide +kernel
theorem dX11_way_96 : decode cX11_way 96 = .ok (.iconst 0, 1) := by decide +kernel
theorem dX11_way_97 : decode cX11_way 97 = .ok (.iaload, 1) := by decide +kernel
theorem dX11_way_98 : decode cX11_way 98 = .ok (.if_icmp .ge 32, 3) := by decide +kernel
theorem dX11_way_101 : decode cX11_way 101 = .ok (.aload_n 0, 1) := by decide +kernel
theorem dX11_way_102 : decode cX11_way 102 = .ok (.getfield 11, 3) := by decide +kernel
theorem dX11_way_105 : decode cX11_way 105 = .ok (.bipush 10, 2) := by decide +kernel
theorem dX11_way_107 : decode cX11_way 107 = .ok (.bipush 8, 2) := by decide +kernel
theorem dX11_way_109 : decode cX11_way 109 = .ok (.iload_n 3, 1) := by decide +kernel
theorem dX11_way_110 : decode cX11_way 110 = .ok (.imul, 1) := by decide +kernel
theorem dX11_way_111 : decode cX11_way 111 = .ok (.iadd, 1) := by decide +kernel
theorem dX11_way_112 : decode cX11_way 112 = .ok (.iload 4, 2) := by decide +kernel
theorem dX11_way_114 : decode cX11_way 114 = .ok (.iadd, 1) := by decide +kernel
theorem dX11_way_115 : decode cX11_way 115 = .ok (.aload_n 0, 1) := by decide +kernel
theorem dX11_way_116 : decode cX11_way 116 = .ok (.iload_n 1, 1) := by decide +kernel
theorem dX11_way_117 : decode cX11_way 117 = .ok (.iload_n 2, 1) := by decide +kernel
theorem dX11_way_118 : decode cX11_way 118 = .ok (.iload 4, 2) := by decide +kernel
theorem dX11_way_120 : decode cX11_way 120 = .ok (.invokevirtual 101, 3) := by decide +kernel
theorem dX11_way_123 : decode cX11_way 123 = .ok (.iastore, 1) := by decide +kernel
theorem dX11_way_124 : decode cX11_way 124 = .ok (.iinc 4 1, 3) := by decide +kernel
theorem dX11_way_127 : decode cX11_way 127 = .ok (.goto (-37), 3) := by decide +kernel
theorem dX11_way_130 : decode cX11_way 130 = .ok (.aload_n 0, 1) := by decide +kernel
theorem dX11_way_131 : decode cX11_way 131 = .ok (.getfield 11, 3) := by decide +kernel
theorem dX11_way_134 : decode cX11_way 134 = .ok (.iconst 1, 1) := by decide +kernel
theorem dX11_way_135 : decode cX11_way 135 = .ok (.dup2, 1) := by decide +kernel
theorem dX11_way_136 : decode cX11_way 136 = .ok (.iaload, 1) := by decide +kernel
theorem dX11_way_137 : decode cX11_way 137 = .ok (.iconst 1, 1) := by decide +kernel
theorem dX11_way_138 : decode cX11_way 138 = .ok (.iadd, 1) := by decide +kernel
theorem dX11_way_139 : decode cX11_way 139 = .ok (.iastore, 1) := by decide +kernel
theorem dX11_way_140 : decode cX11_way 140 = .ok (.iload_n 3, 1) := by decide +kernel
theorem dX11_way_141 : decode cX11_way 141 = .ok (.ireturn, 1) := by decide +kernel
theorem dX11_hand_0 : decode cX11_hand 0 = .ok (.iload_n 1, 1) := by decide +kernel
theorem dX11_hand_1 : decode cX11_hand 1 = .ok (.istore_n 2, 1) := by decide +kernel
theorem dX11_hand_2 : decode cX11_hand 2 = .ok (.iconst 0, 1) := by decide +kernel
theorem dX11_hand_3 : decode cX11_hand 3 = .ok (.istore_n 3, 1) := by decide +kernel
theorem dX11_hand_4 : decode cX11_hand 4 = .ok (.aload_n 0, 1) := by decide +kernel
theorem dX11_hand_5 : decode cX11_hand 5 = .ok (.getfield 11, 3) := by decide +kernel
theorem dX11_hand_8 : decode cX11_hand 8 = .ok (.iconst 0, 1) := by decide +kernel
theorem dX11_hand_9 : decode cX11_hand 9 = .ok (.iaload, 1) := by decide +kernel
theorem dX11_hand_10 : decode cX11_hand 10 = .ok (.iconst 1, 1) := by decide +kernel
theorem dX11_hand_11 : decode cX11_hand 11 = .ok (.isub, 1) := by decide +kernel
theorem dX11_hand_12 : decode cX11_hand 12 = .ok (.istore 4, 2) := by decide +kernel
theorem dX11_hand_14 : decode cX11_hand 14 = .ok (.iload 4, 2) := by decide +kernel
theorem dX11_hand_16 : decode cX11_hand 16 = .ok (.ifCond .lt 64, 3) := by decide +kernel
theorem dX11_hand_19 : decode cX11_hand 19 = .ok (.iload_n 2, 1) := by decide +kernel
theorem dX11_hand_20 : decode cX11_hand 20 = .ok (.bipush 10, 2) := by decide +kernel
theorem dX11_hand_22 : decode cX11_hand 22 = .ok (.irem, 1) := by decide +kernel
theorem dX11_hand_23 : decode cX11_hand 23 = .ok (.iconst 1, 1) := by decide +kernel
theorem dX11_hand_24 : decode cX11_hand 24 = .ok (.isub, 1) := by decide +kernel
theorem dX11_hand_25 : decode cX11_hand 25 = .ok (.istore 5, 2) := by decide +kernel
theorem dX11_hand_27 : decode cX11_hand 27 = .ok (.iload_n 2, 1) := by decide +kernel
theorem dX11_hand_28 : decode cX11_hand 28 = .ok (.ifCond .lt 22, 3) := by decide +kernel
theorem dX11_hand_31 : decode cX11_hand 31 = .ok (.aload_n 0, 1) := by decide +kernel
theorem dX11_hand_32 : decode cX11_hand 32 = .ok (.iload 5, 2) := by decide +kernel
theorem dX11_hand_34 : decode cX11_hand 34 = .ok (.invokevirtual 105, 3) := by decide +kernel
theorem dX11_hand_37 : decode cX11_hand 37 = .ok (.ifCond .eq 13, 3) := by decide +kernel
theorem dX11_hand_40 : decode cX11_hand 40 = .ok (.iload_n 3, 1) := by decide +kernel
theorem dX11_hand_41 : decode cX11_hand 41 = .ok (.iload 5, 2) := by decide +kernel
theorem dX11_hand_43 : decode cX11_hand 43 = .ok (.ishr, 1) := by decide +kernel
theorem dX11_hand_44 : decode cX11_hand 44 = .ok (.iconst 1, 1) := by decide +kernel
theorem dX11_hand_45 : decode cX11_hand 45 = .ok (.iand, 1) := by decide +kernel
theorem dX11_hand_46 : decode cX11_hand 46 = .ok (.iconst 1, 1) := by decide +kernel
theorem dX11_hand_47 : decode cX11_hand 47 = .ok (.if_icmp .ne 6, 3) := by decide +kernel
theorem dX11_hand_50 : decode cX11_hand 50 = .ok (.bipush (-2), 2) := by decide +kernel
theorem dX11_hand_52 : decode cX11_hand 52 = .ok (.ireturn, 1) := by decide +kernel
theorem dX11_hand_53 : decode cX11_hand 53 = .ok (.iload_n 3, 1) := by decide +kernel
theorem dX11_hand_54 : decode cX11_hand 54 = .ok (.iconst 1, 1) := by decide +kernel
theorem dX11_hand_55 : decode cX11_hand 55 = .ok (.iload 5, 2) := by decide +kernel
theorem dX11_hand_57 : decode cX11_hand 57 = .ok (.ishl, 1) := by decide +kernel
theorem dX11_hand_58 : decode cX11_hand 58 = .ok (.ior, 1) := by decide +kernel
theorem dX11_hand_59 : decode cX11_hand 59 = .ok (.istore_n 3, 1) := by decide +kernel
theorem dX11_hand_60 : decode cX11_hand 60 = .ok (.aload_n 0, 1) := by decide +kernel
theorem dX11_hand_61 : decode cX11_hand 61 = .ok (.getfield 26, 3) := by decide +kernel
theorem dX11_hand_64 : decode cX11_hand 64 = .ok (.iload 4, 2) := by decide +kernel
theorem dX11_hand_66 : decode cX11_hand 66 = .ok (.iload 5, 2) := by decide +kernel
theorem dX11_hand_68 : decode cX11_hand 68 = .ok (.iastore, 1) := by decide +kernel
theorem dX11_hand_69 : decode cX11_hand 69 = .ok (.iload_n 2, 1) := by decide +kernel
theorem dX11_hand_70 : decode cX11_hand 70 = .ok (.bipush 10, 2) := by decide +kernel
theorem dX11_hand_72 : decode cX11_hand 72 = .ok (.idiv, 1) := by decide +kernel
theorem dX11_hand_73 : decode cX11_hand 73 = .ok (.istore_n 2, 1) := by decide +kernel
theorem dX11_hand_74 : decode cX11_hand 74 = .ok (.iinc 4 (-1), 3) := by decide +kernel
theorem dX11_hand_77 : decode cX11_hand 77 = .ok (.goto (-63), 3) := by decide +kernel
theorem dX11_hand_80 : decode cX11_hand 80 = .ok (.iload_n 2, 1) := by decide +kernel
theorem dX11_hand_81 : decode cX11_hand 81 = .ok (.ifCond .eq 6, 3) := by decide +kernel
theorem dX11_hand_84 : decode cX11_hand 84 = .ok (.bipush (-2), 2) := by decide +kernel
theorem dX11_hand_86 : decode cX11_hand 86 = .ok (.ireturn, 1) := by decide +kernel
theorem dX11_hand_87 : decode cX11_hand 87 = .ok (.aload_n 0, 1) := by decide +kernel
theorem dX11_hand_88 : decode cX11_hand 88 = .ok (.getfield 11, 3) := by decide +kernel
theorem dX11_hand_91 : decode cX11_hand 91 = .ok (.iconst 1, 1) := by decide +kernel
theorem dX11_hand_92 : decode cX11_hand 92 = .ok (.iaload, 1) := by decide +kernel
theorem dX11_hand_93 : decode cX11_hand 93 = .ok (.iconst 4, 1) := by decide +kernel
theorem dX11_hand_94 : decode cX11_hand 94 = .ok (.if_icmp .ne 6, 3) := by decide +kernel
theorem dX11_hand_97 : decode cX11_hand 97 = .ok (.bipush (-4), 2) := by decide +kernel
theorem dX11_hand_99 : decode cX11_hand 99 = .ok (.ireturn, 1) := by decide +kernel
theorem dX11_hand_100 : decode cX11_hand 100 = .ok (.aload_n 0, 1) := by decide +kernel
theorem dX11_hand_101 : decode cX11_hand 101 = .ok (.getfield 11, 3) := by decide +kernel
theorem dX11_hand_104 : decode cX11_hand 104 = .ok (.iconst 1, 1) := by decide +kernel
theorem dX11_hand_105 : decode cX11_hand 105 = .ok (.iaload, 1) := by decide +kernel
theorem dX11_hand_106 : decode cX11_hand 106 = .ok (.istore 4, 2) := by decide +kernel
theorem dX11_hand_108 : decode cX11_hand 108 = .ok (.aload_n 0, 1) := by decide +kernel
theorem dX11_hand_109 : decode cX11_hand 109 = .ok (.getfield 11, 3) := by decide +kernel
theorem dX11_hand_112 : decode cX11_hand 112 = .ok (.iconst 2, 1) := by decide +kernel
theorem dX11_hand_113 : decode cX11_hand 113 = .ok (.iload 4, 2) := by decide +kernel
theorem dX11_hand_115 : decode cX11_hand 115 = .ok (.iadd, 1) := by decide +kernel
theorem dX11_hand_116 : decode cX11_hand 116 = .ok (.iconst 5, 1) := by decide +kernel
theorem dX11_hand_117 : decode cX11_hand 117 = .ok (.iastore, 1) := by decide +kernel
theorem dX11_hand_118 : decode cX11_hand 118 = .ok (.aload_n 0, 1) := by decide +kernel
theorem dX11_hand_119 : decode cX11_hand 119 = .ok (.getfield 11, 3) := by decide +kernel
theorem dX11_hand_122 : decode cX11_hand 122 = .ok (.bipush 6, 2) := by decide +kernel
theorem dX11_hand_124 : decode cX11_hand 124 = .ok (.iload 4, 2) := by decide +kernel
theorem dX11_hand_126 : decode cX11_hand 126 = .ok (.iadd, 1) := by decide +kernel
theorem dX11_hand_127 : decode cX11_hand 127 = .ok (.iconst 0, 1) := by decide +kernel
theorem dX11_hand_128 : decode cX11_hand 128 = .ok (.iastore, 1) := by decide +kernel
theorem dX11_hand_129 : decode cX11_hand 129 = .ok (.iconst 0, 1) := by decide +kernel
theorem dX11_hand_130 : decode cX11_hand 130 = .ok (.istore 5, 2) := by decide +kernel
theorem dX11_hand_132 : decode cX11_hand 132 = .ok (.iload 5, 2) := by decide +kernel
theorem dX11_hand_134 : decode cX11_hand 134 = .ok (.aload_n 0, 1) := by decide +kernel
theorem dX11_hand_135 : decode cX11_hand 135 = .ok (.getfield 11, 3) := by decide +kernel
theorem dX11_hand_138 : decode cX11_hand 138 = .ok (.iconst 0, 1) := by decide +kernel
theorem dX11_hand_139 : decode cX11_hand 139 = .ok (.iaload, 1) := by decide +kernel
theorem dX11_hand_140 : decode cX11_hand 140 = .ok (.if_icmp .ge 32, 3) := by decide +kernel
theorem dX11_hand_143 : decode cX11_hand 143 = .ok (.aload_n 0, 1) := by decide +kernel
theorem dX11_hand_144 : decode cX11_hand 144 = .ok (.getfield 11, 3) := by decide +kernel
theorem dX11_hand_147 : decode cX11_hand 147 = .ok (.bipush 10, 2) := by decide +kernel
theorem dX11_hand_149 : decode cX11_hand 149 = .ok (.bipush 8, 2) := by decide +kernel
theorem dX11_hand_151 : decode cX11_hand 151 = .ok (.iload 4, 2) := by decide +kernel
theorem dX11_hand_153 : decode cX11_hand 153 = .ok (.imul, 1) := by decide +kernel
theorem dX11_hand_154 : decode cX11_hand 154 = .ok (.iadd, 1) := by decide +kernel
theorem dX11_hand_155 : decode cX11_hand 155 = .ok (.iload 5, 2) := by decide +kernel
theorem dX11_hand_157 : decode cX11_hand 157 = .ok (.iadd, 1) := by decide +kernel
theorem dX11_hand_158 : decode cX11_hand 158 = .ok (.aload_n 0, 1) := by decide +kernel
theorem dX11_hand_159 : decode cX11_hand 159 = .ok (.getfield 26, 3) := by decide +kernel
theorem dX11_hand_162 : decode cX11_hand 162 = .ok (.iload 5, 2) := by decide +kernel
theorem dX11_hand_164 : decode cX11_hand 164 = .ok (.iaload, 1) := by decide +kernel
theorem dX11_hand_165 : decode cX11_hand 165 = .ok (.iastore, 1) := by decide +kernel
theorem dX11_hand_166 : decode cX11_hand 166 = .ok (.iinc 5 1, 3) := by decide +kernel
theorem dX11_hand_169 : decode cX11_hand 169 = .ok (.goto (-37), 3) := by decide +kernel
theorem dX11_hand_172 : decode cX11_hand 172 = .ok (.aload_n 0, 1) := by decide +kernel
theorem dX11_hand_173 : decode cX11_hand 173 = .ok (.getfield 11, 3) := by decide +kernel
theorem dX11_hand_176 : decode cX11_hand 176 = .ok (.iconst 1, 1) := by decide +kernel
theorem dX11_hand_177 : decode cX11_hand 177 = .ok (.dup2, 1) := by decide +kernel
theorem dX11_hand_178 : decode cX11_hand 178 = .ok (.iaload, 1) := by decide +kernel
theorem dX11_hand_179 : decode cX11_hand 179 = .ok (.iconst 1, 1) := by decide +kernel
theorem dX11_hand_180 : decode cX11_hand 180 = .ok (.iadd, 1) := by decide +kernel
theorem dX11_hand_181 : decode cX11_hand 181 = .ok (.iastore, 1) := by decide +kernel
theorem dX11_hand_182 : decode cX11_hand 182 = .ok (.iload 4, 2) := by decide +kernel
theorem dX11_hand_184 : decode cX11_hand 184 = .ok (.ireturn, 1) := by decide +kernel
theorem dX11_drop_0 : decode cX11_drop 0 = .ok (.aload_n 0, 1) := by decide +kernel
theorem dX11_drop_1 : decode cX11_drop 1 = .ok (.iload_n 1, 1) := by decide +kernel
theorem dX11_drop_2 : decode cX11_drop 2 = .ok (.invokevirtual 109, 3) := by decide +kernel
theorem dX11_drop_5 : decode cX11_drop 5 = .ok (.ifCond .ne 5, 3) := by decide +kernel
theorem dX11_drop_8 : decode cX11_drop 8 = .ok (.iconst (-1), 1) := by decide +kernel
theorem dX11_drop_9 : decode cX11_drop 9 = .ok (.ireturn, 1) := by decide +kernel
theorem dX11_drop_10 : decode cX11_drop 10 = .ok (.aload_n 0, 1) := by decide +kernel
theorem dX11_drop_11 : decode cX11_drop 11 = .ok (.getfield 11, 3) := by decide +kernel
theorem dX11_drop_14 : decode cX11_drop 14 = .ok (.iconst 1, 1) := by decide +kernel
theorem dX11_drop_15 : decode cX11_drop 15 = .ok (.dup2, 1) := by decide +kernel
theorem dX11_drop_16 : decode cX11_drop 16 = .ok (.iaload, 1) := by decide +kernel
theorem dX11_drop_17 : decode cX11_drop 17 = .ok (.iconst 1, 1) := by decide +kernel
theorem dX11_drop_18 : decode cX11_drop 18 = .ok (.isub, 1) := by decide +kernel
theorem dX11_drop_19 : decode cX11_drop 19 = .ok (.iastore, 1) := by decide +kernel
theorem dX11_drop_20 : decode cX11_drop 20 = .ok (.iload_n 1, 1) := by decide +kernel
theorem dX11_drop_21 : decode cX11_drop 21 = .ok (.istore_n 2, 1) := by decide +kernel
theorem dX11_drop_22 : decode cX11_drop 22 = .ok (.iload_n 2, 1) := by decide +kernel
theorem dX11_drop_23 : decode cX11_drop 23 = .ok (.aload_n 0, 1) := by decide +kernel
theorem dX11_drop_24 : decode cX11_drop 24 = .ok (.getfield 11, 3) := by decide +kernel
theorem dX11_drop_27 : decode cX11_drop 27 = .ok (.iconst 1, 1) := by decide +kernel
theorem dX11_drop_28 : decode cX11_drop 28 = .ok (.iaload, 1) := by decide +kernel
theorem dX11_drop_29 : decode cX11_drop 29 = .ok (.if_icmp .ge 91, 3) := by decide +kernel
theorem dX11_drop_32 : decode cX11_drop 32 = .ok (.aload_n 0, 1) := by decide +kernel
theorem dX11_drop_33 : decode cX11_drop 33 = .ok (.getfield 11, 3) := by decide +kernel
theorem dX11_drop_36 : decode cX11_drop 36 = .ok (.iconst 2, 1) := by decide +kernel
theorem dX11_drop_37 : decode cX11_drop 37 = .ok (.iload_n 2, 1) := by decide +kernel
theorem dX11_drop_38 : decode cX11_drop 38 = .ok (.iadd, 1) := by decide +kernel
theorem dX11_drop_39 : decode cX11_drop 39 = .ok (.aload_n 0, 1) := by decide +kernel
theorem dX11_drop_40 : decode cX11_drop 40 = .ok (.getfield 11, 3) := by decide +kernel
theorem dX11_drop_43 : decode cX11_drop 43 = .ok (.iconst 2, 1) := by decide +kernel
theorem dX11_drop_44 : decode cX11_drop 44 = .ok (.iload_n 2, 1) := by decide +kernel
theorem dX11_drop_45 : decode cX11_drop 45 = .ok (.iadd, 1) := by decide +kernel
theorem dX11_drop_46 : decode cX11_drop 46 = .ok (.iconst 1, 1) := by decide +kernel
theorem dX11_drop_47 : decode cX11_drop 47 = .ok (.iadd, 1) := by decide +kernel
theorem dX11_drop_48 : decode cX11_drop 48 = .ok (.iaload, 1) := by decide +kernel
theorem dX11_drop_49 : decode cX11_drop 49 = .ok (.iastore, 1) := by decide +kernel
theorem dX11_drop_50 : decode cX11_drop 50 = .ok (.aload_n 0, 1) := by decide +kernel
theorem dX11_drop_51 : decode cX11_drop 51 = .ok (.getfield 11, 3) := by decide +kernel
theorem dX11_drop_54 : decode cX11_drop 54 = .ok (.bipush 6, 2) := by decide +kernel
theorem dX11_drop_56 : decode cX11_drop 56 = .ok (.iload_n 2, 1) := by decide +kernel
theorem dX11_drop_57 : decode cX11_drop 57 = .ok (.iadd, 1) := by decide +kernel
theorem dX11_drop_58 : decode cX11_drop 58 = .ok (.aload_n 0, 1) := by decide +kernel
theorem dX11_drop_59 : decode cX11_drop 59 = .ok (.getfield 11, 3) := by decide +kernel
theorem dX11_drop_62 : decode cX11_drop 62 = .ok (.bipush 6, 2) := by decide +kernel
theorem dX11_drop_64 : decode cX11_drop 64 = .ok (.iload_n 2, 1) := by decide +kernel
theorem dX11_drop_65 : decode cX11_drop 65 = .ok (.iadd, 1) := by decide +kernel
theorem dX11_drop_66 : decode cX11_drop 66 = .ok (.iconst 1, 1) := by decide +kernel
theorem dX11_drop_67 : decode cX11_drop 67 = .ok (.iadd, 1) := by decide +kernel
theorem dX11_drop_68 : decode cX11_drop 68 = .ok (.iaload, 1) := by decide +kernel
theorem dX11_drop_69 : decode cX11_drop 69 = .ok (.iastore, 1) := by decide +kernel
theorem dX11_drop_70 : decode cX11_drop 70 = .ok (.iconst 0, 1) := by decide +kernel
theorem dX11_drop_71 : decode cX11_drop 71 = .ok (.istore_n 3, 1) := by decide +kernel
theorem dX11_drop_72 : decode cX11_drop 72 = .ok (.iload_n 3, 1) := by decide +kernel
theorem dX11_drop_73 : decode cX11_drop 73 = .ok (.bipush 8, 2) := by decide +kernel
theorem dX11_drop_75 : decode cX11_drop 75 = .ok (.if_icmp .ge 39, 3) := by decide +kernel
theorem dX11_drop_78 : decode cX11_drop 78 = .ok (.aload_n 0, 1) := by decide +kernel
theorem dX11_drop_79 : decode cX11_drop 79 = .ok (.getfield 11, 3) := by decide +kernel
theorem dX11_drop_82 : decode cX11_drop 82 = .ok (.bipush 10, 2) := by decide +kernel
theorem dX11_drop_84 : decode cX11_drop 84 = .ok (.bipush 8, 2) := by decide +kernel
theorem dX11_drop_86 : decode cX11_drop 86 = .ok (.iload_n 2, 1) := by decide +kernel
theorem dX11_drop_87 : decode cX11_drop 87 = .ok (.imul, 1) := by decide +kernel
theorem dX11_drop_88 : decode cX11_drop 88 = .ok (.iadd, 1) := by decide +kernel
theorem dX11_drop_89 : decode cX11_drop 89 = .ok (.iload_n 3, 1) := by decide +kernel
theorem dX11_drop_90 : decode cX11_drop 90 = .ok (.iadd, 1) := by decide +kernel
theorem dX11_drop_91 : decode cX11_drop 91 = .ok (.aload_n 0, 1) := by decide +kernel
theorem dX11_drop_92 : decode cX11_drop 92 = .ok (.getfield 11, 3) := by decide +kernel
theorem dX11_drop_95 : decode cX11_drop 95 = .ok (.bipush 10, 2) := by decide +kernel
theorem dX11_drop_97 : decode cX11_drop 97 = .ok (.bipush 8, 2) := by decide +kernel
theorem dX11_drop_99 : decode cX11_drop 99 = .ok (.iload_n 2, 1) := by decide +kernel
theorem dX11_drop_100 : decode cX11_drop 100 = .ok (.iconst 1, 1) := by decide +kernel
theorem dX11_drop_101 : decode cX11_drop 101 = .ok (.iadd, 1) := by decide +kernel
theorem dX11_drop_102 : decode cX11_drop 102 = .ok (.imul, 1) := by decide +kernel
theorem dX11_drop_103 : decode cX11_drop 103 = .ok (.iadd, 1) := by decide +kernel
theorem dX11_drop_104 : decode cX11_drop 104 = .ok (.iload_n 3, 1) := by decide +kernel
theorem dX11_drop_105 : decode cX11_drop 105 = .ok (.iadd, 1) := by decide +kernel
theorem dX11_drop_106 : decode cX11_drop 106 = .ok (.iaload, 1) := by decide +kernel
theorem dX11_drop_107 : decode cX11_drop 107 = .ok (.iastore, 1) := by decide +kernel
theorem dX11_drop_108 : decode cX11_drop 108 = .ok (.iinc 3 1, 3) := by decide +kernel
theorem dX11_drop_111 : decode cX11_drop 111 = .ok (.goto (-39), 3) := by decide +kernel
theorem dX11_drop_114 : decode cX11_drop 114 = .ok (.iinc 2 1, 3) := by decide +kernel
theorem dX11_drop_117 : decode cX11_drop 117 = .ok (.goto (-95), 3) := by decide +kernel
theorem dX11_drop_120 : decode cX11_drop 120 = .ok (.aload_n 0, 1) := by decide +kernel
theorem dX11_drop_121 : decode cX11_drop 121 = .ok (.getfield 11, 3) := by decide +kernel
theorem dX11_drop_124 : decode cX11_drop 124 = .ok (.iconst 1, 1) := by decide +kernel
theorem dX11_drop_125 : decode cX11_drop 125 = .ok (.iaload, 1) := by decide +kernel
theorem dX11_drop_126 : decode cX11_drop 126 = .ok (.ireturn, 1) := by decide +kernel
theorem dX11_to_0 : decode cX11_to 0 = .ok (.aload_n 0, 1) := by decide +kernel
theorem dX11_to_1 : decode cX11_to 1 = .ok (.getfield 11, 3) := by decide +kernel
theorem dX11_to_4 : decode cX11_to 4 = .ok (.bipush 10, 2) := by decide +kernel
theorem dX11_to_6 : decode cX11_to 6 = .ok (.bipush 8, 2) := by decide +kernel
theorem dX11_to_8 : decode cX11_to 8 = .ok (.iload_n 1, 1) := by decide +kernel
theorem dX11_to_9 : decode cX11_to 9 = .ok (.imul, 1) := by decide +kernel
theorem dX11_to_10 : decode cX11_to 10 = .ok (.iadd, 1) := by decide +kernel
theorem dX11_to_11 : decode cX11_to 11 = .ok (.iload_n 2, 1) := by decide +kernel
theorem dX11_to_12 : decode cX11_to 12 = .ok (.iadd, 1) := by decide +kernel
theorem dX11_to_13 : decode cX11_to 13 = .ok (.iaload, 1) := by decide +kernel
theorem dX11_to_14 : decode cX11_to 14 = .ok (.ireturn, 1) := by decide +kernel
theorem dX11_moved_0 : decode cX11_moved 0 = .ok (.iconst 0, 1) := by decide +kernel
theorem dX11_moved_1 : decode cX11_moved 1 = .ok (.istore_n 3, 1) := by decide +kernel
theorem dX11_moved_2 : decode cX11_moved 2 = .ok (.iconst 0, 1) := by decide +kernel
theorem dX11_moved_3 : decode cX11_moved 3 = .ok (.istore 4, 2) := by decide +kernel
theorem dX11_moved_5 : decode cX11_moved 5 = .ok (.iload 4, 2) := by decide +kernel
theorem dX11_moved_7 : decode cX11_moved 7 = .ok (.aload_n 0, 1) := by decide +kernel
theorem dX11_moved_8 : decode cX11_moved 8 = .ok (.getfield 11, 3) := by decide +kernel
theorem dX11_moved_11 : decode cX11_moved 11 = .ok (.iconst 0, 1) := by decide +kernel
theorem dX11_moved_12 : decode cX11_moved 12 = .ok (.iaload, 1) := by decide +kernel
theorem dX11_moved_13 : decode cX11_moved 13 = .ok (.if_icmp .ge 35, 3) := by decide +kernel
theorem dX11_moved_16 : decode cX11_moved 16 = .ok (.iload_n 3, 1) := by decide +kernel
theorem dX11_moved_17 : decode cX11_moved 17 = .ok (.iload_n 2, 1) := by decide +kernel
theorem dX11_moved_18 : decode cX11_moved 18 = .ok (.iload 4, 2) := by decide +kernel
theorem dX11_moved_20 : decode cX11_moved 20 = .ok (.ishr, 1) := by decide +kernel
theorem dX11_moved_21 : decode cX11_moved 21 = .ok (.iconst 1, 1) := by decide +kernel
theorem dX11_moved_22 : decode cX11_moved 22 = .ok (.iand, 1) := by decide +kernel
theorem dX11_moved_23 : decode cX11_moved 23 = .ok (.iconst 1, 1) := by decide +kernel
theorem dX11_moved_24 : decode cX11_moved 24 = .ok (.if_icmp .ne 15, 3) := by decide +kernel
theorem dX11_moved_27 : decode cX11_moved 27 = .ok (.iconst 1, 1) := by decide +kernel
theorem dX11_moved_28 : decode cX11_moved 28 = .ok (.aload_n 0, 1) := by decide +kernel
theorem dX11_moved_29 : decode cX11_moved 29 = .ok (.iload_n 1, 1) := by decide +kernel
theorem dX11_moved_30 : decode cX11_moved 30 = .ok (.iload 4, 2) := by decide +kernel
theorem dX11_moved_32 : decode cX11_moved 32 = .ok (.invokevirtual 112, 3) := by decide +kernel
theorem dX11_moved_35 : decode cX11_moved 35 = .ok (.ishl, 1) := by decide +kernel
theorem dX11_moved_36 : decode cX11_moved 36 = .ok (.goto 4, 3) := by decide +kernel
theorem dX11_moved_39 : decode cX11_moved 39 = .ok (.iconst 0, 1) := by decide +kernel
theorem dX11_moved_40 : decode cX11_moved 40 = .ok (.ior, 1) := by decide +kernel
theorem dX11_moved_41 : decode cX11_moved 41 = .ok (.istore_n 3, 1) := by decide +kernel
theorem dX11_moved_42 : decode cX11_moved 42 = .ok (.iinc 4 1, 3) := by decide +kernel
theorem dX11_moved_45 : decode cX11_moved 45 = .ok (.goto (-40), 3) := by decide +kernel
theorem dX11_moved_48 : decode cX11_moved 48 = .ok (.iload_n 3, 1) := by decide +kernel
theorem dX11_moved_49 : decode cX11_moved 49 = .ok (.ireturn, 1) := by decide +kernel
theorem dX11_timesOf_0 : decode cX11_timesOf 0 = .ok (.iconst 1, 1) := by decide +kernel
theorem dX11_timesOf_1 : decode cX11_timesOf 1 = .ok (.istore_n 2, 1) := by decide +kernel
theorem dX11_timesOf_2 : decode cX11_timesOf 2 = .ok (.iconst 0, 1) := by decide +kernel
theorem dX11_timesOf_3 : decode cX11_timesOf 3 = .ok (.istore_n 3, 1) := by decide +kernel
theorem dX11_timesOf_4 : decode cX11_timesOf 4 = .ok (.iload_n 3, 1) := by decide +kernel
theorem dX11_timesOf_5 : decode cX11_timesOf 5 = .ok (.aload_n 0, 1) := by decide +kernel
theorem dX11_timesOf_6 : decode cX11_timesOf 6 = .ok (.getfield 11, 3) := by decide +kernel
theorem dX11_timesOf_9 : decode cX11_timesOf 9 = .ok (.iconst 0, 1) := by decide +kernel
theorem dX11_timesOf_10 : decode cX11_timesOf 10 = .ok (.iaload, 1) := by decide +kernel
theorem dX11_timesOf_11 : decode cX11_timesOf 11 = .ok (.if_icmp .ge 53, 3) := by decide +kernel
theorem dX11_timesOf_14 : decode cX11_timesOf 14 = .ok (.iconst 1, 1) := by decide +kernel
theorem dX11_timesOf_15 : decode cX11_timesOf 15 = .ok (.istore 4, 2) := by decide +kernel
theorem dX11_timesOf_17 : decode cX11_timesOf 17 = .ok (.aload_n 0, 1) := by decide +kernel
theorem dX11_timesOf_18 : decode cX11_timesOf 18 = .ok (.iload_n 1, 1) := by decide +kernel
theorem dX11_timesOf_19 : decode cX11_timesOf 19 = .ok (.iload_n 3, 1) := by decide +kernel
theorem dX11_timesOf_20 : decode cX11_timesOf 20 = .ok (.invokevirtual 112, 3) := by decide +kernel
theorem dX11_timesOf_23 : decode cX11_timesOf 23 = .ok (.istore 5, 2) := by decide +kernel
theorem dX11_timesOf_25 : decode cX11_timesOf 25 = .ok (.iload 5, 2) := by decide +kernel
theorem dX11_timesOf_27 : decode cX11_timesOf 27 = .ok (.iload_n 3, 1) := by decide +kernel
theorem dX11_timesOf_28 : decode cX11_timesOf 28 = .ok (.if_icmp .eq 18, 3) := by decide +kernel
theorem dX11_timesOf_31 : decode cX11_timesOf 31 = .ok (.iinc 4 1, 3) := by decide +kernel
theorem dX11_timesOf_34 : decode cX11_timesOf 34 = .ok (.aload_n 0, 1) := by decide +kernel
theorem dX11_timesOf_35 : decode cX11_timesOf 35 = .ok (.iload_n 1, 1) := by decide +kernel
theorem dX11_timesOf_36 : decode cX11_timesOf 36 = .ok (.iload 5, 2) := by decide +kernel
theorem dX11_timesOf_38 : decode cX11_timesOf 38 = .ok (.invokevirtual 112, 3) := by decide +kernel
theorem dX11_timesOf_41 : decode cX11_timesOf 41 = .ok (.istore 5, 2) := by decide +kernel
theorem dX11_timesOf_43 : decode cX11_timesOf 43 = .ok (.goto (-18), 3) := by decide +kernel
theorem dX11_timesOf_46 : decode cX11_timesOf 46 = .ok (.iload_n 2, 1) := by decide +kernel
theorem dX11_timesOf_47 : decode cX11_timesOf 47 = .ok (.iload_n 2, 1) := by decide +kernel
theorem dX11_timesOf_48 : decode cX11_timesOf 48 = .ok (.iload 4, 2) := by decide +kernel
theorem dX11_timesOf_50 : decode cX11_timesOf 50 = .ok (.invokestatic 93, 3) := by decide +kernel
theorem dX11_timesOf_53 : decode cX11_timesOf 53 = .ok (.idiv, 1) := by decide +kernel
theorem dX11_timesOf_54 : decode cX11_timesOf 54 = .ok (.iload 4, 2) := by decide +kernel
theorem dX11_timesOf_56 : decode cX11_timesOf 56 = .ok (.imul, 1) := by decide +kernel
theorem dX11_timesOf_57 : decode cX11_timesOf 57 = .ok (.istore_n 2, 1) := by decide +kernel
theorem dX11_timesOf_58 : decode cX11_timesOf 58 = .ok (.iinc 3 1, 3) := by decide +kernel
theorem dX11_timesOf_61 : decode cX11_timesOf 61 = .ok (.goto (-57), 3) := by decide +kernel
theorem dX11_timesOf_64 : decode cX11_timesOf 64 = .ok (.iload_n 2, 1) := by decide +kernel
theorem dX11_timesOf_65 : decode cX11_timesOf 65 = .ok (.ireturn, 1) := by decide +kernel
theorem dX11_holds_0 : decode cX11_holds 0 = .ok (.iconst 0, 1) := by decide +kernel
theorem dX11_holds_1 : decode cX11_holds 1 = .ok (.istore_n 2, 1) := by decide +kernel
theorem dX11_holds_2 : decode cX11_holds 2 = .ok (.iload_n 2, 1) := by decide +kernel
theorem dX11_holds_3 : decode cX11_holds 3 = .ok (.aload_n 0, 1) := by decide +kernel
theorem dX11_holds_4 : decode cX11_holds 4 = .ok (.invokevirtual 81, 3) := by decide +kernel
theorem dX11_holds_7 : decode cX11_holds 7 = .ok (.if_icmp .gt 38, 3) := by decide +kernel
theorem dX11_holds_10 : decode cX11_holds 10 = .ok (.aload_n 0, 1) := by decide +kernel
theorem dX11_holds_11 : decode cX11_holds 11 = .ok (.getfield 20, 3) := by decide +kernel
theorem dX11_holds_14 : decode cX11_holds 14 = .ok (.iconst 0, 1) := by decide +kernel
theorem dX11_holds_15 : decode cX11_holds 15 = .ok (.aaload, 1) := by decide +kernel
theorem dX11_holds_16 : decode cX11_holds 16 = .ok (.iload_n 2, 1) := by decide +kernel
theorem dX11_holds_17 : decode cX11_holds 17 = .ok (.baload, 1) := by decide +kernel
theorem dX11_holds_18 : decode cX11_holds 18 = .ok (.ifCond .eq 21, 3) := by decide +kernel
theorem dX11_holds_21 : decode cX11_holds 21 = .ok (.aload_n 0, 1) := by decide +kernel
theorem dX11_holds_22 : decode cX11_holds 22 = .ok (.getfield 20, 3) := by decide +kernel
theorem dX11_holds_25 : decode cX11_holds 25 = .ok (.iconst 0, 1) := by decide +kernel
theorem dX11_holds_26 : decode cX11_holds 26 = .ok (.aaload, 1) := by decide +kernel
theorem dX11_holds_27 : decode cX11_holds 27 = .ok (.aload_n 0, 1) := by decide +kernel
theorem dX11_holds_28 : decode cX11_holds 28 = .ok (.iload_n 1, 1) := by decide +kernel
theorem dX11_holds_29 : decode cX11_holds 29 = .ok (.iload_n 2, 1) := by decide +kernel
theorem dX11_holds_30 : decode cX11_holds 30 = .ok (.invokevirtual 115, 3) := by decide +kernel
theorem dX11_holds_33 : decode cX11_holds 33 = .ok (.baload, 1) := by decide +kernel
theorem dX11_holds_34 : decode cX11_holds 34 = .ok (.ifCond .ne 5, 3) := by decide +kernel
theorem dX11_holds_37 : decode cX11_holds 37 = .ok (.iconst 0, 1) := by decide +kernel
theorem dX11_holds_38 : decode cX11_holds 38 = .ok (.ireturn, 1) := by decide +kernel
theorem dX11_holds_39 : decode cX11_holds 39 = .ok (.iinc 2 1, 3) := by decide +kernel
theorem dX11_holds_42 : decode cX11_holds 42 = .ok (.goto (-40), 3) := by decide +kernel
theorem dX11_holds_45 : decode cX11_holds 45 = .ok (.iconst 1, 1) := by decide +kernel
theorem dX11_holds_46 : decode cX11_holds 46 = .ok (.ireturn, 1) := by decide +kernel
theorem dX11_wayOf_0 : decode cX11_wayOf 0 = .ok (.aload_n 0, 1) := by decide +kernel
theorem dX11_wayOf_1 : decode cX11_wayOf 1 = .ok (.iload_n 1, 1) := by decide +kernel
theorem dX11_wayOf_2 : decode cX11_wayOf 2 = .ok (.invokevirtual 109, 3) := by decide +kernel
theorem dX11_wayOf_5 : decode cX11_wayOf 5 = .ok (.ifCond .eq 15, 3) := by decide +kernel
theorem dX11_wayOf_8 : decode cX11_wayOf 8 = .ok (.iload_n 2, 1) := by decide +kernel
theorem dX11_wayOf_9 : decode cX11_wayOf 9 = .ok (.i2l, 1) := by decide +kernel
theorem dX11_wayOf_10 : decode cX11_wayOf 10 = .ok (.lconst 0, 1) := by decide +kernel
theorem dX11_wayOf_11 : decode cX11_wayOf 11 = .ok (.ldc2_w 89, 3) := by decide +kernel
theorem dX11_wayOf_14 : decode cX11_wayOf 14 = .ok (.invokestatic 85, 3) := by decide +kernel
theorem dX11_wayOf_17 : decode cX11_wayOf 17 = .ok (.ifCond .ne 5, 3) := by decide +kernel
theorem dX11_wayOf_20 : decode cX11_wayOf 20 = .ok (.iconst (-1), 1) := by decide +kernel
theorem dX11_wayOf_21 : decode cX11_wayOf 21 = .ok (.ireturn, 1) := by decide +kernel
theorem dX11_wayOf_22 : decode cX11_wayOf 22 = .ok (.iload_n 2, 1) := by decide +kernel
theorem dX11_wayOf_23 : decode cX11_wayOf 23 = .ok (.ifCond .ne 14, 3) := by decide +kernel
theorem dX11_wayOf_26 : decode cX11_wayOf 26 = .ok (.aload_n 0, 1) := by decide +kernel
theorem dX11_wayOf_27 : decode cX11_wayOf 27 = .ok (.getfield 11, 3) := by decide +kernel
theorem dX11_wayOf_30 : decode cX11_wayOf 30 = .ok (.iconst 2, 1) := by decide +kernel
theorem dX11_wayOf_31 : decode cX11_wayOf 31 = .ok (.iload_n 1, 1) := by decide +kernel
theorem dX11_wayOf_32 : decode cX11_wayOf 32 = .ok (.iadd, 1) := by decide +kernel
theorem dX11_wayOf_33 : decode cX11_wayOf 33 = .ok (.iaload, 1) := by decide +kernel
theorem dX11_wayOf_34 : decode cX11_wayOf 34 = .ok (.goto 46, 3) := by decide +kernel
theorem dX11_wayOf_37 : decode cX11_wayOf 37 = .ok (.iload_n 2, 1) := by decide +kernel
theorem dX11_wayOf_38 : decode cX11_wayOf 38 = .ok (.iconst 1, 1) := by decide +kernel
theorem dX11_wayOf_39 : decode cX11_wayOf 39 = .ok (.if_icmp .ne 15, 3) := by decide +kernel
theorem dX11_wayOf_42 : decode cX11_wayOf 42 = .ok (.aload_n 0, 1) := by decide +kernel
theorem dX11_wayOf_43 : decode cX11_wayOf 43 = .ok (.getfield 11, 3) := by decide +kernel
theorem dX11_wayOf_46 : decode cX11_wayOf 46 = .ok (.bipush 6, 2) := by decide +kernel
theorem dX11_wayOf_48 : decode cX11_wayOf 48 = .ok (.iload_n 1, 1) := by decide +kernel
theorem dX11_wayOf_49 : decode cX11_wayOf 49 = .ok (.iadd, 1) := by decide +kernel
theorem dX11_wayOf_50 : decode cX11_wayOf 50 = .ok (.iaload, 1) := by decide +kernel
theorem dX11_wayOf_51 : decode cX11_wayOf 51 = .ok (.goto 29, 3) := by decide +kernel
theorem dX11_wayOf_54 : decode cX11_wayOf 54 = .ok (.iload_n 2, 1) := by decide +kernel
theorem dX11_wayOf_55 : decode cX11_wayOf 55 = .ok (.iconst 2, 1) := by decide +kernel
theorem dX11_wayOf_56 : decode cX11_wayOf 56 = .ok (.if_icmp .ne 19, 3) := by decide +kernel
theorem dX11_wayOf_59 : decode cX11_wayOf 59 = .ok (.aload_n 0, 1) := by decide +kernel
theorem dX11_wayOf_60 : decode cX11_wayOf 60 = .ok (.iload_n 1, 1) := by decide +kernel
theorem dX11_wayOf_61 : decode cX11_wayOf 61 = .ok (.invokevirtual 118, 3) := by decide +kernel
theorem dX11_wayOf_64 : decode cX11_wayOf 64 = .ok (.ifCond .eq 7, 3) := by decide +kernel
theorem dX11_wayOf_67 : decode cX11_wayOf 67 = .ok (.iconst 1, 1) := by decide +kernel
theorem dX11_wayOf_68 : decode cX11_wayOf 68 = .ok (.goto 12, 3) := by decide +kernel
theorem dX11_wayOf_71 : decode cX11_wayOf 71 = .ok (.iconst 0, 1) := by decide +kernel
theorem dX11_wayOf_72 : decode cX11_wayOf 72 = .ok (.goto 8, 3) := by decide +kernel
theorem dX11_wayOf_75 : decode cX11_wayOf 75 = .ok (.aload_n 0, 1) := by decide +kernel
theorem dX11_wayOf_76 : decode cX11_wayOf 76 = .ok (.iload_n 1, 1) := by decide +kernel
theorem dX11_wayOf_77 : decode cX11_wayOf 77 = .ok (.invokevirtual 121, 3) := by decide +kernel
theorem dX11_wayOf_80 : decode cX11_wayOf 80 = .ok (.ireturn, 1) := by decide +kernel
theorem dX11_takes_0 : decode cX11_takes 0 = .ok (.aload_n 0, 1) := by decide +kernel
theorem dX11_takes_1 : decode cX11_takes 1 = .ok (.iload_n 1, 1) := by decide +kernel
theorem dX11_takes_2 : decode cX11_takes 2 = .ok (.invokevirtual 109, 3) := by decide +kernel
theorem dX11_takes_5 : decode cX11_takes 5 = .ok (.ifCond .eq 20, 3) := by decide +kernel
theorem dX11_takes_8 : decode cX11_takes 8 = .ok (.aload_n 0, 1) := by decide +kernel
theorem dX11_takes_9 : decode cX11_takes 9 = .ok (.iload_n 2, 1) := by decide +kernel
theorem dX11_takes_10 : decode cX11_takes 10 = .ok (.invokevirtual 105, 3) := by decide +kernel
theorem dX11_takes_13 : decode cX11_takes 13 = .ok (.ifCond .eq 12, 3) := by decide +kernel
theorem dX11_takes_16 : decode cX11_takes 16 = .ok (.aload_n 0, 1) := by decide +kernel
theorem dX11_takes_17 : decode cX11_takes 17 = .ok (.iload_n 1, 1) := by decide +kernel
theorem dX11_takes_18 : decode cX11_takes 18 = .ok (.iload_n 2, 1) := by decide +kernel
theorem dX11_takes_19 : decode cX11_takes 19 = .ok (.invokevirtual 112, 3) := by decide +kernel
theorem dX11_takes_22 : decode cX11_takes 22 = .ok (.goto 4, 3) := by decide +kernel
theorem dX11_takes_25 : decode cX11_takes 25 = .ok (.iconst (-1), 1) := by decide +kernel
theorem dX11_takes_26 : decode cX11_takes 26 = .ok (.ireturn, 1) := by decide +kernel
theorem dX11_moves_0 : decode cX11_moves 0 = .ok (.aload_n 0, 1) := by decide +kernel
theorem dX11_moves_1 : decode cX11_moves 1 = .ok (.iload_n 1, 1) := by decide +kernel
theorem dX11_moves_2 : decode cX11_moves 2 = .ok (.invokevirtual 109, 3) := by decide +kernel
theorem dX11_moves_5 : decode cX11_moves 5 = .ok (.ifCond .eq 20, 3) := by decide +kernel
theorem dX11_moves_8 : decode cX11_moves 8 = .ok (.aload_n 0, 1) := by decide +kernel
theorem dX11_moves_9 : decode cX11_moves 9 = .ok (.iload_n 2, 1) := by decide +kernel
theorem dX11_moves_10 : decode cX11_moves 10 = .ok (.invokevirtual 125, 3) := by decide +kernel
theorem dX11_moves_13 : decode cX11_moves 13 = .ok (.ifCond .eq 12, 3) := by decide +kernel
theorem dX11_moves_16 : decode cX11_moves 16 = .ok (.aload_n 0, 1) := by decide +kernel
theorem dX11_moves_17 : decode cX11_moves 17 = .ok (.iload_n 1, 1) := by decide +kernel
theorem dX11_moves_18 : decode cX11_moves 18 = .ok (.iload_n 2, 1) := by decide +kernel
theorem dX11_moves_19 : decode cX11_moves 19 = .ok (.invokevirtual 115, 3) := by decide +kernel
theorem dX11_moves_22 : decode cX11_moves 22 = .ok (.goto 4, 3) := by decide +kernel
theorem dX11_moves_25 : decode cX11_moves 25 = .ok (.iconst (-1), 1) := by decide +kernel
theorem dX11_moves_26 : decode cX11_moves 26 = .ok (.ireturn, 1) := by decide +kernel
theorem dX11_order_0 : decode cX11_order 0 = .ok (.iconst 1, 1) := by decide +kernel
theorem dX11_order_1 : decode cX11_order 1 = .ok (.istore_n 1, 1) := by decide +kernel
theorem dX11_order_2 : decode cX11_order 2 = .ok (.aload_n 0, 1) := by decide +kernel
theorem dX11_order_3 : decode cX11_order 3 = .ok (.getfield 29, 3) := by decide +kernel
theorem dX11_order_6 : decode cX11_order 6 = .ok (.iconst 0, 1) := by decide +kernel
theorem dX11_order_7 : decode cX11_order 7 = .ok (.iconst 0, 1) := by decide +kernel
theorem dX11_order_8 : decode cX11_order 8 = .ok (.iastore, 1) := by decide +kernel
theorem dX11_order_9 : decode cX11_order 9 = .ok (.iconst 0, 1) := by decide +kernel
theorem dX11_order_10 : decode cX11_order 10 = .ok (.istore_n 2, 1) := by decide +kernel
theorem dX11_order_11 : decode cX11_order 11 = .ok (.iload_n 2, 1) := by decide +kernel
theorem dX11_order_12 : decode cX11_order 12 = .ok (.aload_n 0, 1) := by decide +kernel
theorem dX11_order_13 : decode cX11_order 13 = .ok (.getfield 11, 3) := by decide +kernel
theorem dX11_order_16 : decode cX11_order 16 = .ok (.iconst 0, 1) := by decide +kernel
theorem dX11_order_17 : decode cX11_order 17 = .ok (.iaload, 1) := by decide +kernel
theorem dX11_order_18 : decode cX11_order 18 = .ok (.if_icmp .ge 23, 3) := by decide +kernel
theorem dX11_order_21 : decode cX11_order 21 = .ok (.aload_n 0, 1) := by decide +kernel
theorem dX11_order_22 : decode cX11_order 22 = .ok (.getfield 29, 3) := by decide +kernel
theorem dX11_order_25 : decode cX11_order 25 = .ok (.iconst 0, 1) := by decide +kernel
theorem dX11_order_26 : decode cX11_order 26 = .ok (.dup2, 1) := by decide +kernel
theorem dX11_order_27 : decode cX11_order 27 = .ok (.iaload, 1) := by decide +kernel
theorem dX11_order_28 : decode cX11_order 28 = .ok (.iload_n 2, 1) := by decide +kernel
theorem dX11_order_29 : decode cX11_order 29 = .ok (.iconst 3, 1) := by decide +kernel
theorem dX11_order_30 : decode cX11_order 30 = .ok (.iload_n 2, 1) := by decide +kernel
theorem dX11_order_31 : decode cX11_order 31 = .ok (.imul, 1) := by decide +kernel
theorem dX11_order_32 : decode cX11_order 32 = .ok (.ishl, 1) := by decide +kernel
theorem dX11_order_33 : decode cX11_order 33 = .ok (.ior, 1) := by decide +kernel
theorem dX11_order_34 : decode cX11_order 34 = .ok (.iastore, 1) := by decide +kernel
theorem dX11_order_35 : decode cX11_order 35 = .ok (.iinc 2 1, 3) := by decide +kernel
theorem dX11_order_38 : decode cX11_order 38 = .ok (.goto (-27), 3) := by decide +kernel
theorem dX11_order_41 : decode cX11_order 41 = .ok (.iconst 0, 1) := by decide +kernel
theorem dX11_order_42 : decode cX11_order 42 = .ok (.istore_n 2, 1) := by decide +kernel
theorem dX11_order_43 : decode cX11_order 43 = .ok (.iload_n 2, 1) := by decide +kernel
theorem dX11_order_44 : decode cX11_order 44 = .ok (.iload_n 1, 1) := by decide +kernel
theorem dX11_order_45 : decode cX11_order 45 = .ok (.if_icmp .ge 134, 3) := by decide +kernel
theorem dX11_order_48 : decode cX11_order 48 = .ok (.iconst 0, 1) := by decide +kernel
theorem dX11_order_49 : decode cX11_order 49 = .ok (.istore_n 3, 1) := by decide +kernel
theorem dX11_order_50 : decode cX11_order 50 = .ok (.iload_n 3, 1) := by decide +kernel
theorem dX11_order_51 : decode cX11_order 51 = .ok (.aload_n 0, 1) := by decide +kernel
theorem dX11_order_52 : decode cX11_order 52 = .ok (.getfield 11, 3) := by decide +kernel
theorem dX11_order_55 : decode cX11_order 55 = .ok (.iconst 1, 1) := by decide +kernel
theorem dX11_order_56 : decode cX11_order 56 = .ok (.iaload, 1) := by decide +kernel
theorem dX11_order_57 : decode cX11_order 57 = .ok (.if_icmp .ge 116, 3) := by decide +kernel
theorem dX11_order_60 : decode cX11_order 60 = .ok (.iconst 0, 1) := by decide +kernel
theorem dX11_order_61 : decode cX11_order 61 = .ok (.istore 4, 2) := by decide +kernel
theorem dX11_order_63 : decode cX11_order 63 = .ok (.iconst 0, 1) := by decide +kernel
theorem dX11_order_64 : decode cX11_order 64 = .ok (.istore 5, 2) := by decide +kernel
theorem dX11_order_66 : decode cX11_order 66 = .ok (.iload 5, 2) := by decide +kernel
theorem dX11_order_68 : decode cX11_order 68 = .ok (.aload_n 0, 1) := by decide +kernel
theorem dX11_order_69 : decode cX11_order 69 = .ok (.getfield 11, 3) := by decide +kernel
theorem dX11_order_72 : decode cX11_order 72 = .ok (.iconst 0, 1) := by decide +kernel
theorem dX11_order_73 : decode cX11_order 73 = .ok (.iaload, 1) := by decide +kernel
theorem dX11_order_74 : decode cX11_order 74 = .ok (.if_icmp .ge 38, 3) := by decide +kernel
theorem dX11_order_77 : decode cX11_order 77 = .ok (.iload 4, 2) := by decide +kernel
theorem dX11_order_79 : decode cX11_order 79 = .ok (.aload_n 0, 1) := by decide +kernel
theorem dX11_order_80 : decode cX11_order 80 = .ok (.iload_n 3, 1) := by decide +kernel
theorem dX11_order_81 : decode cX11_order 81 = .ok (.aload_n 0, 1) := by decide +kernel
theorem dX11_order_82 : decode cX11_order 82 = .ok (.getfield 29, 3) := by decide +kernel
theorem dX11_order_85 : decode cX11_order 85 = .ok (.iload_n 2, 1) := by decide +kernel
theorem dX11_order_86 : decode cX11_order 86 = .ok (.iaload, 1) := by decide +kernel
theorem dX11_order_87 : decode cX11_order 87 = .ok (.iconst 3, 1) := by decide +kernel
theorem dX11_order_88 : decode cX11_order 88 = .ok (.iload 5, 2) := by decide +kernel
theorem dX11_order_90 : decode cX11_order 90 = .ok (.imul, 1) := by decide +kernel
theorem dX11_order_91 : decode cX11_order 91 = .ok (.ishr, 1) := by decide +kernel
theorem dX11_order_92 : decode cX11_order 92 = .ok (.bipush 7, 2) := by decide +kernel
theorem dX11_order_94 : decode cX11_order 94 = .ok (.iand, 1) := by decide +kernel
theorem dX11_order_95 : decode cX11_order 95 = .ok (.invokevirtual 112, 3) := by decide +kernel
theorem dX11_order_98 : decode cX11_order 98 = .ok (.iconst 3, 1) := by decide +kernel
theorem dX11_order_99 : decode cX11_order 99 = .ok (.iload 5, 2) := by decide +kernel
theorem dX11_order_101 : decode cX11_order 101 = .ok (.imul, 1) := by decide +kernel
theorem dX11_order_102 : decode cX11_order 102 = .ok (.ishl, 1) := by decide +kernel
theorem dX11_order_103 : decode cX11_order 103 = .ok (.ior, 1) := by decide +kernel
theorem dX11_order_104 : decode cX11_order 104 = .ok (.istore 4, 2) := by decide +kernel
theorem dX11_order_106 : decode cX11_order 106 = .ok (.iinc 5 1, 3) := by decide +kernel
theorem dX11_order_109 : decode cX11_order 109 = .ok (.goto (-43), 3) := by decide +kernel
theorem dX11_order_112 : decode cX11_order 112 = .ok (.iconst 0, 1) := by decide +kernel
theorem dX11_order_113 : decode cX11_order 113 = .ok (.istore 5, 2) := by decide +kernel
theorem dX11_order_115 : decode cX11_order 115 = .ok (.iload 5, 2) := by decide +kernel
theorem dX11_order_117 : decode cX11_order 117 = .ok (.iload_n 1, 1) := by decide +kernel
theorem dX11_order_118 : decode cX11_order 118 = .ok (.if_icmp .ge 21, 3) := by decide +kernel
theorem dX11_order_121 : decode cX11_order 121 = .ok (.aload_n 0, 1) := by decide +kernel
theorem dX11_order_122 : decode cX11_order 122 = .ok (.getfield 29, 3) := by decide +kernel
theorem dX11_order_125 : decode cX11_order 125 = .ok (.iload 5, 2) := by decide +kernel
theorem dX11_order_127 : decode cX11_order 127 = .ok (.iaload, 1) := by decide +kernel
theorem dX11_order_128 : decode cX11_order 128 = .ok (.iload 4, 2) := by decide +kernel
theorem dX11_order_130 : decode cX11_order 130 = .ok (.if_icmp .eq 9, 3) := by decide +kernel
theorem dX11_order_133 : decode cX11_order 133 = .ok (.iinc 5 1, 3) := by decide +kernel
theorem dX11_order_136 : decode cX11_order 136 = .ok (.goto (-21), 3) := by decide +kernel
theorem dX11_order_139 : decode cX11_order 139 = .ok (.iload 5, 2) := by decide +kernel
theorem dX11_order_141 : decode cX11_order 141 = .ok (.iload_n 1, 1) := by decide +kernel
theorem dX11_order_142 : decode cX11_order 142 = .ok (.if_icmp .ne 25, 3) := by decide +kernel
theorem dX11_order_145 : decode cX11_order 145 = .ok (.iload_n 1, 1) := by decide +kernel
theorem dX11_order_146 : decode cX11_order 146 = .ok (.sipush 500, 3) := by decide +kernel
theorem dX11_order_149 : decode cX11_order 149 = .ok (.if_icmp .ne 7, 3) := by decide +kernel
theorem dX11_order_152 : decode cX11_order 152 = .ok (.sipush 500, 3) := by decide +kernel
theorem dX11_order_155 : decode cX11_order 155 = .ok (.ireturn, 1) := by decide +kernel
theorem dX11_order_156 : decode cX11_order 156 = .ok (.aload_n 0, 1) := by decide +kernel
theorem dX11_order_157 : decode cX11_order 157 = .ok (.getfield 29, 3) := by decide +kernel
theorem dX11_order_160 : decode cX11_order 160 = .ok (.iload_n 1, 1) := by decide +kernel
theorem dX11_order_161 : decode cX11_order 161 = .ok (.iload 4, 2) := by decide +kernel
theorem dX11_order_163 : decode cX11_order 163 = .ok (.iastore, 1) := by decide +kernel
theorem dX11_order_164 : decode cX11_order 164 = .ok (.iinc 1 1, 3) := by decide +kernel
theorem dX11_order_167 : decode cX11_order 167 = .ok (.iinc 3 1, 3) := by decide +kernel
theorem dX11_order_170 : decode cX11_order 170 = .ok (.goto (-120), 3) := by decide +kernel
theorem dX11_order_173 : decode cX11_order 173 = .ok (.iinc 2 1, 3) := by decide +kernel
theorem dX11_order_176 : decode cX11_order 176 = .ok (.goto (-133), 3) := by decide +kernel
theorem dX11_order_179 : decode cX11_order 179 = .ok (.iload_n 1, 1) := by decide +kernel
theorem dX11_order_180 : decode cX11_order 180 = .ok (.ireturn, 1) := by decide +kernel
theorem dX11_finds_0 : decode cX11_finds 0 = .ok (.iconst 0, 1) := by decide +kernel
theorem dX11_finds_1 : decode cX11_finds 1 = .ok (.istore_n 1, 1) := by decide +kernel
theorem dX11_finds_2 : decode cX11_finds 2 = .ok (.iload_n 1, 1) := by decide +kernel
theorem dX11_finds_3 : decode cX11_finds 3 = .ok (.aload_n 0, 1) := by decide +kernel
theorem dX11_finds_4 : decode cX11_finds 4 = .ok (.invokevirtual 81, 3) := by decide +kernel
theorem dX11_finds_7 : decode cX11_finds 7 = .ok (.if_icmp .gt 16, 3) := by decide +kernel
theorem dX11_finds_10 : decode cX11_finds 10 = .ok (.aload_n 0, 1) := by decide +kernel
theorem dX11_finds_11 : decode cX11_finds 11 = .ok (.getfield 32, 3) := by decide +kernel
theorem dX11_finds_14 : decode cX11_finds 14 = .ok (.iload_n 1, 1) := by decide +kernel
theorem dX11_finds_15 : decode cX11_finds 15 = .ok (.iconst (-1), 1) := by decide +kernel
theorem dX11_finds_16 : decode cX11_finds 16 = .ok (.iastore, 1) := by decide +kernel
theorem dX11_finds_17 : decode cX11_finds 17 = .ok (.iinc 1 1, 3) := by decide +kernel
theorem dX11_finds_20 : decode cX11_finds 20 = .ok (.goto (-18), 3) := by decide +kernel
theorem dX11_finds_23 : decode cX11_finds 23 = .ok (.iconst 0, 1) := by decide +kernel
theorem dX11_finds_24 : decode cX11_finds 24 = .ok (.istore_n 1, 1) := by decide +kernel
theorem dX11_finds_25 : decode cX11_finds 25 = .ok (.iload_n 1, 1) := by decide +kernel
theorem dX11_finds_26 : decode cX11_finds 26 = .ok (.aload_n 0, 1) := by decide +kernel
theorem dX11_finds_27 : decode cX11_finds 27 = .ok (.getfield 11, 3) := by decide +kernel
theorem dX11_finds_30 : decode cX11_finds 30 = .ok (.iconst 0, 1) := by decide +kernel
theorem dX11_finds_31 : decode cX11_finds 31 = .ok (.iaload, 1) := by decide +kernel
theorem dX11_finds_32 : decode cX11_finds 32 = .ok (.if_icmp .gt 16, 3) := by decide +kernel
theorem dX11_finds_35 : decode cX11_finds 35 = .ok (.aload_n 0, 1) := by decide +kernel
theorem dX11_finds_36 : decode cX11_finds 36 = .ok (.getfield 35, 3) := by decide +kernel
theorem dX11_finds_39 : decode cX11_finds 39 = .ok (.iload_n 1, 1) := by decide +kernel
theorem dX11_finds_40 : decode cX11_finds 40 = .ok (.iconst 0, 1) := by decide +kernel
theorem dX11_finds_41 : decode cX11_finds 41 = .ok (.iastore, 1) := by decide +kernel
theorem dX11_finds_42 : decode cX11_finds 42 = .ok (.iinc 1 1, 3) := by decide +kernel
theorem dX11_finds_45 : decode cX11_finds 45 = .ok (.goto (-20), 3) := by decide +kernel
theorem dX11_finds_48 : decode cX11_finds 48 = .ok (.iconst 0, 1) := by decide +kernel
theorem dX11_finds_49 : decode cX11_finds 49 = .ok (.istore_n 1, 1) := by decide +kernel
theorem dX11_finds_50 : decode cX11_finds 50 = .ok (.iload_n 1, 1) := by decide +kernel
theorem dX11_finds_51 : decode cX11_finds 51 = .ok (.aload_n 0, 1) := by decide +kernel
theorem dX11_finds_52 : decode cX11_finds 52 = .ok (.invokevirtual 81, 3) := by decide +kernel
theorem dX11_finds_55 : decode cX11_finds 55 = .ok (.if_icmp .gt 136, 3) := by decide +kernel
theorem dX11_finds_58 : decode cX11_finds 58 = .ok (.aload_n 0, 1) := by decide +kernel
theorem dX11_finds_59 : decode cX11_finds 59 = .ok (.getfield 32, 3) := by decide +kernel
theorem dX11_finds_62 : decode cX11_finds 62 = .ok (.iload_n 1, 1) := by decide +kernel
theorem dX11_finds_63 : decode cX11_finds 63 = .ok (.iaload, 1) := by decide +kernel
theorem dX11_finds_64 : decode cX11_finds 64 = .ok (.ifCond .ge 121, 3) := by decide +kernel
theorem dX11_finds_67 : decode cX11_finds 67 = .ok (.aload_n 0, 1) := by decide +kernel
theorem dX11_finds_68 : decode cX11_finds 68 = .ok (.getfield 35, 3) := by decide +kernel
theorem dX11_finds_71 : decode cX11_finds 71 = .ok (.iload_n 1, 1) := by decide +kernel
theorem dX11_finds_72 : decode cX11_finds 72 = .ok (.invokestatic 128, 3) := by decide +kernel
theorem dX11_finds_75 : decode cX11_finds 75 = .ok (.iaload, 1) := by decide +kernel
theorem dX11_finds_76 : decode cX11_finds 76 = .ok (.istore_n 2, 1) := by decide +kernel
theorem dX11_finds_77 : decode cX11_finds 77 = .ok (.aload_n 0, 1) := by decide +kernel
theorem dX11_finds_78 : decode cX11_finds 78 = .ok (.getfield 35, 3) := by decide +kernel
theorem dX11_finds_81 : decode cX11_finds 81 = .ok (.iload_n 1, 1) := by decide +kernel
theorem dX11_finds_82 : decode cX11_finds 82 = .ok (.invokestatic 128, 3) := by decide +kernel
theorem dX11_finds_85 : decode cX11_finds 85 = .ok (.dup2, 1) := by decide +kernel
theorem dX11_finds_86 : decode cX11_finds 86 = .ok (.iaload, 1) := by decide +kernel
theorem dX11_finds_87 : decode cX11_finds 87 = .ok (.iconst 1, 1) := by decide +kernel
theorem dX11_finds_88 : decode cX11_finds 88 = .ok (.iadd, 1) := by decide +kernel
theorem dX11_finds_89 : decode cX11_finds 89 = .ok (.iastore, 1) := by decide +kernel
theorem dX11_finds_90 : decode cX11_finds 90 = .ok (.aload_n 0, 1) := by decide +kernel
theorem dX11_finds_91 : decode cX11_finds 91 = .ok (.getfield 32, 3) := by decide +kernel
theorem dX11_finds_94 : decode cX11_finds 94 = .ok (.iload_n 1, 1) := by decide +kernel
theorem dX11_finds_95 : decode cX11_finds 95 = .ok (.iload_n 2, 1) := by decide +kernel
theorem dX11_finds_96 : decode cX11_finds 96 = .ok (.iastore, 1) := by decide +kernel
theorem dX11_finds_97 : decode cX11_finds 97 = .ok (.aload_n 0, 1) := by decide +kernel
theorem dX11_finds_98 : decode cX11_finds 98 = .ok (.getfield 38, 3) := by decide +kernel
theorem dX11_finds_101 : decode cX11_finds 101 = .ok (.iconst 0, 1) := by decide +kernel
theorem dX11_finds_102 : decode cX11_finds 102 = .ok (.iload_n 1, 1) := by decide +kernel
theorem dX11_finds_103 : decode cX11_finds 103 = .ok (.iastore, 1) := by decide +kernel
theorem dX11_finds_104 : decode cX11_finds 104 = .ok (.iconst 1, 1) := by decide +kernel
theorem dX11_finds_105 : decode cX11_finds 105 = .ok (.istore_n 3, 1) := by decide +kernel
theorem dX11_finds_106 : decode cX11_finds 106 = .ok (.iconst 0, 1) := by decide +kernel
theorem dX11_finds_107 : decode cX11_finds 107 = .ok (.istore 4, 2) := by decide +kernel
theorem dX11_finds_109 : decode cX11_finds 109 = .ok (.iload 4, 2) := by decide +kernel
theorem dX11_finds_111 : decode cX11_finds 111 = .ok (.iload_n 3, 1) := by decide +kernel
theorem dX11_finds_112 : decode cX11_finds 112 = .ok (.if_icmp .ge 73, 3) := by decide +kernel
theorem dX11_finds_115 : decode cX11_finds 115 = .ok (.iconst 0, 1) := by decide +kernel
theorem dX11_finds_116 : decode cX11_finds 116 = .ok (.istore 5, 2) := by decide +kernel
theorem dX11_finds_118 : decode cX11_finds 118 = .ok (.iload 5, 2) := by decide +kernel
theorem dX11_finds_120 : decode cX11_finds 120 = .ok (.aload_n 0, 1) := by decide +kernel
theorem dX11_finds_121 : decode cX11_finds 121 = .ok (.getfield 11, 3) := by decide +kernel
theorem dX11_finds_124 : decode cX11_finds 124 = .ok (.iconst 1, 1) := by decide +kernel
theorem dX11_finds_125 : decode cX11_finds 125 = .ok (.iaload, 1) := by decide +kernel
theorem dX11_finds_126 : decode cX11_finds 126 = .ok (.if_icmp .ge 53, 3) := by decide +kernel
theorem dX11_finds_129 : decode cX11_finds 129 = .ok (.aload_n 0, 1) := by decide +kernel
theorem dX11_finds_130 : decode cX11_finds 130 = .ok (.iload 5, 2) := by decide +kernel
theorem dX11_finds_132 : decode cX11_finds 132 = .ok (.aload_n 0, 1) := by decide +kernel
theorem dX11_finds_133 : decode cX11_finds 133 = .ok (.getfield 38, 3) := by decide +kernel
theorem dX11_finds_136 : decode cX11_finds 136 = .ok (.iload 4, 2) := by decide +kernel
theorem dX11_finds_138 : decode cX11_finds 138 = .ok (.iaload, 1) := by decide +kernel
theorem dX11_finds_139 : decode cX11_finds 139 = .ok (.invokevirtual 115, 3) := by decide +kernel
theorem dX11_finds_142 : decode cX11_finds 142 = .ok (.istore 6, 2) := by decide +kernel
theorem dX11_finds_144 : decode cX11_finds 144 = .ok (.aload_n 0, 1) := by decide +kernel
theorem dX11_finds_145 : decode cX11_finds 145 = .ok (.getfield 32, 3) := by decide +kernel
theorem dX11_finds_148 : decode cX11_finds 148 = .ok (.iload 6, 2) := by decide +kernel
theorem dX11_finds_150 : decode cX11_finds 150 = .ok (.iaload, 1) := by decide +kernel
theorem dX11_finds_151 : decode cX11_finds 151 = .ok (.ifCond .ge 22, 3) := by decide +kernel
theorem dX11_finds_154 : decode cX11_finds 154 = .ok (.aload_n 0, 1) := by decide +kernel
theorem dX11_finds_155 : decode cX11_finds 155 = .ok (.getfield 32, 3) := by decide +kernel
theorem dX11_finds_158 : decode cX11_finds 158 = .ok (.iload 6, 2) := by decide +kernel
theorem dX11_finds_160 : decode cX11_finds 160 = .ok (.iload_n 2, 1) := by decide +kernel
theorem dX11_finds_161 : decode cX11_finds 161 = .ok (.iastore, 1) := by decide +kernel
theorem dX11_finds_162 : decode cX11_finds 162 = .ok (.aload_n 0, 1) := by decide +kernel
theorem dX11_finds_163 : decode cX11_finds 163 = .ok (.getfield 38, 3) := by decide +kernel
theorem dX11_finds_166 : decode cX11_finds 166 = .ok (.iload_n 3, 1) := by decide +kernel
theorem dX11_finds_167 : decode cX11_finds 167 = .ok (.iload 6, 2) := by decide +kernel
theorem dX11_finds_169 : decode cX11_finds 169 = .ok (.iastore, 1) := by decide +kernel
theorem dX11_finds_170 : decode cX11_finds 170 = .ok (.iinc 3 1, 3) := by decide +kernel
theorem dX11_finds_173 : decode cX11_finds 173 = .ok (.iinc 5 1, 3) := by decide +kernel
theorem dX11_finds_176 : decode cX11_finds 176 = .ok (.goto (-58), 3) := by decide +kernel
theorem dX11_finds_179 : decode cX11_finds 179 = .ok (.iinc 4 1, 3) := by decide +kernel
theorem dX11_finds_182 : decode cX11_finds 182 = .ok (.goto (-73), 3) := by decide +kernel
theorem dX11_finds_185 : decode cX11_finds 185 = .ok (.iinc 1 1, 3) := by decide +kernel
theorem dX11_finds_188 : decode cX11_finds 188 = .ok (.goto (-138), 3) := by decide +kernel
theorem dX11_finds_191 : decode cX11_finds 191 = .ok (.return_, 1) := by decide +kernel
theorem dX11_isSize_0 : decode cX11_isSize 0 = .ok (.iload_n 1, 1) := by decide +kernel
theorem dX11_isSize_1 : decode cX11_isSize 1 = .ok (.i2l, 1) := by decide +kernel
theorem dX11_isSize_2 : decode cX11_isSize 2 = .ok (.lconst 0, 1) := by decide +kernel
theorem dX11_isSize_3 : decode cX11_isSize 3 = .ok (.aload_n 0, 1) := by decide +kernel
theorem dX11_isSize_4 : decode cX11_isSize 4 = .ok (.getfield 11, 3) := by decide +kernel
theorem dX11_isSize_7 : decode cX11_isSize 7 = .ok (.iconst 0, 1) := by decide +kernel
theorem dX11_isSize_8 : decode cX11_isSize 8 = .ok (.iaload, 1) := by decide +kernel
theorem dX11_isSize_9 : decode cX11_isSize 9 = .ok (.i2l, 1) := by decide +kernel
theorem dX11_isSize_10 : decode cX11_isSize 10 = .ok (.invokestatic 85, 3) := by decide +kernel
theorem dX11_isSize_13 : decode cX11_isSize 13 = .ok (.ireturn, 1) := by decide +kernel
theorem dX11_orbits_0 : decode cX11_orbits 0 = .ok (.aload_n 0, 1) := by decide +kernel
theorem dX11_orbits_1 : decode cX11_orbits 1 = .ok (.iload_n 1, 1) := by decide +kernel
theorem dX11_orbits_2 : decode cX11_orbits 2 = .ok (.invokevirtual 131, 3) := by decide +kernel
theorem dX11_orbits_5 : decode cX11_orbits 5 = .ok (.ifCond .ne 6, 3) := by decide +kernel
theorem dX11_orbits_8 : decode cX11_orbits 8 = .ok (.bipush (-2), 2) := by decide +kernel
theorem dX11_orbits_10 : decode cX11_orbits 10 = .ok (.ireturn, 1) := by decide +kernel
theorem dX11_orbits_11 : decode cX11_orbits 11 = .ok (.aload_n 0, 1) := by decide +kernel
theorem dX11_orbits_12 : decode cX11_orbits 12 = .ok (.invokevirtual 134, 3) := by decide +kernel
theorem dX11_orbits_15 : decode cX11_orbits 15 = .ok (.aload_n 0, 1) := by decide +kernel
theorem dX11_orbits_16 : decode cX11_orbits 16 = .ok (.getfield 35, 3) := by decide +kernel
theorem dX11_orbits_19 : decode cX11_orbits 19 = .ok (.iload_n 1, 1) := by decide +kernel
theorem dX11_orbits_20 : decode cX11_orbits 20 = .ok (.iaload, 1) := by decide +kernel
theorem dX11_orbits_21 : decode cX11_orbits 21 = .ok (.ireturn, 1) := by decide +kernel
theorem dX11_isIn_0 : decode cX11_isIn 0 = .ok (.iload_n 1, 1) := by decide +kernel
theorem dX11_isIn_1 : decode cX11_isIn 1 = .ok (.invokestatic 128, 3) := by decide +kernel
theorem dX11_isIn_4 : decode cX11_isIn 4 = .ok (.iload_n 2, 1) := by decide +kernel
theorem dX11_isIn_5 : decode cX11_isIn 5 = .ok (.if_icmp .ne 17, 3) := by decide +kernel
theorem dX11_isIn_8 : decode cX11_isIn 8 = .ok (.aload_n 0, 1) := by decide +kernel
theorem dX11_isIn_9 : decode cX11_isIn 9 = .ok (.getfield 32, 3) := by decide +kernel
theorem dX11_isIn_12 : decode cX11_isIn 12 = .ok (.iload_n 1, 1) := by decide +kernel
theorem dX11_isIn_13 : decode cX11_isIn 13 = .ok (.iaload, 1) := by decide +kernel
theorem dX11_isIn_14 : decode cX11_isIn 14 = .ok (.iload_n 3, 1) := by decide +kernel
theorem dX11_isIn_15 : decode cX11_isIn 15 = .ok (.if_icmp .ne 7, 3) := by decide +kernel
theorem dX11_isIn_18 : decode cX11_isIn 18 = .ok (.iconst 1, 1) := by decide +kernel
