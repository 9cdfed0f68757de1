theorem dX11_isIn_19 : decode cX11_isIn 19 = .ok (.goto 4, 3) := by decide +kernel
theorem dX11_isIn_22 : decode cX11_isIn 22 = .ok (.iconst 0, 1) := by decide +kernel
theorem dX11_isIn_23 : decode cX11_isIn 23 = .ok (.ireturn, 1) := by decide +kernel
theorem dX11_least_0 : decode cX11_least 0 = .ok (.iconst 0, 1) := by decide +kernel
theorem dX11_least_1 : decode cX11_least 1 = .ok (.istore_n 3, 1) := by decide +kernel
theorem dX11_least_2 : decode cX11_least 2 = .ok (.aload_n 0, 1) := by decide +kernel
theorem dX11_least_3 : decode cX11_least 3 = .ok (.iload_n 3, 1) := by decide +kernel
theorem dX11_least_4 : decode cX11_least 4 = .ok (.iload_n 1, 1) := by decide +kernel
theorem dX11_least_5 : decode cX11_least 5 = .ok (.iload_n 2, 1) := by decide +kernel
theorem dX11_least_6 : decode cX11_least 6 = .ok (.invokevirtual 137, 3) := by decide +kernel
theorem dX11_least_9 : decode cX11_least 9 = .ok (.ifCond .ne 9, 3) := by decide +kernel
theorem dX11_least_12 : decode cX11_least 12 = .ok (.iinc 3 1, 3) := by decide +kernel
theorem dX11_least_15 : decode cX11_least 15 = .ok (.goto (-13), 3) := by decide +kernel
theorem dX11_least_18 : decode cX11_least 18 = .ok (.iload_n 3, 1) := by decide +kernel
theorem dX11_least_19 : decode cX11_least 19 = .ok (.ireturn, 1) := by decide +kernel
theorem dX11_orbit_0 : decode cX11_orbit 0 = .ok (.aload_n 0, 1) := by decide +kernel
theorem dX11_orbit_1 : decode cX11_orbit 1 = .ok (.iload_n 1, 1) := by decide +kernel
theorem dX11_orbit_2 : decode cX11_orbit 2 = .ok (.invokevirtual 131, 3) := by decide +kernel
theorem dX11_orbit_5 : decode cX11_orbit 5 = .ok (.ifCond .ne 6, 3) := by decide +kernel
theorem dX11_orbit_8 : decode cX11_orbit 8 = .ok (.bipush (-2), 2) := by decide +kernel
theorem dX11_orbit_10 : decode cX11_orbit 10 = .ok (.ireturn, 1) := by decide +kernel
theorem dX11_orbit_11 : decode cX11_orbit 11 = .ok (.aload_n 0, 1) := by decide +kernel
theorem dX11_orbit_12 : decode cX11_orbit 12 = .ok (.invokevirtual 134, 3) := by decide +kernel
theorem dX11_orbit_15 : decode cX11_orbit 15 = .ok (.iload_n 2, 1) := by decide +kernel
theorem dX11_orbit_16 : decode cX11_orbit 16 = .ok (.i2l, 1) := by decide +kernel
theorem dX11_orbit_17 : decode cX11_orbit 17 = .ok (.lconst 0, 1) := by decide +kernel
theorem dX11_orbit_18 : decode cX11_orbit 18 = .ok (.aload_n 0, 1) := by decide +kernel
theorem dX11_orbit_19 : decode cX11_orbit 19 = .ok (.getfield 35, 3) := by decide +kernel
theorem dX11_orbit_22 : decode cX11_orbit 22 = .ok (.iload_n 1, 1) := by decide +kernel
theorem dX11_orbit_23 : decode cX11_orbit 23 = .ok (.iaload, 1) := by decide +kernel
theorem dX11_orbit_24 : decode cX11_orbit 24 = .ok (.iconst 1, 1) := by decide +kernel
theorem dX11_orbit_25 : decode cX11_orbit 25 = .ok (.isub, 1) := by decide +kernel
theorem dX11_orbit_26 : decode cX11_orbit 26 = .ok (.i2l, 1) := by decide +kernel
theorem dX11_orbit_27 : decode cX11_orbit 27 = .ok (.invokestatic 85, 3) := by decide +kernel
theorem dX11_orbit_30 : decode cX11_orbit 30 = .ok (.ifCond .eq 15, 3) := by decide +kernel
theorem dX11_orbit_33 : decode cX11_orbit 33 = .ok (.iload_n 3, 1) := by decide +kernel
theorem dX11_orbit_34 : decode cX11_orbit 34 = .ok (.i2l, 1) := by decide +kernel
theorem dX11_orbit_35 : decode cX11_orbit 35 = .ok (.lconst 0, 1) := by decide +kernel
theorem dX11_orbit_36 : decode cX11_orbit 36 = .ok (.ldc2_w 141, 3) := by decide +kernel
theorem dX11_orbit_39 : decode cX11_orbit 39 = .ok (.invokestatic 85, 3) := by decide +kernel
theorem dX11_orbit_42 : decode cX11_orbit 42 = .ok (.ifCond .ne 5, 3) := by decide +kernel
theorem dX11_orbit_45 : decode cX11_orbit 45 = .ok (.iconst (-1), 1) := by decide +kernel
theorem dX11_orbit_46 : decode cX11_orbit 46 = .ok (.ireturn, 1) := by decide +kernel
theorem dX11_orbit_47 : decode cX11_orbit 47 = .ok (.iconst 0, 1) := by decide +kernel
theorem dX11_orbit_48 : decode cX11_orbit 48 = .ok (.istore 4, 2) := by decide +kernel
theorem dX11_orbit_50 : decode cX11_orbit 50 = .ok (.iconst 0, 1) := by decide +kernel
theorem dX11_orbit_51 : decode cX11_orbit 51 = .ok (.istore 5, 2) := by decide +kernel
theorem dX11_orbit_53 : decode cX11_orbit 53 = .ok (.iconst 0, 1) := by decide +kernel
theorem dX11_orbit_54 : decode cX11_orbit 54 = .ok (.istore 6, 2) := by decide +kernel
theorem dX11_orbit_56 : decode cX11_orbit 56 = .ok (.iload 6, 2) := by decide +kernel
theorem dX11_orbit_58 : decode cX11_orbit 58 = .ok (.aload_n 0, 1) := by decide +kernel
theorem dX11_orbit_59 : decode cX11_orbit 59 = .ok (.invokevirtual 81, 3) := by decide +kernel
theorem dX11_orbit_62 : decode cX11_orbit 62 = .ok (.if_icmp .gt 27, 3) := by decide +kernel
theorem dX11_orbit_65 : decode cX11_orbit 65 = .ok (.aload_n 0, 1) := by decide +kernel
theorem dX11_orbit_66 : decode cX11_orbit 66 = .ok (.iload 6, 2) := by decide +kernel
theorem dX11_orbit_68 : decode cX11_orbit 68 = .ok (.iload_n 1, 1) := by decide +kernel
theorem dX11_orbit_69 : decode cX11_orbit 69 = .ok (.iload_n 2, 1) := by decide +kernel
theorem dX11_orbit_70 : decode cX11_orbit 70 = .ok (.invokevirtual 137, 3) := by decide +kernel
theorem dX11_orbit_73 : decode cX11_orbit 73 = .ok (.ifCond .eq 10, 3) := by decide +kernel
theorem dX11_orbit_76 : decode cX11_orbit 76 = .ok (.iinc 4 1, 3) := by decide +kernel
theorem dX11_orbit_79 : decode cX11_orbit 79 = .ok (.iload 6, 2) := by decide +kernel
theorem dX11_orbit_81 : decode cX11_orbit 81 = .ok (.istore 5, 2) := by decide +kernel
theorem dX11_orbit_83 : decode cX11_orbit 83 = .ok (.iinc 6 1, 3) := by decide +kernel
theorem dX11_orbit_86 : decode cX11_orbit 86 = .ok (.goto (-30), 3) := by decide +kernel
theorem dX11_orbit_89 : decode cX11_orbit 89 = .ok (.iload_n 3, 1) := by decide +kernel
theorem dX11_orbit_90 : decode cX11_orbit 90 = .ok (.ifCond .ne 12, 3) := by decide +kernel
theorem dX11_orbit_93 : decode cX11_orbit 93 = .ok (.aload_n 0, 1) := by decide +kernel
theorem dX11_orbit_94 : decode cX11_orbit 94 = .ok (.iload_n 1, 1) := by decide +kernel
theorem dX11_orbit_95 : decode cX11_orbit 95 = .ok (.iload_n 2, 1) := by decide +kernel
theorem dX11_orbit_96 : decode cX11_orbit 96 = .ok (.invokevirtual 143, 3) := by decide +kernel
theorem dX11_orbit_99 : decode cX11_orbit 99 = .ok (.goto 15, 3) := by decide +kernel
theorem dX11_orbit_102 : decode cX11_orbit 102 = .ok (.iload_n 3, 1) := by decide +kernel
theorem dX11_orbit_103 : decode cX11_orbit 103 = .ok (.iconst 1, 1) := by decide +kernel
theorem dX11_orbit_104 : decode cX11_orbit 104 = .ok (.if_icmp .ne 8, 3) := by decide +kernel
theorem dX11_orbit_107 : decode cX11_orbit 107 = .ok (.iload 4, 2) := by decide +kernel
theorem dX11_orbit_109 : decode cX11_orbit 109 = .ok (.goto 5, 3) := by decide +kernel
theorem dX11_orbit_112 : decode cX11_orbit 112 = .ok (.iload 5, 2) := by decide +kernel
theorem dX11_orbit_114 : decode cX11_orbit 114 = .ok (.ireturn, 1) := by decide +kernel
theorem dX11_member_0 : decode cX11_member 0 = .ok (.aload_n 0, 1) := by decide +kernel
theorem dX11_member_1 : decode cX11_member 1 = .ok (.iload_n 1, 1) := by decide +kernel
theorem dX11_member_2 : decode cX11_member 2 = .ok (.invokevirtual 131, 3) := by decide +kernel
theorem dX11_member_5 : decode cX11_member 5 = .ok (.ifCond .ne 6, 3) := by decide +kernel
theorem dX11_member_8 : decode cX11_member 8 = .ok (.bipush (-2), 2) := by decide +kernel
theorem dX11_member_10 : decode cX11_member 10 = .ok (.ireturn, 1) := by decide +kernel
theorem dX11_member_11 : decode cX11_member 11 = .ok (.aload_n 0, 1) := by decide +kernel
theorem dX11_member_12 : decode cX11_member 12 = .ok (.invokevirtual 134, 3) := by decide +kernel
theorem dX11_member_15 : decode cX11_member 15 = .ok (.iload_n 2, 1) := by decide +kernel
theorem dX11_member_16 : decode cX11_member 16 = .ok (.i2l, 1) := by decide +kernel
theorem dX11_member_17 : decode cX11_member 17 = .ok (.lconst 0, 1) := by decide +kernel
theorem dX11_member_18 : decode cX11_member 18 = .ok (.aload_n 0, 1) := by decide +kernel
theorem dX11_member_19 : decode cX11_member 19 = .ok (.getfield 35, 3) := by decide +kernel
theorem dX11_member_22 : decode cX11_member 22 = .ok (.iload_n 1, 1) := by decide +kernel
theorem dX11_member_23 : decode cX11_member 23 = .ok (.iaload, 1) := by decide +kernel
theorem dX11_member_24 : decode cX11_member 24 = .ok (.iconst 1, 1) := by decide +kernel
theorem dX11_member_25 : decode cX11_member 25 = .ok (.isub, 1) := by decide +kernel
theorem dX11_member_26 : decode cX11_member 26 = .ok (.i2l, 1) := by decide +kernel
theorem dX11_member_27 : decode cX11_member 27 = .ok (.invokestatic 85, 3) := by decide +kernel
theorem dX11_member_30 : decode cX11_member 30 = .ok (.ifCond .eq 7, 3) := by decide +kernel
theorem dX11_member_33 : decode cX11_member 33 = .ok (.iload_n 3, 1) := by decide +kernel
theorem dX11_member_34 : decode cX11_member 34 = .ok (.ifCond .ge 5, 3) := by decide +kernel
theorem dX11_member_37 : decode cX11_member 37 = .ok (.iconst (-1), 1) := by decide +kernel
theorem dX11_member_38 : decode cX11_member 38 = .ok (.ireturn, 1) := by decide +kernel
theorem dX11_member_39 : decode cX11_member 39 = .ok (.iload_n 3, 1) := by decide +kernel
theorem dX11_member_40 : decode cX11_member 40 = .ok (.istore 4, 2) := by decide +kernel
theorem dX11_member_42 : decode cX11_member 42 = .ok (.iconst 0, 1) := by decide +kernel
theorem dX11_member_43 : decode cX11_member 43 = .ok (.istore 5, 2) := by decide +kernel
theorem dX11_member_45 : decode cX11_member 45 = .ok (.iload 5, 2) := by decide +kernel
theorem dX11_member_47 : decode cX11_member 47 = .ok (.aload_n 0, 1) := by decide +kernel
theorem dX11_member_48 : decode cX11_member 48 = .ok (.invokevirtual 81, 3) := by decide +kernel
theorem dX11_member_51 : decode cX11_member 51 = .ok (.if_icmp .gt 31, 3) := by decide +kernel
theorem dX11_member_54 : decode cX11_member 54 = .ok (.aload_n 0, 1) := by decide +kernel
theorem dX11_member_55 : decode cX11_member 55 = .ok (.iload 5, 2) := by decide +kernel
theorem dX11_member_57 : decode cX11_member 57 = .ok (.iload_n 1, 1) := by decide +kernel
theorem dX11_member_58 : decode cX11_member 58 = .ok (.iload_n 2, 1) := by decide +kernel
theorem dX11_member_59 : decode cX11_member 59 = .ok (.invokevirtual 137, 3) := by decide +kernel
theorem dX11_member_62 : decode cX11_member 62 = .ok (.ifCond .eq 14, 3) := by decide +kernel
theorem dX11_member_65 : decode cX11_member 65 = .ok (.iload 4, 2) := by decide +kernel
theorem dX11_member_67 : decode cX11_member 67 = .ok (.ifCond .ne 6, 3) := by decide +kernel
theorem dX11_member_70 : decode cX11_member 70 = .ok (.iload 5, 2) := by decide +kernel
theorem dX11_member_72 : decode cX11_member 72 = .ok (.ireturn, 1) := by decide +kernel
theorem dX11_member_73 : decode cX11_member 73 = .ok (.iinc 4 (-1), 3) := by decide +kernel
theorem dX11_member_76 : decode cX11_member 76 = .ok (.iinc 5 1, 3) := by decide +kernel
theorem dX11_member_79 : decode cX11_member 79 = .ok (.goto (-34), 3) := by decide +kernel
theorem dX11_member_82 : decode cX11_member 82 = .ok (.bipush (-5), 2) := by decide +kernel
theorem dX11_member_84 : decode cX11_member 84 = .ok (.ireturn, 1) := by decide +kernel
theorem dX11_orbitOf_0 : decode cX11_orbitOf 0 = .ok (.aload_n 0, 1) := by decide +kernel
theorem dX11_orbitOf_1 : decode cX11_orbitOf 1 = .ok (.iload_n 1, 1) := by decide +kernel
theorem dX11_orbitOf_2 : decode cX11_orbitOf 2 = .ok (.invokevirtual 125, 3) := by decide +kernel
theorem dX11_orbitOf_5 : decode cX11_orbitOf 5 = .ok (.ifCond .ne 5, 3) := by decide +kernel
theorem dX11_orbitOf_8 : decode cX11_orbitOf 8 = .ok (.iconst (-1), 1) := by decide +kernel
theorem dX11_orbitOf_9 : decode cX11_orbitOf 9 = .ok (.ireturn, 1) := by decide +kernel
theorem dX11_orbitOf_10 : decode cX11_orbitOf 10 = .ok (.aload_n 0, 1) := by decide +kernel
theorem dX11_orbitOf_11 : decode cX11_orbitOf 11 = .ok (.invokevirtual 134, 3) := by decide +kernel
theorem dX11_orbitOf_14 : decode cX11_orbitOf 14 = .ok (.aload_n 0, 1) := by decide +kernel
theorem dX11_orbitOf_15 : decode cX11_orbitOf 15 = .ok (.getfield 32, 3) := by decide +kernel
theorem dX11_orbitOf_18 : decode cX11_orbitOf 18 = .ok (.iload_n 1, 1) := by decide +kernel
theorem dX11_orbitOf_19 : decode cX11_orbitOf 19 = .ok (.iaload, 1) := by decide +kernel
theorem dX11_orbitOf_20 : decode cX11_orbitOf 20 = .ok (.ireturn, 1) := by decide +kernel
theorem dX11_areSizes_0 : decode cX11_areSizes 0 = .ok (.aload_n 0, 1) := by decide +kernel
theorem dX11_areSizes_1 : decode cX11_areSizes 1 = .ok (.iload_n 1, 1) := by decide +kernel
theorem dX11_areSizes_2 : decode cX11_areSizes 2 = .ok (.invokevirtual 131, 3) := by decide +kernel
theorem dX11_areSizes_5 : decode cX11_areSizes 5 = .ok (.ifCond .eq 20, 3) := by decide +kernel
theorem dX11_areSizes_8 : decode cX11_areSizes 8 = .ok (.aload_n 0, 1) := by decide +kernel
theorem dX11_areSizes_9 : decode cX11_areSizes 9 = .ok (.iload_n 2, 1) := by decide +kernel
theorem dX11_areSizes_10 : decode cX11_areSizes 10 = .ok (.invokevirtual 131, 3) := by decide +kernel
theorem dX11_areSizes_13 : decode cX11_areSizes 13 = .ok (.ifCond .eq 12, 3) := by decide +kernel
theorem dX11_areSizes_16 : decode cX11_areSizes 16 = .ok (.iload_n 1, 1) := by decide +kernel
theorem dX11_areSizes_17 : decode cX11_areSizes 17 = .ok (.iload_n 2, 1) := by decide +kernel
theorem dX11_areSizes_18 : decode cX11_areSizes 18 = .ok (.if_icmp .gt 7, 3) := by decide +kernel
theorem dX11_areSizes_21 : decode cX11_areSizes 21 = .ok (.iconst 1, 1) := by decide +kernel
theorem dX11_areSizes_22 : decode cX11_areSizes 22 = .ok (.goto 4, 3) := by decide +kernel
theorem dX11_areSizes_25 : decode cX11_areSizes 25 = .ok (.iconst 0, 1) := by decide +kernel
theorem dX11_areSizes_26 : decode cX11_areSizes 26 = .ok (.ireturn, 1) := by decide +kernel
theorem dX11_tables_0 : decode cX11_tables 0 = .ok (.aload_n 0, 1) := by decide +kernel
theorem dX11_tables_1 : decode cX11_tables 1 = .ok (.invokevirtual 134, 3) := by decide +kernel
theorem dX11_tables_4 : decode cX11_tables 4 = .ok (.iconst 0, 1) := by decide +kernel
theorem dX11_tables_5 : decode cX11_tables 5 = .ok (.istore_n 3, 1) := by decide +kernel
theorem dX11_tables_6 : decode cX11_tables 6 = .ok (.iload_n 3, 1) := by decide +kernel
theorem dX11_tables_7 : decode cX11_tables 7 = .ok (.aload_n 0, 1) := by decide +kernel
theorem dX11_tables_8 : decode cX11_tables 8 = .ok (.getfield 35, 3) := by decide +kernel
theorem dX11_tables_11 : decode cX11_tables 11 = .ok (.iload_n 1, 1) := by decide +kernel
theorem dX11_tables_12 : decode cX11_tables 12 = .ok (.iaload, 1) := by decide +kernel
theorem dX11_tables_13 : decode cX11_tables 13 = .ok (.if_icmp .ge 130, 3) := by decide +kernel
theorem dX11_tables_16 : decode cX11_tables 16 = .ok (.aload_n 0, 1) := by decide +kernel
theorem dX11_tables_17 : decode cX11_tables 17 = .ok (.iload_n 1, 1) := by decide +kernel
theorem dX11_tables_18 : decode cX11_tables 18 = .ok (.iload_n 3, 1) := by decide +kernel
theorem dX11_tables_19 : decode cX11_tables 19 = .ok (.invokevirtual 143, 3) := by decide +kernel
theorem dX11_tables_22 : decode cX11_tables 22 = .ok (.istore 4, 2) := by decide +kernel
theorem dX11_tables_24 : decode cX11_tables 24 = .ok (.iconst 0, 1) := by decide +kernel
theorem dX11_tables_25 : decode cX11_tables 25 = .ok (.istore 5, 2) := by decide +kernel
theorem dX11_tables_27 : decode cX11_tables 27 = .ok (.iload 5, 2) := by decide +kernel
theorem dX11_tables_29 : decode cX11_tables 29 = .ok (.aload_n 0, 1) := by decide +kernel
theorem dX11_tables_30 : decode cX11_tables 30 = .ok (.getfield 35, 3) := by decide +kernel
theorem dX11_tables_33 : decode cX11_tables 33 = .ok (.iload_n 2, 1) := by decide +kernel
theorem dX11_tables_34 : decode cX11_tables 34 = .ok (.iaload, 1) := by decide +kernel
theorem dX11_tables_35 : decode cX11_tables 35 = .ok (.if_icmp .ge 27, 3) := by decide +kernel
theorem dX11_tables_38 : decode cX11_tables 38 = .ok (.aload_n 0, 1) := by decide +kernel
theorem dX11_tables_39 : decode cX11_tables 39 = .ok (.getfield 43, 3) := by decide +kernel
theorem dX11_tables_42 : decode cX11_tables 42 = .ok (.iload_n 3, 1) := by decide +kernel
theorem dX11_tables_43 : decode cX11_tables 43 = .ok (.aaload, 1) := by decide +kernel
theorem dX11_tables_44 : decode cX11_tables 44 = .ok (.iload 5, 2) := by decide +kernel
theorem dX11_tables_46 : decode cX11_tables 46 = .ok (.iconst 0, 1) := by decide +kernel
theorem dX11_tables_47 : decode cX11_tables 47 = .ok (.iastore, 1) := by decide +kernel
theorem dX11_tables_48 : decode cX11_tables 48 = .ok (.aload_n 0, 1) := by decide +kernel
theorem dX11_tables_49 : decode cX11_tables 49 = .ok (.getfield 46, 3) := by decide +kernel
theorem dX11_tables_52 : decode cX11_tables 52 = .ok (.iload 5, 2) := by decide +kernel
theorem dX11_tables_54 : decode cX11_tables 54 = .ok (.iconst 0, 1) := by decide +kernel
theorem dX11_tables_55 : decode cX11_tables 55 = .ok (.iastore, 1) := by decide +kernel
theorem dX11_tables_56 : decode cX11_tables 56 = .ok (.iinc 5 1, 3) := by decide +kernel
theorem dX11_tables_59 : decode cX11_tables 59 = .ok (.goto (-32), 3) := by decide +kernel
theorem dX11_tables_62 : decode cX11_tables 62 = .ok (.iconst 0, 1) := by decide +kernel
theorem dX11_tables_63 : decode cX11_tables 63 = .ok (.istore 5, 2) := by decide +kernel
theorem dX11_tables_65 : decode cX11_tables 65 = .ok (.iload 5, 2) := by decide +kernel
theorem dX11_tables_67 : decode cX11_tables 67 = .ok (.aload_n 0, 1) := by decide +kernel
theorem dX11_tables_68 : decode cX11_tables 68 = .ok (.invokevirtual 81, 3) := by decide +kernel
theorem dX11_tables_71 : decode cX11_tables 71 = .ok (.if_icmp .gt 66, 3) := by decide +kernel
theorem dX11_tables_74 : decode cX11_tables 74 = .ok (.iload 5, 2) := by decide +kernel
theorem dX11_tables_76 : decode cX11_tables 76 = .ok (.invokestatic 128, 3) := by decide +kernel
theorem dX11_tables_79 : decode cX11_tables 79 = .ok (.iload_n 2, 1) := by decide +kernel
theorem dX11_tables_80 : decode cX11_tables 80 = .ok (.if_icmp .ne 51, 3) := by decide +kernel
theorem dX11_tables_83 : decode cX11_tables 83 = .ok (.aload_n 0, 1) := by decide +kernel
theorem dX11_tables_84 : decode cX11_tables 84 = .ok (.getfield 46, 3) := by decide +kernel
theorem dX11_tables_87 : decode cX11_tables 87 = .ok (.aload_n 0, 1) := by decide +kernel
theorem dX11_tables_88 : decode cX11_tables 88 = .ok (.getfield 32, 3) := by decide +kernel
theorem dX11_tables_91 : decode cX11_tables 91 = .ok (.iload 5, 2) := by decide +kernel
theorem dX11_tables_93 : decode cX11_tables 93 = .ok (.iaload, 1) := by decide +kernel
theorem dX11_tables_94 : decode cX11_tables 94 = .ok (.dup2, 1) := by decide +kernel
theorem dX11_tables_95 : decode cX11_tables 95 = .ok (.iaload, 1) := by decide +kernel
theorem dX11_tables_96 : decode cX11_tables 96 = .ok (.iconst 1, 1) := by decide +kernel
theorem dX11_tables_97 : decode cX11_tables 97 = .ok (.iadd, 1) := by decide +kernel
theorem dX11_tables_98 : decode cX11_tables 98 = .ok (.iastore, 1) := by decide +kernel
theorem dX11_tables_99 : decode cX11_tables 99 = .ok (.aload_n 0, 1) := by decide +kernel
theorem dX11_tables_100 : decode cX11_tables 100 = .ok (.getfield 43, 3) := by decide +kernel
theorem dX11_tables_103 : decode cX11_tables 103 = .ok (.iload_n 3, 1) := by decide +kernel
theorem dX11_tables_104 : decode cX11_tables 104 = .ok (.aaload, 1) := by decide +kernel
theorem dX11_tables_105 : decode cX11_tables 105 = .ok (.aload_n 0, 1) := by decide +kernel
theorem dX11_tables_106 : decode cX11_tables 106 = .ok (.getfield 32, 3) := by decide +kernel
theorem dX11_tables_109 : decode cX11_tables 109 = .ok (.iload 5, 2) := by decide +kernel
theorem dX11_tables_111 : decode cX11_tables 111 = .ok (.iaload, 1) := by decide +kernel
theorem dX11_tables_112 : decode cX11_tables 112 = .ok (.dup2, 1) := by decide +kernel
theorem dX11_tables_113 : decode cX11_tables 113 = .ok (.iaload, 1) := by decide +kernel
theorem dX11_tables_114 : decode cX11_tables 114 = .ok (.iload 4, 2) := by decide +kernel
theorem dX11_tables_116 : decode cX11_tables 116 = .ok (.iload 5, 2) := by decide +kernel
theorem dX11_tables_118 : decode cX11_tables 118 = .ok (.iconst (-1), 1) := by decide +kernel
theorem dX11_tables_119 : decode cX11_tables 119 = .ok (.ixor, 1) := by decide +kernel
theorem dX11_tables_120 : decode cX11_tables 120 = .ok (.iand, 1) := by decide +kernel
theorem dX11_tables_121 : decode cX11_tables 121 = .ok (.ifCond .ne 7, 3) := by decide +kernel
theorem dX11_tables_124 : decode cX11_tables 124 = .ok (.iconst 1, 1) := by decide +kernel
theorem dX11_tables_125 : decode cX11_tables 125 = .ok (.goto 4, 3) := by decide +kernel
theorem dX11_tables_128 : decode cX11_tables 128 = .ok (.iconst 0, 1) := by decide +kernel
theorem dX11_tables_129 : decode cX11_tables 129 = .ok (.iadd, 1) := by decide +kernel
theorem dX11_tables_130 : decode cX11_tables 130 = .ok (.iastore, 1) := by decide +kernel
theorem dX11_tables_131 : decode cX11_tables 131 = .ok (.iinc 5 1, 3) := by decide +kernel
theorem dX11_tables_134 : decode cX11_tables 134 = .ok (.goto (-69), 3) := by decide +kernel
theorem dX11_tables_137 : decode cX11_tables 137 = .ok (.iinc 3 1, 3) := by decide +kernel
theorem dX11_tables_140 : decode cX11_tables 140 = .ok (.goto (-134), 3) := by decide +kernel
theorem dX11_tables_143 : decode cX11_tables 143 = .ok (.return_, 1) := by decide +kernel
theorem dX11_table_0 : decode cX11_table 0 = .ok (.aload_n 0, 1) := by decide +kernel
theorem dX11_table_1 : decode cX11_table 1 = .ok (.iload_n 1, 1) := by decide +kernel
theorem dX11_table_2 : decode cX11_table 2 = .ok (.iload_n 2, 1) := by decide +kernel
theorem dX11_table_3 : decode cX11_table 3 = .ok (.invokevirtual 146, 3) := by decide +kernel
theorem dX11_table_6 : decode cX11_table 6 = .ok (.ifCond .ne 6, 3) := by decide +kernel
theorem dX11_table_9 : decode cX11_table 9 = .ok (.bipush (-2), 2) := by decide +kernel
theorem dX11_table_11 : decode cX11_table 11 = .ok (.ireturn, 1) := by decide +kernel
theorem dX11_table_12 : decode cX11_table 12 = .ok (.aload_n 0, 1) := by decide +kernel
theorem dX11_table_13 : decode cX11_table 13 = .ok (.iload_n 1, 1) := by decide +kernel
theorem dX11_table_14 : decode cX11_table 14 = .ok (.iload_n 2, 1) := by decide +kernel
theorem dX11_table_15 : decode cX11_table 15 = .ok (.invokevirtual 150, 3) := by decide +kernel
theorem dX11_table_18 : decode cX11_table 18 = .ok (.iload_n 3, 1) := by decide +kernel
theorem dX11_table_19 : decode cX11_table 19 = .ok (.i2l, 1) := by decide +kernel
theorem dX11_table_20 : decode cX11_table 20 = .ok (.lconst 0, 1) := by decide +kernel
theorem dX11_table_21 : decode cX11_table 21 = .ok (.aload_n 0, 1) := by decide +kernel
theorem dX11_table_22 : decode cX11_table 22 = .ok (.getfield 35, 3) := by decide +kernel
theorem dX11_table_25 : decode cX11_table 25 = .ok (.iload_n 1, 1) := by decide +kernel
theorem dX11_table_26 : decode cX11_table 26 = .ok (.iaload, 1) := by decide +kernel
theorem dX11_table_27 : decode cX11_table 27 = .ok (.iconst 1, 1) := by decide +kernel
theorem dX11_table_28 : decode cX11_table 28 = .ok (.isub, 1) := by decide +kernel
theorem dX11_table_29 : decode cX11_table 29 = .ok (.i2l, 1) := by decide +kernel
theorem dX11_table_30 : decode cX11_table 30 = .ok (.invokestatic 85, 3) := by decide +kernel
theorem dX11_table_33 : decode cX11_table 33 = .ok (.ifCond .eq 34, 3) := by decide +kernel
theorem dX11_table_36 : decode cX11_table 36 = .ok (.iload 4, 2) := by decide +kernel
theorem dX11_table_38 : decode cX11_table 38 = .ok (.i2l, 1) := by decide +kernel
theorem dX11_table_39 : decode cX11_table 39 = .ok (.lconst 0, 1) := by decide +kernel
theorem dX11_table_40 : decode cX11_table 40 = .ok (.aload_n 0, 1) := by decide +kernel
theorem dX11_table_41 : decode cX11_table 41 = .ok (.getfield 35, 3) := by decide +kernel
theorem dX11_table_44 : decode cX11_table 44 = .ok (.iload_n 2, 1) := by decide +kernel
theorem dX11_table_45 : decode cX11_table 45 = .ok (.iaload, 1) := by decide +kernel
theorem dX11_table_46 : decode cX11_table 46 = .ok (.iconst 1, 1) := by decide +kernel
theorem dX11_table_47 : decode cX11_table 47 = .ok (.isub, 1) := by decide +kernel
theorem dX11_table_48 : decode cX11_table 48 = .ok (.i2l, 1) := by decide +kernel
theorem dX11_table_49 : decode cX11_table 49 = .ok (.invokestatic 85, 3) := by decide +kernel
theorem dX11_table_52 : decode cX11_table 52 = .ok (.ifCond .eq 15, 3) := by decide +kernel
theorem dX11_table_55 : decode cX11_table 55 = .ok (.aload_n 0, 1) := by decide +kernel
theorem dX11_table_56 : decode cX11_table 56 = .ok (.getfield 43, 3) := by decide +kernel
theorem dX11_table_59 : decode cX11_table 59 = .ok (.iload_n 3, 1) := by decide +kernel
theorem dX11_table_60 : decode cX11_table 60 = .ok (.aaload, 1) := by decide +kernel
theorem dX11_table_61 : decode cX11_table 61 = .ok (.iload 4, 2) := by decide +kernel
theorem dX11_table_63 : decode cX11_table 63 = .ok (.iaload, 1) := by decide +kernel
theorem dX11_table_64 : decode cX11_table 64 = .ok (.goto 4, 3) := by decide +kernel
theorem dX11_table_67 : decode cX11_table 67 = .ok (.iconst (-1), 1) := by decide +kernel
theorem dX11_table_68 : decode cX11_table 68 = .ok (.ireturn, 1) := by decide +kernel
theorem dX11_sum_0 : decode cX11_sum 0 = .ok (.iconst 0, 1) := by decide +kernel
theorem dX11_sum_1 : decode cX11_sum 1 = .ok (.istore 4, 2) := by decide +kernel
theorem dX11_sum_3 : decode cX11_sum 3 = .ok (.iconst 0, 1) := by decide +kernel
theorem dX11_sum_4 : decode cX11_sum 4 = .ok (.istore 5, 2) := by decide +kernel
theorem dX11_sum_6 : decode cX11_sum 6 = .ok (.iload 5, 2) := by decide +kernel
theorem dX11_sum_8 : decode cX11_sum 8 = .ok (.aload_n 0, 1) := by decide +kernel
theorem dX11_sum_9 : decode cX11_sum 9 = .ok (.getfield 35, 3) := by decide +kernel
theorem dX11_sum_12 : decode cX11_sum 12 = .ok (.iload_n 2, 1) := by decide +kernel
theorem dX11_sum_13 : decode cX11_sum 13 = .ok (.iaload, 1) := by decide +kernel
theorem dX11_sum_14 : decode cX11_sum 14 = .ok (.if_icmp .ge 37, 3) := by decide +kernel
theorem dX11_sum_17 : decode cX11_sum 17 = .ok (.iload 4, 2) := by decide +kernel
theorem dX11_sum_19 : decode cX11_sum 19 = .ok (.iload_n 3, 1) := by decide +kernel
theorem dX11_sum_20 : decode cX11_sum 20 = .ok (.iload 5, 2) := by decide +kernel
theorem dX11_sum_22 : decode cX11_sum 22 = .ok (.ishr, 1) := by decide +kernel
theorem dX11_sum_23 : decode cX11_sum 23 = .ok (.iconst 1, 1) := by decide +kernel
theorem dX11_sum_24 : decode cX11_sum 24 = .ok (.iand, 1) := by decide +kernel
theorem dX11_sum_25 : decode cX11_sum 25 = .ok (.iconst 1, 1) := by decide +kernel
theorem dX11_sum_26 : decode cX11_sum 26 = .ok (.if_icmp .ne 15, 3) := by decide +kernel
theorem dX11_sum_29 : decode cX11_sum 29 = .ok (.aload_n 0, 1) := by decide +kernel
theorem dX11_sum_30 : decode cX11_sum 30 = .ok (.getfield 43, 3) := by decide +kernel
theorem dX11_sum_33 : decode cX11_sum 33 = .ok (.iload_n 1, 1) := by decide +kernel
theorem dX11_sum_34 : decode cX11_sum 34 = .ok (.aaload, 1) := by decide +kernel
theorem dX11_sum_35 : decode cX11_sum 35 = .ok (.iload 5, 2) := by decide +kernel
theorem dX11_sum_37 : decode cX11_sum 37 = .ok (.iaload, 1) := by decide +kernel
theorem dX11_sum_38 : decode cX11_sum 38 = .ok (.goto 4, 3) := by decide +kernel
theorem dX11_sum_41 : decode cX11_sum 41 = .ok (.iconst 0, 1) := by decide +kernel
theorem dX11_sum_42 : decode cX11_sum 42 = .ok (.iadd, 1) := by decide +kernel
theorem dX11_sum_43 : decode cX11_sum 43 = .ok (.istore 4, 2) := by decide +kernel
theorem dX11_sum_45 : decode cX11_sum 45 = .ok (.iinc 5 1, 3) := by decide +kernel
theorem dX11_sum_48 : decode cX11_sum 48 = .ok (.goto (-42), 3) := by decide +kernel
theorem dX11_sum_51 : decode cX11_sum 51 = .ok (.iload 4, 2) := by decide +kernel
theorem dX11_sum_53 : decode cX11_sum 53 = .ok (.ireturn, 1) := by decide +kernel
theorem dX11_solves_0 : decode cX11_solves 0 = .ok (.iconst 0, 1) := by decide +kernel
theorem dX11_solves_1 : decode cX11_solves 1 = .ok (.istore 5, 2) := by decide +kernel
theorem dX11_solves_3 : decode cX11_solves 3 = .ok (.iload 5, 2) := by decide +kernel
theorem dX11_solves_5 : decode cX11_solves 5 = .ok (.aload_n 0, 1) := by decide +kernel
theorem dX11_solves_6 : decode cX11_solves 6 = .ok (.getfield 35, 3) := by decide +kernel
theorem dX11_solves_9 : decode cX11_solves 9 = .ok (.iload_n 1, 1) := by decide +kernel
theorem dX11_solves_10 : decode cX11_solves 10 = .ok (.iaload, 1) := by decide +kernel
theorem dX11_solves_11 : decode cX11_solves 11 = .ok (.if_icmp .ge 24, 3) := by decide +kernel
theorem dX11_solves_14 : decode cX11_solves 14 = .ok (.aload_n 0, 1) := by decide +kernel
theorem dX11_solves_15 : decode cX11_solves 15 = .ok (.iload 5, 2) := by decide +kernel
theorem dX11_solves_17 : decode cX11_solves 17 = .ok (.iload_n 2, 1) := by decide +kernel
theorem dX11_solves_18 : decode cX11_solves 18 = .ok (.iload 4, 2) := by decide +kernel
theorem dX11_solves_20 : decode cX11_solves 20 = .ok (.invokevirtual 154, 3) := by decide +kernel
theorem dX11_solves_23 : decode cX11_solves 23 = .ok (.iload_n 3, 1) := by decide +kernel
theorem dX11_solves_24 : decode cX11_solves 24 = .ok (.if_icmp .eq 5, 3) := by decide +kernel
theorem dX11_solves_27 : decode cX11_solves 27 = .ok (.iconst 0, 1) := by decide +kernel
theorem dX11_solves_28 : decode cX11_solves 28 = .ok (.ireturn, 1) := by decide +kernel
theorem dX11_solves_29 : decode cX11_solves 29 = .ok (.iinc 5 1, 3) := by decide +kernel
theorem dX11_solves_32 : decode cX11_solves 32 = .ok (.goto (-29), 3) := by decide +kernel
theorem dX11_solves_35 : decode cX11_solves 35 = .ok (.iconst 1, 1) := by decide +kernel
theorem dX11_solves_36 : decode cX11_solves 36 = .ok (.ireturn, 1) := by decide +kernel
theorem dX11_nth_0 : decode cX11_nth 0 = .ok (.iconst 0, 1) := by decide +kernel
theorem dX11_nth_1 : decode cX11_nth 1 = .ok (.istore 5, 2) := by decide +kernel
theorem dX11_nth_3 : decode cX11_nth 3 = .ok (.iconst 0, 1) := by decide +kernel
theorem dX11_nth_4 : decode cX11_nth 4 = .ok (.istore 6, 2) := by decide +kernel
theorem dX11_nth_6 : decode cX11_nth 6 = .ok (.iload 6, 2) := by decide +kernel
theorem dX11_nth_8 : decode cX11_nth 8 = .ok (.iconst 1, 1) := by decide +kernel
theorem dX11_nth_9 : decode cX11_nth 9 = .ok (.aload_n 0, 1) := by decide +kernel
theorem dX11_nth_10 : decode cX11_nth 10 = .ok (.getfield 35, 3) := by decide +kernel
theorem dX11_nth_13 : decode cX11_nth 13 = .ok (.iload_n 2, 1) := by decide +kernel
theorem dX11_nth_14 : decode cX11_nth 14 = .ok (.iaload, 1) := by decide +kernel
theorem dX11_nth_15 : decode cX11_nth 15 = .ok (.ishl, 1) := by decide +kernel
theorem dX11_nth_16 : decode cX11_nth 16 = .ok (.if_icmp .ge 34, 3) := by decide +kernel
theorem dX11_nth_19 : decode cX11_nth 19 = .ok (.aload_n 0, 1) := by decide +kernel
theorem dX11_nth_20 : decode cX11_nth 20 = .ok (.iload_n 1, 1) := by decide +kernel
theorem dX11_nth_21 : decode cX11_nth 21 = .ok (.iload_n 2, 1) := by decide +kernel
theorem dX11_nth_22 : decode cX11_nth 22 = .ok (.iload_n 3, 1) := by decide +kernel
theorem dX11_nth_23 : decode cX11_nth 23 = .ok (.iload 6, 2) := by decide +kernel
theorem dX11_nth_25 : decode cX11_nth 25 = .ok (.invokevirtual 157, 3) := by decide +kernel
theorem dX11_nth_28 : decode cX11_nth 28 = .ok (.ifCond .eq 16, 3) := by decide +kernel
theorem dX11_nth_31 : decode cX11_nth 31 = .ok (.iload 5, 2) := by decide +kernel
theorem dX11_nth_33 : decode cX11_nth 33 = .ok (.iload 4, 2) := by decide +kernel
theorem dX11_nth_35 : decode cX11_nth 35 = .ok (.if_icmp .ne 6, 3) := by decide +kernel
theorem dX11_nth_38 : decode cX11_nth 38 = .ok (.iload 6, 2) := by decide +kernel
theorem dX11_nth_40 : decode cX11_nth 40 = .ok (.ireturn, 1) := by decide +kernel
theorem dX11_nth_41 : decode cX11_nth 41 = .ok (.iinc 5 1, 3) := by decide +kernel
theorem dX11_nth_44 : decode cX11_nth 44 = .ok (.iinc 6 1, 3) := by decide +kernel
theorem dX11_nth_47 : decode cX11_nth 47 = .ok (.goto (-41), 3) := by decide +kernel
theorem dX11_nth_50 : decode cX11_nth 50 = .ok (.iload 4, 2) := by decide +kernel
theorem dX11_nth_52 : decode cX11_nth 52 = .ok (.ifCond .ge 8, 3) := by decide +kernel
theorem dX11_nth_55 : decode cX11_nth 55 = .ok (.iload 5, 2) := by decide +kernel
theorem dX11_nth_57 : decode cX11_nth 57 = .ok (.goto 5, 3) := by decide +kernel
theorem dX11_nth_60 : decode cX11_nth 60 = .ok (.bipush (-5), 2) := by decide +kernel
theorem dX11_nth_62 : decode cX11_nth 62 = .ok (.ireturn, 1) := by decide +kernel
theorem dX11_solved_0 : decode cX11_solved 0 = .ok (.aload_n 0, 1) := by decide +kernel
theorem dX11_solved_1 : decode cX11_solved 1 = .ok (.iload_n 1, 1) := by decide +kernel
theorem dX11_solved_2 : decode cX11_solved 2 = .ok (.iload_n 2, 1) := by decide +kernel
theorem dX11_solved_3 : decode cX11_solved 3 = .ok (.invokevirtual 146, 3) := by decide +kernel
theorem dX11_solved_6 : decode cX11_solved 6 = .ok (.ifCond .eq 15, 3) := by decide +kernel
theorem dX11_solved_9 : decode cX11_solved 9 = .ok (.iload_n 3, 1) := by decide +kernel
theorem dX11_solved_10 : decode cX11_solved 10 = .ok (.i2l, 1) := by decide +kernel
theorem dX11_solved_11 : decode cX11_solved 11 = .ok (.lconst 1, 1) := by decide +kernel
theorem dX11_solved_12 : decode cX11_solved 12 = .ok (.ldc2_w 161, 3) := by decide +kernel
theorem dX11_solved_15 : decode cX11_solved 15 = .ok (.invokestatic 85, 3) := by decide +kernel
theorem dX11_solved_18 : decode cX11_solved 18 = .ok (.ifCond .ne 6, 3) := by decide +kernel
theorem dX11_solved_21 : decode cX11_solved 21 = .ok (.bipush (-2), 2) := by decide +kernel
theorem dX11_solved_23 : decode cX11_solved 23 = .ok (.ireturn, 1) := by decide +kernel
theorem dX11_solved_24 : decode cX11_solved 24 = .ok (.iload 4, 2) := by decide +kernel
theorem dX11_solved_26 : decode cX11_solved 26 = .ok (.i2l, 1) := by decide +kernel
theorem dX11_solved_27 : decode cX11_solved 27 = .ok (.lconst 0, 1) := by decide +kernel
theorem dX11_solved_28 : decode cX11_solved 28 = .ok (.lconst 1, 1) := by decide +kernel
theorem dX11_solved_29 : decode cX11_solved 29 = .ok (.invokestatic 85, 3) := by decide +kernel
theorem dX11_solved_32 : decode cX11_solved 32 = .ok (.ifCond .ne 5, 3) := by decide +kernel
theorem dX11_solved_35 : decode cX11_solved 35 = .ok (.iconst (-1), 1) := by decide +kernel
theorem dX11_solved_36 : decode cX11_solved 36 = .ok (.ireturn, 1) := by decide +kernel
theorem dX11_solved_37 : decode cX11_solved 37 = .ok (.aload_n 0, 1) := by decide +kernel
theorem dX11_solved_38 : decode cX11_solved 38 = .ok (.iload_n 1, 1) := by decide +kernel
theorem dX11_solved_39 : decode cX11_solved 39 = .ok (.iload_n 2, 1) := by decide +kernel
theorem dX11_solved_40 : decode cX11_solved 40 = .ok (.invokevirtual 150, 3) := by decide +kernel
theorem dX11_solved_43 : decode cX11_solved 43 = .ok (.aload_n 0, 1) := by decide +kernel
theorem dX11_solved_44 : decode cX11_solved 44 = .ok (.getfield 35, 3) := by decide +kernel
theorem dX11_solved_47 : decode cX11_solved 47 = .ok (.iload_n 2, 1) := by decide +kernel
theorem dX11_solved_48 : decode cX11_solved 48 = .ok (.iaload, 1) := by decide +kernel
theorem dX11_solved_49 : decode cX11_solved 49 = .ok (.bipush 14, 2) := by decide +kernel
theorem dX11_solved_51 : decode cX11_solved 51 = .ok (.if_icmp .le 8, 3) := by decide +kernel
theorem dX11_solved_54 : decode cX11_solved 54 = .ok (.bipush (-3), 2) := by decide +kernel
theorem dX11_solved_56 : decode cX11_solved 56 = .ok (.goto 20, 3) := by decide +kernel
theorem dX11_solved_59 : decode cX11_solved 59 = .ok (.aload_n 0, 1) := by decide +kernel
theorem dX11_solved_60 : decode cX11_solved 60 = .ok (.iload_n 1, 1) := by decide +kernel
theorem dX11_solved_61 : decode cX11_solved 61 = .ok (.iload_n 2, 1) := by decide +kernel
theorem dX11_solved_62 : decode cX11_solved 62 = .ok (.iload_n 3, 1) := by decide +kernel
theorem dX11_solved_63 : decode cX11_solved 63 = .ok (.iload 4, 2) := by decide +kernel
theorem dX11_solved_65 : decode cX11_solved 65 = .ok (.ifCond .ne 7, 3) := by decide +kernel
theorem dX11_solved_68 : decode cX11_solved 68 = .ok (.iconst (-1), 1) := by decide +kernel
theorem dX11_solved_69 : decode cX11_solved 69 = .ok (.goto 4, 3) := by decide +kernel
theorem dX11_solved_72 : decode cX11_solved 72 = .ok (.iconst 0, 1) := by decide +kernel
theorem dX11_solved_73 : decode cX11_solved 73 = .ok (.invokevirtual 163, 3) := by decide +kernel
theorem dX11_solved_76 : decode cX11_solved 76 = .ok (.ireturn, 1) := by decide +kernel
theorem dX11_solution_0 : decode cX11_solution 0 = .ok (.aload_n 0, 1) := by decide +kernel
theorem dX11_solution_1 : decode cX11_solution 1 = .ok (.iload_n 1, 1) := by decide +kernel
theorem dX11_solution_2 : decode cX11_solution 2 = .ok (.iload_n 2, 1) := by decide +kernel
theorem dX11_solution_3 : decode cX11_solution 3 = .ok (.invokevirtual 146, 3) := by decide +kernel
theorem dX11_solution_6 : decode cX11_solution 6 = .ok (.ifCond .eq 15, 3) := by decide +kernel
theorem dX11_solution_9 : decode cX11_solution 9 = .ok (.iload_n 3, 1) := by decide +kernel
theorem dX11_solution_10 : decode cX11_solution 10 = .ok (.i2l, 1) := by decide +kernel
theorem dX11_solution_11 : decode cX11_solution 11 = .ok (.lconst 1, 1) := by decide +kernel
theorem dX11_solution_12 : decode cX11_solution 12 = .ok (.ldc2_w 161, 3) := by decide +kernel
theorem dX11_solution_15 : decode cX11_solution 15 = .ok (.invokestatic 85, 3) := by decide +kernel
theorem dX11_solution_18 : decode cX11_solution 18 = .ok (.ifCond .ne 6, 3) := by decide +kernel
theorem dX11_solution_21 : decode cX11_solution 21 = .ok (.bipush (-2), 2) := by decide +kernel
theorem dX11_solution_23 : decode cX11_solution 23 = .ok (.ireturn, 1) := by decide +kernel
theorem dX11_solution_24 : decode cX11_solution 24 = .ok (.iload 4, 2) := by decide +kernel
theorem dX11_solution_26 : decode cX11_solution 26 = .ok (.ifCond .ge 5, 3) := by decide +kernel
theorem dX11_solution_29 : decode cX11_solution 29 = .ok (.iconst (-1), 1) := by decide +kernel
theorem dX11_solution_30 : decode cX11_solution 30 = .ok (.ireturn, 1) := by decide +kernel
theorem dX11_solution_31 : decode cX11_solution 31 = .ok (.aload_n 0, 1) := by decide +kernel
theorem dX11_solution_32 : decode cX11_solution 32 = .ok (.iload_n 1, 1) := by decide +kernel
theorem dX11_solution_33 : decode cX11_solution 33 = .ok (.iload_n 2, 1) := by decide +kernel
theorem dX11_solution_34 : decode cX11_solution 34 = .ok (.invokevirtual 150, 3) := by decide +kernel
theorem dX11_solution_37 : decode cX11_solution 37 = .ok (.aload_n 0, 1) := by decide +kernel
theorem dX11_solution_38 : decode cX11_solution 38 = .ok (.getfield 35, 3) := by decide +kernel
theorem dX11_solution_41 : decode cX11_solution 41 = .ok (.iload_n 2, 1) := by decide +kernel
theorem dX11_solution_42 : decode cX11_solution 42 = .ok (.iaload, 1) := by decide +kernel
theorem dX11_solution_43 : decode cX11_solution 43 = .ok (.bipush 14, 2) := by decide +kernel
theorem dX11_solution_45 : decode cX11_solution 45 = .ok (.if_icmp .le 8, 3) := by decide +kernel
theorem dX11_solution_48 : decode cX11_solution 48 = .ok (.bipush (-3), 2) := by decide +kernel
theorem dX11_solution_50 : decode cX11_solution 50 = .ok (.goto 12, 3) := by decide +kernel
theorem dX11_solution_53 : decode cX11_solution 53 = .ok (.aload_n 0, 1) := by decide +kernel
theorem dX11_solution_54 : decode cX11_solution 54 = .ok (.iload_n 1, 1) := by decide +kernel
theorem dX11_solution_55 : decode cX11_solution 55 = .ok (.iload_n 2, 1) := by decide +kernel
theorem dX11_solution_56 : decode cX11_solution 56 = .ok (.iload_n 3, 1) := by decide +kernel
theorem dX11_solution_57 : decode cX11_solution 57 = .ok (.iload 4, 2) := by decide +kernel
theorem dX11_solution_59 : decode cX11_solution 59 = .ok (.invokevirtual 163, 3) := by decide +kernel
theorem dX11_solution_62 : decode cX11_solution 62 = .ok (.ireturn, 1) := by decide +kernel
theorem dX11_covers_0 : decode cX11_covers 0 = .ok (.iconst 0, 1) := by decide +kernel
theorem dX11_covers_1 : decode cX11_covers 1 = .ok (.istore 4, 2) := by decide +kernel
theorem dX11_covers_3 : decode cX11_covers 3 = .ok (.iload 4, 2) := by decide +kernel
theorem dX11_covers_5 : decode cX11_covers 5 = .ok (.aload_n 0, 1) := by decide +kernel
theorem dX11_covers_6 : decode cX11_covers 6 = .ok (.getfield 35, 3) := by decide +kernel
theorem dX11_covers_9 : decode cX11_covers 9 = .ok (.iload_n 1, 1) := by decide +kernel
theorem dX11_covers_10 : decode cX11_covers 10 = .ok (.iaload, 1) := by decide +kernel
theorem dX11_covers_11 : decode cX11_covers 11 = .ok (.if_icmp .ge 22, 3) := by decide +kernel
theorem dX11_covers_14 : decode cX11_covers 14 = .ok (.aload_n 0, 1) := by decide +kernel
theorem dX11_covers_15 : decode cX11_covers 15 = .ok (.iload 4, 2) := by decide +kernel
theorem dX11_covers_17 : decode cX11_covers 17 = .ok (.iload_n 2, 1) := by decide +kernel
theorem dX11_covers_18 : decode cX11_covers 18 = .ok (.iload_n 3, 1) := by decide +kernel
theorem dX11_covers_19 : decode cX11_covers 19 = .ok (.invokevirtual 154, 3) := by decide +kernel
theorem dX11_covers_22 : decode cX11_covers 22 = .ok (.ifCond .ne 5, 3) := by decide +kernel
theorem dX11_covers_25 : decode cX11_covers 25 = .ok (.iconst 0, 1) := by decide +kernel
theorem dX11_covers_26 : decode cX11_covers 26 = .ok (.ireturn, 1) := by decide +kernel
theorem dX11_covers_27 : decode cX11_covers 27 = .ok (.iinc 4 1, 3) := by decide +kernel
theorem dX11_covers_30 : decode cX11_covers 30 = .ok (.goto (-27), 3) := by decide +kernel
theorem dX11_covers_33 : decode cX11_covers 33 = .ok (.iconst 1, 1) := by decide +kernel
theorem dX11_covers_34 : decode cX11_covers 34 = .ok (.ireturn, 1) := by decide +kernel
theorem dX11_cover_0 : decode cX11_cover 0 = .ok (.aload_n 0, 1) := by decide +kernel
theorem dX11_cover_1 : decode cX11_cover 1 = .ok (.iload_n 1, 1) := by decide +kernel
theorem dX11_cover_2 : decode cX11_cover 2 = .ok (.iload_n 2, 1) := by decide +kernel
theorem dX11_cover_3 : decode cX11_cover 3 = .ok (.invokevirtual 146, 3) := by decide +kernel
theorem dX11_cover_6 : decode cX11_cover 6 = .ok (.ifCond .ne 6, 3) := by decide +kernel
theorem dX11_cover_9 : decode cX11_cover 9 = .ok (.bipush (-2), 2) := by decide +kernel
theorem dX11_cover_11 : decode cX11_cover 11 = .ok (.ireturn, 1) := by decide +kernel
theorem dX11_cover_12 : decode cX11_cover 12 = .ok (.iload_n 3, 1) := by decide +kernel
theorem dX11_cover_13 : decode cX11_cover 13 = .ok (.i2l, 1) := by decide +kernel
theorem dX11_cover_14 : decode cX11_cover 14 = .ok (.lconst 0, 1) := by decide +kernel
theorem dX11_cover_15 : decode cX11_cover 15 = .ok (.lconst 1, 1) := by decide +kernel
theorem dX11_cover_16 : decode cX11_cover 16 = .ok (.invokestatic 85, 3) := by decide +kernel
theorem dX11_cover_19 : decode cX11_cover 19 = .ok (.ifCond .ne 5, 3) := by decide +kernel
theorem dX11_cover_22 : decode cX11_cover 22 = .ok (.iconst (-1), 1) := by decide +kernel
theorem dX11_cover_23 : decode cX11_cover 23 = .ok (.ireturn, 1) := by decide +kernel
theorem dX11_cover_24 : decode cX11_cover 24 = .ok (.aload_n 0, 1) := by decide +kernel
theorem dX11_cover_25 : decode cX11_cover 25 = .ok (.iload_n 1, 1) := by decide +kernel
theorem dX11_cover_26 : decode cX11_cover 26 = .ok (.iload_n 2, 1) := by decide +kernel
theorem dX11_cover_27 : decode cX11_cover 27 = .ok (.invokevirtual 150, 3) := by decide +kernel
theorem dX11_cover_30 : decode cX11_cover 30 = .ok (.aload_n 0, 1) := by decide +kernel
theorem dX11_cover_31 : decode cX11_cover 31 = .ok (.getfield 35, 3) := by decide +kernel
theorem dX11_cover_34 : decode cX11_cover 34 = .ok (.iload_n 2, 1) := by decide +kernel
theorem dX11_cover_35 : decode cX11_cover 35 = .ok (.iaload, 1) := by decide +kernel
theorem dX11_cover_36 : decode cX11_cover 36 = .ok (.bipush 14, 2) := by decide +kernel
theorem dX11_cover_38 : decode cX11_cover 38 = .ok (.if_icmp .le 6, 3) := by decide +kernel
theorem dX11_cover_41 : decode cX11_cover 41 = .ok (.bipush (-3), 2) := by decide +kernel
theorem dX11_cover_43 : decode cX11_cover 43 = .ok (.ireturn, 1) := by decide +kernel
theorem dX11_cover_44 : decode cX11_cover 44 = .ok (.bipush (-5), 2) := by decide +kernel
theorem dX11_cover_46 : decode cX11_cover 46 = .ok (.istore 4, 2) := by decide +kernel
theorem dX11_cover_48 : decode cX11_cover 48 = .ok (.bipush (-5), 2) := by decide +kernel
theorem dX11_cover_50 : decode cX11_cover 50 = .ok (.istore 5, 2) := by decide +kernel
theorem dX11_cover_52 : decode cX11_cover 52 = .ok (.iconst 0, 1) := by decide +kernel
theorem dX11_cover_53 : decode cX11_cover 53 = .ok (.istore 6, 2) := by decide +kernel
theorem dX11_cover_55 : decode cX11_cover 55 = .ok (.iload 6, 2) := by decide +kernel
theorem dX11_cover_57 : decode cX11_cover 57 = .ok (.iconst 1, 1) := by decide +kernel
theorem dX11_cover_58 : decode cX11_cover 58 = .ok (.aload_n 0, 1) := by decide +kernel
theorem dX11_cover_59 : decode cX11_cover 59 = .ok (.getfield 35, 3) := by decide +kernel
theorem dX11_cover_62 : decode cX11_cover 62 = .ok (.iload_n 2, 1) := by decide +kernel
theorem dX11_cover_63 : decode cX11_cover 63 = .ok (.iaload, 1) := by decide +kernel
theorem dX11_cover_64 : decode cX11_cover 64 = .ok (.ishl, 1) := by decide +kernel
theorem dX11_cover_65 : decode cX11_cover 65 = .ok (.if_icmp .ge 92, 3) := by decide +kernel
theorem dX11_cover_68 : decode cX11_cover 68 = .ok (.iconst 0, 1) := by decide +kernel
theorem dX11_cover_69 : decode cX11_cover 69 = .ok (.istore 7, 2) := by decide +kernel
theorem dX11_cover_71 : decode cX11_cover 71 = .ok (.iconst 0, 1) := by decide +kernel
theorem dX11_cover_72 : decode cX11_cover 72 = .ok (.istore 8, 2) := by decide +kernel
theorem dX11_cover_74 : decode cX11_cover 74 = .ok (.iload 8, 2) := by decide +kernel
theorem dX11_cover_76 : decode cX11_cover 76 = .ok (.aload_n 0, 1) := by decide +kernel
theorem dX11_cover_77 : decode cX11_cover 77 = .ok (.getfield 35, 3) := by decide +kernel
theorem dX11_cover_80 : decode cX11_cover 80 = .ok (.iload_n 2, 1) := by decide +kernel
theorem dX11_cover_81 : decode cX11_cover 81 = .ok (.iaload, 1) := by decide +kernel
theorem dX11_cover_82 : decode cX11_cover 82 = .ok (.if_icmp .ge 36, 3) := by decide +kernel
theorem dX11_cover_85 : decode cX11_cover 85 = .ok (.iload 7, 2) := by decide +kernel
theorem dX11_cover_87 : decode cX11_cover 87 = .ok (.iload 6, 2) := by decide +kernel
theorem dX11_cover_89 : decode cX11_cover 89 = .ok (.iload 8, 2) := by decide +kernel
theorem dX11_cover_91 : decode cX11_cover 91 = .ok (.ishr, 1) := by decide +kernel
theorem dX11_cover_92 : decode cX11_cover 92 = .ok (.iconst 1, 1) := by decide +kernel
theorem dX11_cover_93 : decode cX11_cover 93 = .ok (.iand, 1) := by decide +kernel
theorem dX11_cover_94 : decode cX11_cover 94 = .ok (.iconst 1, 1) := by decide +kernel
theorem dX11_cover_95 : decode cX11_cover 95 = .ok (.if_icmp .ne 13, 3) := by decide +kernel
theorem dX11_cover_98 : decode cX11_cover 98 = .ok (.aload_n 0, 1) := by decide +kernel
theorem dX11_cover_99 : decode cX11_cover 99 = .ok (.getfield 46, 3) := by decide +kernel
theorem dX11_cover_102 : decode cX11_cover 102 = .ok (.iload 8, 2) := by decide +kernel
theorem dX11_cover_104 : decode cX11_cover 104 = .ok (.iaload, 1) := by decide +kernel
theorem dX11_cover_105 : decode cX11_cover 105 = .ok (.goto 4, 3) := by decide +kernel
theorem dX11_cover_108 : decode cX11_cover 108 = .ok (.iconst 0, 1) := by decide +kernel
theorem dX11_cover_109 : decode cX11_cover 109 = .ok (.iadd, 1) := by decide +kernel
theorem dX11_cover_110 : decode cX11_cover 110 = .ok (.istore 7, 2) := by decide +kernel
theorem dX11_cover_112 : decode cX11_cover 112 = .ok (.iinc 8 1, 3) := by decide +kernel
theorem dX11_cover_115 : decode cX11_cover 115 = .ok (.goto (-41), 3) := by decide +kernel
theorem dX11_cover_118 : decode cX11_cover 118 = .ok (.iload 4, 2) := by decide +kernel
theorem dX11_cover_120 : decode cX11_cover 120 = .ok (.bipush (-5), 2) := by decide +kernel
theorem dX11_cover_122 : decode cX11_cover 122 = .ok (.if_icmp .eq 10, 3) := by decide +kernel
theorem dX11_cover_125 : decode cX11_cover 125 = .ok (.iload 7, 2) := by decide +kernel
theorem dX11_cover_127 : decode cX11_cover 127 = .ok (.iload 5, 2) := by decide +kernel
theorem dX11_cover_129 : decode cX11_cover 129 = .ok (.if_icmp .ge 22, 3) := by decide +kernel
theorem dX11_cover_132 : decode cX11_cover 132 = .ok (.aload_n 0, 1) := by decide +kernel
theorem dX11_cover_133 : decode cX11_cover 133 = .ok (.iload_n 1, 1) := by decide +kernel
theorem dX11_cover_134 : decode cX11_cover 134 = .ok (.iload_n 2, 1) := by decide +kernel
theorem dX11_cover_135 : decode cX11_cover 135 = .ok (.iload 6, 2) := by decide +kernel
theorem dX11_cover_137 : decode cX11_cover 137 = .ok (.invokevirtual 167, 3) := by decide +kernel
theorem dX11_cover_140 : decode cX11_cover 140 = .ok (.ifCond .eq 11, 3) := by decide +kernel
theorem dX11_cover_143 : decode cX11_cover 143 = .ok (.iload 6, 2) := by decide +kernel
theorem dX11_cover_145 : decode cX11_cover 145 = .ok (.istore 4, 2) := by decide +kernel
theorem dX11_cover_147 : decode cX11_cover 147 = .ok (.iload 7, 2) := by decide +kernel
theorem dX11_cover_149 : decode cX11_cover 149 = .ok (.istore 5, 2) := by decide +kernel
theorem dX11_cover_151 : decode cX11_cover 151 = .ok (.iinc 6 1, 3) := by decide +kernel
theorem dX11_cover_154 : decode cX11_cover 154 = .ok (.goto (-99), 3) := by decide +kernel
theorem dX11_cover_157 : decode cX11_cover 157 = .ok (.iload_n 3, 1) := by decide +kernel
theorem dX11_cover_158 : decode cX11_cover 158 = .ok (.ifCond .ne 8, 3) := by decide +kernel
theorem dX11_cover_161 : decode cX11_cover 161 = .ok (.iload 5, 2) := by decide +kernel
theorem dX11_cover_163 : decode cX11_cover 163 = .ok (.goto 5, 3) := by decide +kernel
theorem dX11_cover_166 : decode cX11_cover 166 = .ok (.iload 4, 2) := by decide +kernel
theorem dX11_cover_168 : decode cX11_cover 168 = .ok (.ireturn, 1) := by decide +kernel
theorem dX11_many_0 : decode cX11_many 0 = .ok (.iconst 0, 1) := by decide +kernel
theorem dX11_many_1 : decode cX11_many 1 = .ok (.istore_n 1, 1) := by decide +kernel
theorem dX11_many_2 : decode cX11_many 2 = .ok (.iconst 0, 1) := by decide +kernel
theorem dX11_many_3 : decode cX11_many 3 = .ok (.istore_n 2, 1) := by decide +kernel
theorem dX11_many_4 : decode cX11_many 4 = .ok (.iload_n 2, 1) := by decide +kernel
theorem dX11_many_5 : decode cX11_many 5 = .ok (.sipush 256, 3) := by decide +kernel
theorem dX11_many_8 : decode cX11_many 8 = .ok (.if_icmp .ge 23, 3) := by decide +kernel
theorem dX11_many_11 : decode cX11_many 11 = .ok (.iload_n 1, 1) := by decide +kernel
theorem dX11_many_12 : decode cX11_many 12 = .ok (.aload_n 0, 1) := by decide +kernel
theorem dX11_many_13 : decode cX11_many 13 = .ok (.iload_n 2, 1) := by decide +kernel
theorem dX11_many_14 : decode cX11_many 14 = .ok (.baload, 1) := by decide +kernel
theorem dX11_many_15 : decode cX11_many 15 = .ok (.ifCond .eq 7, 3) := by decide +kernel
theorem dX11_many_18 : decode cX11_many 18 = .ok (.iconst 1, 1) := by decide +kernel
theorem dX11_many_19 : decode cX11_many 19 = .ok (.goto 4, 3) := by decide +kernel
theorem dX11_many_22 : decode cX11_many 22 = .ok (.iconst 0, 1) := by decide +kernel
theorem dX11_many_23 : decode cX11_many 23 = .ok (.iadd, 1) := by decide +kernel
theorem dX11_many_24 : decode cX11_many 24 = .ok (.istore_n 1, 1) := by decide +kernel
theorem dX11_many_25 : decode cX11_many 25 = .ok (.iinc 2 1, 3) := by decide +kernel
theorem dX11_many_28 : decode cX11_many 28 = .ok (.goto (-24), 3) := by decide +kernel
theorem dX11_many_31 : decode cX11_many 31 = .ok (.iload_n 1, 1) := by decide +kernel
theorem dX11_many_32 : decode cX11_many 32 = .ok (.ireturn, 1) := by decide +kernel
theorem dX11_choose_0 : decode cX11_choose 0 = .ok (.iload_n 1, 1) := by decide +kernel
theorem dX11_choose_1 : decode cX11_choose 1 = .ok (.i2l, 1) := by decide +kernel
theorem dX11_choose_2 : decode cX11_choose 2 = .ok (.lconst 1, 1) := by decide +kernel
theorem dX11_choose_3 : decode cX11_choose 3 = .ok (.aload_n 0, 1) := by decide +kernel
theorem dX11_choose_4 : decode cX11_choose 4 = .ok (.getfield 11, 3) := by decide +kernel
theorem dX11_choose_7 : decode cX11_choose 7 = .ok (.iconst 0, 1) := by decide +kernel
theorem dX11_choose_8 : decode cX11_choose 8 = .ok (.iaload, 1) := by decide +kernel
theorem dX11_choose_9 : decode cX11_choose 9 = .ok (.i2l, 1) := by decide +kernel
theorem dX11_choose_10 : decode cX11_choose 10 = .ok (.invokestatic 85, 3) := by decide +kernel
theorem dX11_choose_13 : decode cX11_choose 13 = .ok (.ifCond .ne 6, 3) := by decide +kernel
theorem dX11_choose_16 : decode cX11_choose 16 = .ok (.bipush (-2), 2) := by decide +kernel
theorem dX11_choose_18 : decode cX11_choose 18 = .ok (.ireturn, 1) := by decide +kernel
theorem dX11_choose_19 : decode cX11_choose 19 = .ok (.aload_n 0, 1) := by decide +kernel
theorem dX11_choose_20 : decode cX11_choose 20 = .ok (.invokevirtual 134, 3) := by decide +kernel
theorem dX11_choose_23 : decode cX11_choose 23 = .ok (.iload_n 2, 1) := by decide +kernel
theorem dX11_choose_24 : decode cX11_choose 24 = .ok (.ifCond .lt 25, 3) := by decide +kernel
theorem dX11_choose_27 : decode cX11_choose 27 = .ok (.aload_n 0, 1) := by decide +kernel
theorem dX11_choose_28 : decode cX11_choose 28 = .ok (.getfield 35, 3) := by decide +kernel
theorem dX11_choose_31 : decode cX11_choose 31 = .ok (.iload_n 1, 1) := by decide +kernel
theorem dX11_choose_32 : decode cX11_choose 32 = .ok (.iaload, 1) := by decide +kernel
theorem dX11_choose_33 : decode cX11_choose 33 = .ok (.bipush 31, 2) := by decide +kernel
theorem dX11_choose_35 : decode cX11_choose 35 = .ok (.if_icmp .ge 16, 3) := by decide +kernel
theorem dX11_choose_38 : decode cX11_choose 38 = .ok (.iload_n 2, 1) := by decide +kernel
theorem dX11_choose_39 : decode cX11_choose 39 = .ok (.aload_n 0, 1) := by decide +kernel
theorem dX11_choose_40 : decode cX11_choose 40 = .ok (.getfield 35, 3) := by decide +kernel
theorem dX11_choose_43 : decode cX11_choose 43 = .ok (.iload_n 1, 1) := by decide +kernel
theorem dX11_choose_44 : decode cX11_choose 44 = .ok (.iaload, 1) := by decide +kernel
theorem dX11_choose_45 : decode cX11_choose 45 = .ok (.ishr, 1) := by decide +kernel
theorem dX11_choose_46 : decode cX11_choose 46 = .ok (.ifCond .eq 5, 3) := by decide +kernel
theorem dX11_choose_49 : decode cX11_choose 49 = .ok (.iconst (-1), 1) := by decide +kernel
theorem dX11_choose_50 : decode cX11_choose 50 = .ok (.ireturn, 1) := by decide +kernel
theorem dX11_choose_51 : decode cX11_choose 51 = .ok (.aload_n 0, 1) := by decide +kernel
theorem dX11_choose_52 : decode cX11_choose 52 = .ok (.getfield 11, 3) := by decide +kernel
theorem dX11_choose_55 : decode cX11_choose 55 = .ok (.bipush 42, 2) := by decide +kernel
theorem dX11_choose_57 : decode cX11_choose 57 = .ok (.iload_n 1, 1) := by decide +kernel
theorem dX11_choose_58 : decode cX11_choose 58 = .ok (.iastore, 1) := by decide +kernel
theorem dX11_choose_59 : decode cX11_choose 59 = .ok (.iconst 0, 1) := by decide +kernel
theorem dX11_choose_60 : decode cX11_choose 60 = .ok (.istore_n 3, 1) := by decide +kernel
theorem dX11_choose_61 : decode cX11_choose 61 = .ok (.iload_n 3, 1) := by decide +kernel
theorem dX11_choose_62 : decode cX11_choose 62 = .ok (.sipush 256, 3) := by decide +kernel
theorem dX11_choose_65 : decode cX11_choose 65 = .ok (.if_icmp .ge 63, 3) := by decide +kernel
theorem dX11_choose_68 : decode cX11_choose 68 = .ok (.aload_n 0, 1) := by decide +kernel
theorem dX11_choose_69 : decode cX11_choose 69 = .ok (.getfield 20, 3) := by decide +kernel
theorem dX11_choose_72 : decode cX11_choose 72 = .ok (.iconst 0, 1) := by decide +kernel
theorem dX11_choose_73 : decode cX11_choose 73 = .ok (.aaload, 1) := by decide +kernel
theorem dX11_choose_74 : decode cX11_choose 74 = .ok (.iload_n 3, 1) := by decide +kernel
theorem dX11_choose_75 : decode cX11_choose 75 = .ok (.iload_n 3, 1) := by decide +kernel
theorem dX11_choose_76 : decode cX11_choose 76 = .ok (.aload_n 0, 1) := by decide +kernel
theorem dX11_choose_77 : decode cX11_choose 77 = .ok (.invokevirtual 81, 3) := by decide +kernel
theorem dX11_choose_80 : decode cX11_choose 80 = .ok (.if_icmp .gt 40, 3) := by decide +kernel
theorem dX11_choose_83 : decode cX11_choose 83 = .ok (.iload_n 3, 1) := by decide +kernel
theorem dX11_choose_84 : decode cX11_choose 84 = .ok (.invokestatic 128, 3) := by decide +kernel
theorem dX11_choose_87 : decode cX11_choose 87 = .ok (.iload_n 1, 1) := by decide +kernel
theorem dX11_choose_88 : decode cX11_choose 88 = .ok (.if_icmp .ne 32, 3) := by decide +kernel
theorem dX11_choose_91 : decode cX11_choose 91 = .ok (.aload_n 0, 1) := by decide +kernel
theorem dX11_choose_92 : decode cX11_choose 92 = .ok (.getfield 32, 3) := by decide +kernel
theorem dX11_choose_95 : decode cX11_choose 95 = .ok (.iload_n 3, 1) := by decide +kernel
theorem dX11_choose_96 : decode cX11_choose 96 = .ok (.iaload, 1) := by decide +kernel
theorem dX11_choose_97 : decode cX11_choose 97 = .ok (.bipush 31, 2) := by decide +kernel
theorem dX11_choose_99 : decode cX11_choose 99 = .ok (.if_icmp .ge 21, 3) := by decide +kernel
theorem dX11_choose_102 : decode cX11_choose 102 = .ok (.iload_n 2, 1) := by decide +kernel
theorem dX11_choose_103 : decode cX11_choose 103 = .ok (.aload_n 0, 1) := by decide +kernel
theorem dX11_choose_104 : decode cX11_choose 104 = .ok (.getfield 32, 3) := by decide +kernel
theorem dX11_choose_107 : decode cX11_choose 107 = .ok (.iload_n 3, 1) := by decide +kernel
theorem dX11_choose_108 : decode cX11_choose 108 = .ok (.iaload, 1) := by decide +kernel
theorem dX11_choose_109 : decode cX11_choose 109 = .ok (.ishr, 1) := by decide +kernel
theorem dX11_choose_110 : decode cX11_choose 110 = .ok (.iconst 1, 1) := by decide +kernel
theorem dX11_choose_111 : decode cX11_choose 111 = .ok (.iand, 1) := by decide +kernel
theorem dX11_choose_112 : decode cX11_choose 112 = .ok (.iconst 1, 1) := by decide +kernel
theorem dX11_choose_113 : decode cX11_choose 113 = .ok (.if_icmp .ne 7, 3) := by decide +kernel
theorem dX11_choose_116 : decode cX11_choose 116 = .ok (.iconst 1, 1) := by decide +kernel
theorem dX11_choose_117 : decode cX11_choose 117 = .ok (.goto 4, 3) := by decide +kernel
theorem dX11_choose_120 : decode cX11_choose 120 = .ok (.iconst 0, 1) := by decide +kernel
theorem dX11_choose_121 : decode cX11_choose 121 = .ok (.bastore, 1) := by decide +kernel
theorem dX11_choose_122 : decode cX11_choose 122 = .ok (.iinc 3 1, 3) := by decide +kernel
theorem dX11_choose_125 : decode cX11_choose 125 = .ok (.goto (-64), 3) := by decide +kernel
theorem dX11_choose_128 : decode cX11_choose 128 = .ok (.aload_n 0, 1) := by decide +kernel
theorem dX11_choose_129 : decode cX11_choose 129 = .ok (.getfield 20, 3) := by decide +kernel
theorem dX11_choose_132 : decode cX11_choose 132 = .ok (.iconst 0, 1) := by decide +kernel
theorem dX11_choose_133 : decode cX11_choose 133 = .ok (.aaload, 1) := by decide +kernel
theorem dX11_choose_134 : decode cX11_choose 134 = .ok (.invokestatic 170, 3) := by decide +kernel
theorem dX11_choose_137 : decode cX11_choose 137 = .ok (.ireturn, 1) := by decide +kernel
theorem dX11_block_0 : decode cX11_block 0 = .ok (.aload_n 0, 1) := by decide +kernel
theorem dX11_block_1 : decode cX11_block 1 = .ok (.iload_n 1, 1) := by decide +kernel
theorem dX11_block_2 : decode cX11_block 2 = .ok (.invokevirtual 125, 3) := by decide +kernel
theorem dX11_block_5 : decode cX11_block 5 = .ok (.ifCond .eq 17, 3) := by decide +kernel
theorem dX11_block_8 : decode cX11_block 8 = .ok (.iload_n 1, 1) := by decide +kernel
theorem dX11_block_9 : decode cX11_block 9 = .ok (.invokestatic 128, 3) := by decide +kernel
theorem dX11_block_12 : decode cX11_block 12 = .ok (.aload_n 0, 1) := by decide +kernel
theorem dX11_block_13 : decode cX11_block 13 = .ok (.getfield 11, 3) := by decide +kernel
theorem dX11_block_16 : decode cX11_block 16 = .ok (.bipush 42, 2) := by decide +kernel
theorem dX11_block_18 : decode cX11_block 18 = .ok (.iaload, 1) := by decide +kernel
theorem dX11_block_19 : decode cX11_block 19 = .ok (.if_icmp .eq 5, 3) := by decide +kernel
theorem dX11_block_22 : decode cX11_block 22 = .ok (.iconst (-1), 1) := by decide +kernel
theorem dX11_block_23 : decode cX11_block 23 = .ok (.ireturn, 1) := by decide +kernel
theorem dX11_block_24 : decode cX11_block 24 = .ok (.aload_n 0, 1) := by decide +kernel
theorem dX11_block_25 : decode cX11_block 25 = .ok (.getfield 20, 3) := by decide +kernel
theorem dX11_block_28 : decode cX11_block 28 = .ok (.iconst 0, 1) := by decide +kernel
theorem dX11_block_29 : decode cX11_block 29 = .ok (.aaload, 1) := by decide +kernel
theorem dX11_block_30 : decode cX11_block 30 = .ok (.iload_n 1, 1) := by decide +kernel
theorem dX11_block_31 : decode cX11_block 31 = .ok (.aload_n 0, 1) := by decide +kernel
theorem dX11_block_32 : decode cX11_block 32 = .ok (.getfield 20, 3) := by decide +kernel
theorem dX11_block_35 : decode cX11_block 35 = .ok (.iconst 0, 1) := by decide +kernel
theorem dX11_block_36 : decode cX11_block 36 = .ok (.aaload, 1) := by decide +kernel
theorem dX11_block_37 : decode cX11_block 37 = .ok (.iload_n 1, 1) := by decide +kernel
theorem dX11_block_38 : decode cX11_block 38 = .ok (.baload, 1) := by decide +kernel
theorem dX11_block_39 : decode cX11_block 39 = .ok (.ifCond .ne 7, 3) := by decide +kernel
theorem dX11_block_42 : decode cX11_block 42 = .ok (.iconst 1, 1) := by decide +kernel
theorem dX11_block_43 : decode cX11_block 43 = .ok (.goto 4, 3) := by decide +kernel
theorem dX11_block_46 : decode cX11_block 46 = .ok (.iconst 0, 1) := by decide +kernel
theorem dX11_block_47 : decode cX11_block 47 = .ok (.bastore, 1) := by decide +kernel
theorem dX11_block_48 : decode cX11_block 48 = .ok (.aload_n 0, 1) := by decide +kernel
theorem dX11_block_49 : decode cX11_block 49 = .ok (.getfield 20, 3) := by decide +kernel
theorem dX11_block_52 : decode cX11_block 52 = .ok (.iconst 0, 1) := by decide +kernel
theorem dX11_block_53 : decode cX11_block 53 = .ok (.aaload, 1) := by decide +kernel
theorem dX11_block_54 : decode cX11_block 54 = .ok (.invokestatic 170, 3) := by decide +kernel
theorem dX11_block_57 : decode cX11_block 57 = .ok (.ireturn, 1) := by decide +kernel
theorem dX11_blockOf_0 : decode cX11_blockOf 0 = .ok (.iload_n 1, 1) := by decide +kernel
theorem dX11_blockOf_1 : decode cX11_blockOf 1 = .ok (.ifCond .ge 5, 3) := by decide +kernel
theorem dX11_blockOf_4 : decode cX11_blockOf 4 = .ok (.iconst (-1), 1) := by decide +kernel
theorem dX11_blockOf_5 : decode cX11_blockOf 5 = .ok (.ireturn, 1) := by decide +kernel
theorem dX11_blockOf_6 : decode cX11_blockOf 6 = .ok (.iload_n 1, 1) := by decide +kernel
theorem dX11_blockOf_7 : decode cX11_blockOf 7 = .ok (.istore_n 2, 1) := by decide +kernel
theorem dX11_blockOf_8 : decode cX11_blockOf 8 = .ok (.iconst 0, 1) := by decide +kernel
theorem dX11_blockOf_9 : decode cX11_blockOf 9 = .ok (.istore_n 3, 1) := by decide +kernel
theorem dX11_blockOf_10 : decode cX11_blockOf 10 = .ok (.iload_n 3, 1) := by decide +kernel
theorem dX11_blockOf_11 : decode cX11_blockOf 11 = .ok (.sipush 256, 3) := by decide +kernel
theorem dX11_blockOf_14 : decode cX11_blockOf 14 = .ok (.if_icmp .ge 29, 3) := by decide +kernel
theorem dX11_blockOf_17 : decode cX11_blockOf 17 = .ok (.aload_n 0, 1) := by decide +kernel
theorem dX11_blockOf_18 : decode cX11_blockOf 18 = .ok (.getfield 20, 3) := by decide +kernel
theorem dX11_blockOf_21 : decode cX11_blockOf 21 = .ok (.iconst 0, 1) := by decide +kernel
theorem dX11_blockOf_22 : decode cX11_blockOf 22 = .ok (.aaload, 1) := by decide +kernel
theorem dX11_blockOf_23 : decode cX11_blockOf 23 = .ok (.iload_n 3, 1) := by decide +kernel
theorem dX11_blockOf_24 : decode cX11_blockOf 24 = .ok (.baload, 1) := by decide +kernel
theorem dX11_blockOf_25 : decode cX11_blockOf 25 = .ok (.ifCond .eq 12, 3) := by decide +kernel
theorem dX11_blockOf_28 : decode cX11_blockOf 28 = .ok (.iload_n 2, 1) := by decide +kernel
theorem dX11_blockOf_29 : decode cX11_blockOf 29 = .ok (.ifCond .ne 5, 3) := by decide +kernel
theorem dX11_blockOf_32 : decode cX11_blockOf 32 = .ok (.iload_n 3, 1) := by decide +kernel
theorem dX11_blockOf_33 : decode cX11_blockOf 33 = .ok (.ireturn, 1) := by decide +kernel
theorem dX11_blockOf_34 : decode cX11_blockOf 34 = .ok (.iinc 2 (-1), 3) := by decide +kernel
theorem dX11_blockOf_37 : decode cX11_blockOf 37 = .ok (.iinc 3 1, 3) := by decide +kernel
theorem dX11_blockOf_40 : decode cX11_blockOf 40 = .ok (.goto (-30), 3) := by decide +kernel
theorem dX11_blockOf_43 : decode cX11_blockOf 43 = .ok (.bipush (-5), 2) := by decide +kernel
theorem dX11_blockOf_45 : decode cX11_blockOf 45 = .ok (.ireturn, 1) := by decide +kernel
theorem dX11_shareOf_0 : decode cX11_shareOf 0 = .ok (.iconst (-1), 1) := by decide +kernel
theorem dX11_shareOf_1 : decode cX11_shareOf 1 = .ok (.istore_n 3, 1) := by decide +kernel
theorem dX11_shareOf_2 : decode cX11_shareOf 2 = .ok (.iconst 0, 1) := by decide +kernel
theorem dX11_shareOf_3 : decode cX11_shareOf 3 = .ok (.istore 4, 2) := by decide +kernel
theorem dX11_shareOf_5 : decode cX11_shareOf 5 = .ok (.iload 4, 2) := by decide +kernel
theorem dX11_shareOf_7 : decode cX11_shareOf 7 = .ok (.sipush 256, 3) := by decide +kernel
theorem dX11_shareOf_10 : decode cX11_shareOf 10 = .ok (.if_icmp .ge 90, 3) := by decide +kernel
theorem dX11_shareOf_13 : decode cX11_shareOf 13 = .ok (.iload 4, 2) := by decide +kernel
theorem dX11_shareOf_15 : decode cX11_shareOf 15 = .ok (.iload_n 1, 1) := by decide +kernel
theorem dX11_shareOf_16 : decode cX11_shareOf 16 = .ok (.iconst (-1), 1) := by decide +kernel
theorem dX11_shareOf_17 : decode cX11_shareOf 17 = .ok (.ixor, 1) := by decide +kernel
theorem dX11_shareOf_18 : decode cX11_shareOf 18 = .ok (.iand, 1) := by decide +kernel
theorem dX11_shareOf_19 : decode cX11_shareOf 19 = .ok (.ifCond .ne 75, 3) := by decide +kernel
theorem dX11_shareOf_22 : decode cX11_shareOf 22 = .ok (.iload 4, 2) := by decide +kernel
theorem dX11_shareOf_24 : decode cX11_shareOf 24 = .ok (.invokestatic 128, 3) := by decide +kernel
theorem dX11_shareOf_27 : decode cX11_shareOf 27 = .ok (.iload_n 2, 1) := by decide +kernel
theorem dX11_shareOf_28 : decode cX11_shareOf 28 = .ok (.if_icmp .ne 66, 3) := by decide +kernel
theorem dX11_shareOf_31 : decode cX11_shareOf 31 = .ok (.iconst 0, 1) := by decide +kernel
theorem dX11_shareOf_32 : decode cX11_shareOf 32 = .ok (.istore 5, 2) := by decide +kernel
theorem dX11_shareOf_34 : decode cX11_shareOf 34 = .ok (.iconst 0, 1) := by decide +kernel
theorem dX11_shareOf_35 : decode cX11_shareOf 35 = .ok (.istore 6, 2) := by decide +kernel
theorem dX11_shareOf_37 : decode cX11_shareOf 37 = .ok (.iload 6, 2) := by decide +kernel
theorem dX11_shareOf_39 : decode cX11_shareOf 39 = .ok (.sipush 256, 3) := by decide +kernel
theorem dX11_shareOf_42 : decode cX11_shareOf 42 = .ok (.if_icmp .ge 36, 3) := by decide +kernel
theorem dX11_shareOf_45 : decode cX11_shareOf 45 = .ok (.iload 5, 2) := by decide +kernel
theorem dX11_shareOf_47 : decode cX11_shareOf 47 = .ok (.aload_n 0, 1) := by decide +kernel
theorem dX11_shareOf_48 : decode cX11_shareOf 48 = .ok (.iload 6, 2) := by decide +kernel
theorem dX11_shareOf_50 : decode cX11_shareOf 50 = .ok (.baload, 1) := by decide +kernel
theorem dX11_shareOf_51 : decode cX11_shareOf 51 = .ok (.ifCond .eq 17, 3) := by decide +kernel
theorem dX11_shareOf_54 : decode cX11_shareOf 54 = .ok (.iload 4, 2) := by decide +kernel
theorem dX11_shareOf_56 : decode cX11_shareOf 56 = .ok (.iload 6, 2) := by decide +kernel
theorem dX11_shareOf_58 : decode cX11_shareOf 58 = .ok (.iconst (-1), 1) := by decide +kernel
theorem dX11_shareOf_59 : decode cX11_shareOf 59 = .ok (.ixor, 1) := by decide +kernel
theorem dX11_shareOf_60 : decode cX11_shareOf 60 = .ok (.iand, 1) := by decide +kernel
theorem dX11_shareOf_61 : decode cX11_shareOf 61 = .ok (.ifCond .ne 7, 3) := by decide +kernel
theorem dX11_shareOf_64 : decode cX11_shareOf 64 = .ok (.iconst 1, 1) := by decide +kernel
theorem dX11_shareOf_65 : decode cX11_shareOf 65 = .ok (.goto 4, 3) := by decide +kernel
theorem dX11_shareOf_68 : decode cX11_shareOf 68 = .ok (.iconst 0, 1) := by decide +kernel
theorem dX11_shareOf_69 : decode cX11_shareOf 69 = .ok (.iadd, 1) := by decide +kernel
theorem dX11_shareOf_70 : decode cX11_shareOf 70 = .ok (.istore 5, 2) := by decide +kernel
theorem dX11_shareOf_72 : decode cX11_shareOf 72 = .ok (.iinc 6 1, 3) := by decide +kernel
theorem dX11_shareOf_75 : decode cX11_shareOf 75 = .ok (.goto (-38), 3) := by decide +kernel
theorem dX11_shareOf_78 : decode cX11_shareOf 78 = .ok (.iload_n 3, 1) := by decide +kernel
theorem dX11_shareOf_79 : decode cX11_shareOf 79 = .ok (.ifCond .lt 12, 3) := by decide +kernel
theorem dX11_shareOf_82 : decode cX11_shareOf 82 = .ok (.iload 5, 2) := by decide +kernel
theorem dX11_shareOf_84 : decode cX11_shareOf 84 = .ok (.iload_n 3, 1) := by decide +kernel
theorem dX11_shareOf_85 : decode cX11_shareOf 85 = .ok (.if_icmp .eq 6, 3) := by decide +kernel
theorem dX11_shareOf_88 : decode cX11_shareOf 88 = .ok (.bipush (-5), 2) := by decide +kernel
theorem dX11_shareOf_90 : decode cX11_shareOf 90 = .ok (.ireturn, 1) := by decide +kernel
theorem dX11_shareOf_91 : decode cX11_shareOf 91 = .ok (.iload 5, 2) := by decide +kernel
theorem dX11_shareOf_93 : decode cX11_shareOf 93 = .ok (.istore_n 3, 1) := by decide +kernel
theorem dX11_shareOf_94 : decode cX11_shareOf 94 = .ok (.iinc 4 1, 3) := by decide +kernel
theorem dX11_shareOf_97 : decode cX11_shareOf 97 = .ok (.goto (-92), 3) := by decide +kernel
theorem dX11_shareOf_100 : decode cX11_shareOf 100 = .ok (.iload_n 3, 1) := by decide +kernel
theorem dX11_shareOf_101 : decode cX11_shareOf 101 = .ok (.ireturn, 1) := by decide +kernel
theorem dX11_strengthOf_0 : decode cX11_strengthOf 0 = .ok (.iconst 0, 1) := by decide +kernel
theorem dX11_strengthOf_1 : decode cX11_strengthOf 1 = .ok (.istore_n 3, 1) := by decide +kernel
theorem dX11_strengthOf_2 : decode cX11_strengthOf 2 = .ok (.iload_n 3, 1) := by decide +kernel
theorem dX11_strengthOf_3 : decode cX11_strengthOf 3 = .ok (.iload_n 2, 1) := by decide +kernel
theorem dX11_strengthOf_4 : decode cX11_strengthOf 4 = .ok (.if_icmp .ge 20, 3) := by decide +kernel
theorem dX11_strengthOf_7 : decode cX11_strengthOf 7 = .ok (.aload_n 0, 1) := by decide +kernel
theorem dX11_strengthOf_8 : decode cX11_strengthOf 8 = .ok (.iload_n 1, 1) := by decide +kernel
theorem dX11_strengthOf_9 : decode cX11_strengthOf 9 = .ok (.iload_n 3, 1) := by decide +kernel
theorem dX11_strengthOf_10 : decode cX11_strengthOf 10 = .ok (.iconst 1, 1) := by decide +kernel
theorem dX11_strengthOf_11 : decode cX11_strengthOf 11 = .ok (.iadd, 1) := by decide +kernel
theorem dX11_strengthOf_12 : decode cX11_strengthOf 12 = .ok (.invokestatic 174, 3) := by decide +kernel
theorem dX11_strengthOf_15 : decode cX11_strengthOf 15 = .ok (.ifCond .lt 9, 3) := by decide +kernel
theorem dX11_strengthOf_18 : decode cX11_strengthOf 18 = .ok (.iinc 3 1, 3) := by decide +kernel
theorem dX11_strengthOf_21 : decode cX11_strengthOf 21 = .ok (.goto (-19), 3) := by decide +kernel
theorem dX11_strengthOf_24 : decode cX11_strengthOf 24 = .ok (.iload_n 3, 1) := by decide +kernel
theorem dX11_strengthOf_25 : decode cX11_strengthOf 25 = .ok (.ireturn, 1) := by decide +kernel
theorem dX11_blocks_0 : decode cX11_blocks 0 = .ok (.iconst 0, 1) := by decide +kernel
theorem dX11_blocks_1 : decode cX11_blocks 1 = .ok (.istore_n 2, 1) := by decide +kernel
theorem dX11_blocks_2 : decode cX11_blocks 2 = .ok (.iconst 0, 1) := by decide +kernel
theorem dX11_blocks_3 : decode cX11_blocks 3 = .ok (.istore_n 3, 1) := by decide +kernel
theorem dX11_blocks_4 : decode cX11_blocks 4 = .ok (.iload_n 3, 1) := by decide +kernel
theorem dX11_blocks_5 : decode cX11_blocks 5 = .ok (.sipush 256, 3) := by decide +kernel
theorem dX11_blocks_8 : decode cX11_blocks 8 = .ok (.if_icmp .ge 28, 3) := by decide +kernel
theorem dX11_blocks_11 : decode cX11_blocks 11 = .ok (.iload_n 2, 1) := by decide +kernel
theorem dX11_blocks_12 : decode cX11_blocks 12 = .ok (.aload_n 0, 1) := by decide +kernel
theorem dX11_blocks_13 : decode cX11_blocks 13 = .ok (.getfield 20, 3) := by decide +kernel
theorem dX11_blocks_16 : decode cX11_blocks 16 = .ok (.iconst 0, 1) := by decide +kernel
theorem dX11_blocks_17 : decode cX11_blocks 17 = .ok (.aaload, 1) := by decide +kernel
theorem dX11_blocks_18 : decode cX11_blocks 18 = .ok (.iload_n 3, 1) := by decide +kernel
theorem dX11_blocks_19 : decode cX11_blocks 19 = .ok (.baload, 1) := by decide +kernel
theorem dX11_blocks_20 : decode cX11_blocks 20 = .ok (.ifCond .eq 7, 3) := by decide +kernel
theorem dX11_blocks_23 : decode cX11_blocks 23 = .ok (.iload_n 3, 1) := by decide +kernel
theorem dX11_blocks_24 : decode cX11_blocks 24 = .ok (.goto 4, 3) := by decide +kernel
theorem dX11_blocks_27 : decode cX11_blocks 27 = .ok (.iconst 0, 1) := by decide +kernel
theorem dX11_blocks_28 : decode cX11_blocks 28 = .ok (.ior, 1) := by decide +kernel
theorem dX11_blocks_29 : decode cX11_blocks 29 = .ok (.istore_n 2, 1) := by decide +kernel
theorem dX11_blocks_30 : decode cX11_blocks 30 = .ok (.iinc 3 1, 3) := by decide +kernel
theorem dX11_blocks_33 : decode cX11_blocks 33 = .ok (.goto (-29), 3) := by decide +kernel
theorem dX11_blocks_36 : decode cX11_blocks 36 = .ok (.iload_n 1, 1) := by decide +kernel
theorem dX11_blocks_37 : decode cX11_blocks 37 = .ok (.tableswitch 75 0 3 #[31, 39, 49, 70], 31) := by decide +kernel
theorem dX11_blocks_68 : decode cX11_blocks 68 = .ok (.aload_n 0, 1) := by decide +kernel
theorem dX11_blocks_69 : decode cX11_blocks 69 = .ok (.getfield 11, 3) := by decide +kernel
theorem dX11_blocks_72 : decode cX11_blocks 72 = .ok (.bipush 42, 2) := by decide +kernel
theorem dX11_blocks_74 : decode cX11_blocks 74 = .ok (.iaload, 1) := by decide +kernel
theorem dX11_blocks_75 : decode cX11_blocks 75 = .ok (.ireturn, 1) := by decide +kernel
theorem dX11_blocks_76 : decode cX11_blocks 76 = .ok (.aload_n 0, 1) := by decide +kernel
theorem dX11_blocks_77 : decode cX11_blocks 77 = .ok (.getfield 20, 3) := by decide +kernel
theorem dX11_blocks_80 : decode cX11_blocks 80 = .ok (.iconst 0, 1) := by decide +kernel
theorem dX11_blocks_81 : decode cX11_blocks 81 = .ok (.aaload, 1) := by decide +kernel
theorem dX11_blocks_82 : decode cX11_blocks 82 = .ok (.invokestatic 170, 3) := by decide +kernel
theorem dX11_blocks_85 : decode cX11_blocks 85 = .ok (.ireturn, 1) := by decide +kernel
theorem dX11_blocks_86 : decode cX11_blocks 86 = .ok (.aload_n 0, 1) := by decide +kernel
theorem dX11_blocks_87 : decode cX11_blocks 87 = .ok (.getfield 20, 3) := by decide +kernel
theorem dX11_blocks_90 : decode cX11_blocks 90 = .ok (.iconst 0, 1) := by decide +kernel
theorem dX11_blocks_91 : decode cX11_blocks 91 = .ok (.aaload, 1) := by decide +kernel
theorem dX11_blocks_92 : decode cX11_blocks 92 = .ok (.aload_n 0, 1) := by decide +kernel
theorem dX11_blocks_93 : decode cX11_blocks 93 = .ok (.invokevirtual 81, 3) := by decide +kernel
theorem dX11_blocks_96 : decode cX11_blocks 96 = .ok (.aload_n 0, 1) := by decide +kernel
theorem dX11_blocks_97 : decode cX11_blocks 97 = .ok (.getfield 11, 3) := by decide +kernel
theorem dX11_blocks_100 : decode cX11_blocks 100 = .ok (.bipush 42, 2) := by decide +kernel
theorem dX11_blocks_102 : decode cX11_blocks 102 = .ok (.iaload, 1) := by decide +kernel
theorem dX11_blocks_103 : decode cX11_blocks 103 = .ok (.invokestatic 178, 3) := by decide +kernel
theorem dX11_blocks_106 : decode cX11_blocks 106 = .ok (.ireturn, 1) := by decide +kernel
theorem dX11_blocks_107 : decode cX11_blocks 107 = .ok (.iload_n 2, 1) := by decide +kernel
theorem dX11_blocks_108 : decode cX11_blocks 108 = .ok (.invokestatic 128, 3) := by decide +kernel
theorem dX11_blocks_111 : decode cX11_blocks 111 = .ok (.ireturn, 1) := by decide +kernel
theorem dX11_blocks_112 : decode cX11_blocks 112 = .ok (.iconst (-1), 1) := by decide +kernel
theorem dX11_blocks_113 : decode cX11_blocks 113 = .ok (.ireturn, 1) := by decide +kernel
theorem dX11_share_0 : decode cX11_share 0 = .ok (.iload_n 1, 1) := by decide +kernel
theorem dX11_share_1 : decode cX11_share 1 = .ok (.i2l, 1) := by decide +kernel
theorem dX11_share_2 : decode cX11_share 2 = .ok (.lconst 0, 1) := by decide +kernel
theorem dX11_share_3 : decode cX11_share 3 = .ok (.aload_n 0, 1) := by decide +kernel
theorem dX11_share_4 : decode cX11_share 4 = .ok (.getfield 11, 3) := by decide +kernel
theorem dX11_share_7 : decode cX11_share 7 = .ok (.bipush 42, 2) := by decide +kernel
theorem dX11_share_9 : decode cX11_share 9 = .ok (.iaload, 1) := by decide +kernel
theorem dX11_share_10 : decode cX11_share 10 = .ok (.i2l, 1) := by decide +kernel
theorem dX11_share_11 : decode cX11_share 11 = .ok (.invokestatic 85, 3) := by decide +kernel
theorem dX11_share_14 : decode cX11_share 14 = .ok (.ifCond .eq 20, 3) := by decide +kernel
theorem dX11_share_17 : decode cX11_share 17 = .ok (.aload_n 0, 1) := by decide +kernel
theorem dX11_share_18 : decode cX11_share 18 = .ok (.getfield 20, 3) := by decide +kernel
theorem dX11_share_21 : decode cX11_share 21 = .ok (.iconst 0, 1) := by decide +kernel
theorem dX11_share_22 : decode cX11_share 22 = .ok (.aaload, 1) := by decide +kernel
theorem dX11_share_23 : decode cX11_share 23 = .ok (.aload_n 0, 1) := by decide +kernel
theorem dX11_share_24 : decode cX11_share 24 = .ok (.invokevirtual 81, 3) := by decide +kernel
theorem dX11_share_27 : decode cX11_share 27 = .ok (.iload_n 1, 1) := by decide +kernel
theorem dX11_share_28 : decode cX11_share 28 = .ok (.invokestatic 174, 3) := by decide +kernel
theorem dX11_share_31 : decode cX11_share 31 = .ok (.goto 5, 3) := by decide +kernel
theorem dX11_share_34 : decode cX11_share 34 = .ok (.bipush (-2), 2) := by decide +kernel
theorem dX11_share_36 : decode cX11_share 36 = .ok (.ireturn, 1) := by decide +kernel
theorem dX11_meets_0 : decode cX11_meets 0 = .ok (.aload_n 0, 1) := by decide +kernel
theorem dX11_meets_1 : decode cX11_meets 1 = .ok (.iload_n 1, 1) := by decide +kernel
theorem dX11_meets_2 : decode cX11_meets 2 = .ok (.invokevirtual 125, 3) := by decide +kernel
theorem dX11_meets_5 : decode cX11_meets 5 = .ok (.ifCond .ne 5, 3) := by decide +kernel
theorem dX11_meets_8 : decode cX11_meets 8 = .ok (.iconst (-1), 1) := by decide +kernel
theorem dX11_meets_9 : decode cX11_meets 9 = .ok (.ireturn, 1) := by decide +kernel
theorem dX11_meets_10 : decode cX11_meets 10 = .ok (.iload_n 2, 1) := by decide +kernel
theorem dX11_meets_11 : decode cX11_meets 11 = .ok (.i2l, 1) := by decide +kernel
theorem dX11_meets_12 : decode cX11_meets 12 = .ok (.lconst 0, 1) := by decide +kernel
theorem dX11_meets_13 : decode cX11_meets 13 = .ok (.ldc2_w 91, 3) := by decide +kernel
theorem dX11_meets_16 : decode cX11_meets 16 = .ok (.invokestatic 85, 3) := by decide +kernel
theorem dX11_meets_19 : decode cX11_meets 19 = .ok (.ifCond .ne 6, 3) := by decide +kernel
theorem dX11_meets_22 : decode cX11_meets 22 = .ok (.bipush (-2), 2) := by decide +kernel
theorem dX11_meets_24 : decode cX11_meets 24 = .ok (.ireturn, 1) := by decide +kernel
theorem dX11_meets_25 : decode cX11_meets 25 = .ok (.iconst 0, 1) := by decide +kernel
theorem dX11_meets_26 : decode cX11_meets 26 = .ok (.istore_n 3, 1) := by decide +kernel
theorem dX11_meets_27 : decode cX11_meets 27 = .ok (.iconst 0, 1) := by decide +kernel
theorem dX11_meets_28 : decode cX11_meets 28 = .ok (.istore 4, 2) := by decide +kernel
theorem dX11_meets_30 : decode cX11_meets 30 = .ok (.iload 4, 2) := by decide +kernel
theorem dX11_meets_32 : decode cX11_meets 32 = .ok (.sipush 256, 3) := by decide +kernel
theorem dX11_meets_35 : decode cX11_meets 35 = .ok (.if_icmp .ge 40, 3) := by decide +kernel
theorem dX11_meets_38 : decode cX11_meets 38 = .ok (.iload_n 3, 1) := by decide +kernel
theorem dX11_meets_39 : decode cX11_meets 39 = .ok (.aload_n 0, 1) := by decide +kernel
theorem dX11_meets_40 : decode cX11_meets 40 = .ok (.getfield 20, 3) := by decide +kernel
theorem dX11_meets_43 : decode cX11_meets 43 = .ok (.iconst 0, 1) := by decide +kernel
theorem dX11_meets_44 : decode cX11_meets 44 = .ok (.aaload, 1) := by decide +kernel
theorem dX11_meets_45 : decode cX11_meets 45 = .ok (.iload 4, 2) := by decide +kernel
theorem dX11_meets_47 : decode cX11_meets 47 = .ok (.baload, 1) := by decide +kernel
theorem dX11_meets_48 : decode cX11_meets 48 = .ok (.ifCond .eq 18, 3) := by decide +kernel
theorem dX11_meets_51 : decode cX11_meets 51 = .ok (.iload 4, 2) := by decide +kernel
theorem dX11_meets_53 : decode cX11_meets 53 = .ok (.iload_n 1, 1) := by decide +kernel
theorem dX11_meets_54 : decode cX11_meets 54 = .ok (.iand, 1) := by decide +kernel
theorem dX11_meets_55 : decode cX11_meets 55 = .ok (.invokestatic 128, 3) := by decide +kernel
theorem dX11_meets_58 : decode cX11_meets 58 = .ok (.iload_n 2, 1) := by decide +kernel
theorem dX11_meets_59 : decode cX11_meets 59 = .ok (.if_icmp .ne 7, 3) := by decide +kernel
theorem dX11_meets_62 : decode cX11_meets 62 = .ok (.iconst 1, 1) := by decide +kernel
theorem dX11_meets_63 : decode cX11_meets 63 = .ok (.goto 4, 3) := by decide +kernel
theorem dX11_meets_66 : decode cX11_meets 66 = .ok (.iconst 0, 1) := by decide +kernel
theorem dX11_meets_67 : decode cX11_meets 67 = .ok (.iadd, 1) := by decide +kernel
theorem dX11_meets_68 : decode cX11_meets 68 = .ok (.istore_n 3, 1) := by decide +kernel
theorem dX11_meets_69 : decode cX11_meets 69 = .ok (.iinc 4 1, 3) := by decide +kernel
theorem dX11_meets_72 : decode cX11_meets 72 = .ok (.goto (-42), 3) := by decide +kernel
theorem dX11_meets_75 : decode cX11_meets 75 = .ok (.iload_n 3, 1) := by decide +kernel
theorem dX11_meets_76 : decode cX11_meets 76 = .ok (.ireturn, 1) := by decide +kernel
theorem dX11_turned_0 : decode cX11_turned 0 = .ok (.aload_n 0, 1) := by decide +kernel
theorem dX11_turned_1 : decode cX11_turned 1 = .ok (.getfield 11, 3) := by decide +kernel
theorem dX11_turned_4 : decode cX11_turned 4 = .ok (.bipush 42, 2) := by decide +kernel
theorem dX11_turned_6 : decode cX11_turned 6 = .ok (.iaload, 1) := by decide +kernel
theorem dX11_turned_7 : decode cX11_turned 7 = .ok (.aload_n 0, 1) := by decide +kernel
theorem dX11_turned_8 : decode cX11_turned 8 = .ok (.getfield 11, 3) := by decide +kernel
theorem dX11_turned_11 : decode cX11_turned 11 = .ok (.iconst 0, 1) := by decide +kernel
theorem dX11_turned_12 : decode cX11_turned 12 = .ok (.iaload, 1) := by decide +kernel
theorem dX11_turned_13 : decode cX11_turned 13 = .ok (.if_icmp .ne 6, 3) := by decide +kernel
theorem dX11_turned_16 : decode cX11_turned 16 = .ok (.bipush (-3), 2) := by decide +kernel
theorem dX11_turned_18 : decode cX11_turned 18 = .ok (.ireturn, 1) := by decide +kernel
theorem dX11_turned_19 : decode cX11_turned 19 = .ok (.iconst 0, 1) := by decide +kernel
theorem dX11_turned_20 : decode cX11_turned 20 = .ok (.istore_n 1, 1) := by decide +kernel
theorem dX11_turned_21 : decode cX11_turned 21 = .ok (.iload_n 1, 1) := by decide +kernel
theorem dX11_turned_22 : decode cX11_turned 22 = .ok (.sipush 256, 3) := by decide +kernel
theorem dX11_turned_25 : decode cX11_turned 25 = .ok (.if_icmp .ge 23, 3) := by decide +kernel
theorem dX11_turned_28 : decode cX11_turned 28 = .ok (.aload_n 0, 1) := by decide +kernel
theorem dX11_turned_29 : decode cX11_turned 29 = .ok (.getfield 49, 3) := by decide +kernel
theorem dX11_turned_32 : decode cX11_turned 32 = .ok (.iload_n 1, 1) := by decide +kernel
theorem dX11_turned_33 : decode cX11_turned 33 = .ok (.aload_n 0, 1) := by decide +kernel
theorem dX11_turned_34 : decode cX11_turned 34 = .ok (.getfield 20, 3) := by decide +kernel
theorem dX11_turned_37 : decode cX11_turned 37 = .ok (.iconst 0, 1) := by decide +kernel
theorem dX11_turned_38 : decode cX11_turned 38 = .ok (.aaload, 1) := by decide +kernel
theorem dX11_turned_39 : decode cX11_turned 39 = .ok (.iload_n 1, 1) := by decide +kernel
theorem dX11_turned_40 : decode cX11_turned 40 = .ok (.baload, 1) := by decide +kernel
theorem dX11_turned_41 : decode cX11_turned 41 = .ok (.bastore, 1) := by decide +kernel
theorem dX11_turned_42 : decode cX11_turned 42 = .ok (.iinc 1 1, 3) := by decide +kernel
theorem dX11_turned_45 : decode cX11_turned 45 = .ok (.goto (-24), 3) := by decide +kernel
theorem dX11_turned_48 : decode cX11_turned 48 = .ok (.iconst 0, 1) := by decide +kernel
theorem dX11_turned_49 : decode cX11_turned 49 = .ok (.istore_n 1, 1) := by decide +kernel
theorem dX11_turned_50 : decode cX11_turned 50 = .ok (.iload_n 1, 1) := by decide +kernel
theorem dX11_turned_51 : decode cX11_turned 51 = .ok (.sipush 256, 3) := by decide +kernel
theorem dX11_turned_54 : decode cX11_turned 54 = .ok (.if_icmp .ge 46, 3) := by decide +kernel
theorem dX11_turned_57 : decode cX11_turned 57 = .ok (.aload_n 0, 1) := by decide +kernel
theorem dX11_turned_58 : decode cX11_turned 58 = .ok (.getfield 20, 3) := by decide +kernel
theorem dX11_turned_61 : decode cX11_turned 61 = .ok (.iconst 0, 1) := by decide +kernel
theorem dX11_turned_62 : decode cX11_turned 62 = .ok (.aaload, 1) := by decide +kernel
theorem dX11_turned_63 : decode cX11_turned 63 = .ok (.iload_n 1, 1) := by decide +kernel
theorem dX11_turned_64 : decode cX11_turned 64 = .ok (.iload_n 1, 1) := by decide +kernel
theorem dX11_turned_65 : decode cX11_turned 65 = .ok (.aload_n 0, 1) := by decide +kernel
theorem dX11_turned_66 : decode cX11_turned 66 = .ok (.invokevirtual 81, 3) := by decide +kernel
theorem dX11_turned_69 : decode cX11_turned 69 = .ok (.if_icmp .gt 23, 3) := by decide +kernel
theorem dX11_turned_72 : decode cX11_turned 72 = .ok (.aload_n 0, 1) := by decide +kernel
theorem dX11_turned_73 : decode cX11_turned 73 = .ok (.getfield 49, 3) := by decide +kernel
theorem dX11_turned_76 : decode cX11_turned 76 = .ok (.aload_n 0, 1) := by decide +kernel
theorem dX11_turned_77 : decode cX11_turned 77 = .ok (.invokevirtual 81, 3) := by decide +kernel
theorem dX11_turned_80 : decode cX11_turned 80 = .ok (.iload_n 1, 1) := by decide +kernel
theorem dX11_turned_81 : decode cX11_turned 81 = .ok (.iconst (-1), 1) := by decide +kernel
theorem dX11_turned_82 : decode cX11_turned 82 = .ok (.ixor, 1) := by decide +kernel
theorem dX11_turned_83 : decode cX11_turned 83 = .ok (.iand, 1) := by decide +kernel
theorem dX11_turned_84 : decode cX11_turned 84 = .ok (.baload, 1) := by decide +kernel
theorem dX11_turned_85 : decode cX11_turned 85 = .ok (.ifCond .eq 7, 3) := by decide +kernel
theorem dX11_turned_88 : decode cX11_turned 88 = .ok (.iconst 1, 1) := by decide +kernel
theorem dX11_turned_89 : decode cX11_turned 89 = .ok (.goto 4, 3) := by decide +kernel
theorem dX11_turned_92 : decode cX11_turned 92 = .ok (.iconst 0, 1) := by decide +kernel
theorem dX11_turned_93 : decode cX11_turned 93 = .ok (.bastore, 1) := by decide +kernel
theorem dX11_turned_94 : decode cX11_turned 94 = .ok (.iinc 1 1, 3) := by decide +kernel
theorem dX11_turned_97 : decode cX11_turned 97 = .ok (.goto (-47), 3) := by decide +kernel
theorem dX11_turned_100 : decode cX11_turned 100 = .ok (.aload_n 0, 1) := by decide +kernel
theorem dX11_turned_101 : decode cX11_turned 101 = .ok (.getfield 11, 3) := by decide +kernel
theorem dX11_turned_104 : decode cX11_turned 104 = .ok (.bipush 42, 2) := by decide +kernel
theorem dX11_turned_106 : decode cX11_turned 106 = .ok (.aload_n 0, 1) := by decide +kernel
theorem dX11_turned_107 : decode cX11_turned 107 = .ok (.getfield 11, 3) := by decide +kernel
theorem dX11_turned_110 : decode cX11_turned 110 = .ok (.iconst 0, 1) := by decide +kernel
theorem dX11_turned_111 : decode cX11_turned 111 = .ok (.iaload, 1) := by decide +kernel
theorem dX11_turned_112 : decode cX11_turned 112 = .ok (.aload_n 0, 1) := by decide +kernel
theorem dX11_turned_113 : decode cX11_turned 113 = .ok (.getfield 11, 3) := by decide +kernel
theorem dX11_turned_116 : decode cX11_turned 116 = .ok (.bipush 42, 2) := by decide +kernel
theorem dX11_turned_118 : decode cX11_turned 118 = .ok (.iaload, 1) := by decide +kernel
theorem dX11_turned_119 : decode cX11_turned 119 = .ok (.isub, 1) := by decide +kernel
theorem dX11_turned_120 : decode cX11_turned 120 = .ok (.iastore, 1) := by decide +kernel
theorem dX11_turned_121 : decode cX11_turned 121 = .ok (.aload_n 0, 1) := by decide +kernel
theorem dX11_turned_122 : decode cX11_turned 122 = .ok (.getfield 20, 3) := by decide +kernel
theorem dX11_turned_125 : decode cX11_turned 125 = .ok (.iconst 0, 1) := by decide +kernel
theorem dX11_turned_126 : decode cX11_turned 126 = .ok (.aaload, 1) := by decide +kernel
theorem dX11_turned_127 : decode cX11_turned 127 = .ok (.invokestatic 170, 3) := by decide +kernel
theorem dX11_turned_130 : decode cX11_turned 130 = .ok (.ireturn, 1) := by decide +kernel
theorem dX11_parted_0 : decode cX11_parted 0 = .ok (.aload_n 0, 1) := by decide +kernel
theorem dX11_parted_1 : decode cX11_parted 1 = .ok (.iload_n 1, 1) := by decide +kernel
theorem dX11_parted_2 : decode cX11_parted 2 = .ok (.invokevirtual 105, 3) := by decide +kernel
theorem dX11_parted_5 : decode cX11_parted 5 = .ok (.ifCond .eq 15, 3) := by decide +kernel
theorem dX11_parted_8 : decode cX11_parted 8 = .ok (.iload_n 2, 1) := by decide +kernel
theorem dX11_parted_9 : decode cX11_parted 9 = .ok (.i2l, 1) := by decide +kernel
theorem dX11_parted_10 : decode cX11_parted 10 = .ok (.lconst 0, 1) := by decide +kernel
theorem dX11_parted_11 : decode cX11_parted 11 = .ok (.ldc2_w 141, 3) := by decide +kernel
theorem dX11_parted_14 : decode cX11_parted 14 = .ok (.invokestatic 85, 3) := by decide +kernel
theorem dX11_parted_17 : decode cX11_parted 17 = .ok (.ifCond .ne 5, 3) := by decide +kernel
theorem dX11_parted_20 : decode cX11_parted 20 = .ok (.iconst (-1), 1) := by decide +kernel
theorem dX11_parted_21 : decode cX11_parted 21 = .ok (.ireturn, 1) := by decide +kernel
theorem dX11_parted_22 : decode cX11_parted 22 = .ok (.iconst 0, 1) := by decide +kernel
theorem dX11_parted_23 : decode cX11_parted 23 = .ok (.istore_n 3, 1) := by decide +kernel
theorem dX11_parted_24 : decode cX11_parted 24 = .ok (.iload_n 3, 1) := by decide +kernel
theorem dX11_parted_25 : decode cX11_parted 25 = .ok (.sipush 256, 3) := by decide +kernel
theorem dX11_parted_28 : decode cX11_parted 28 = .ok (.if_icmp .ge 75, 3) := by decide +kernel
theorem dX11_parted_31 : decode cX11_parted 31 = .ok (.iload_n 3, 1) := by decide +kernel
theorem dX11_parted_32 : decode cX11_parted 32 = .ok (.iload_n 1, 1) := by decide +kernel
theorem dX11_parted_33 : decode cX11_parted 33 = .ok (.ishr, 1) := by decide +kernel
theorem dX11_parted_34 : decode cX11_parted 34 = .ok (.iconst 1, 1) := by decide +kernel
theorem dX11_parted_35 : decode cX11_parted 35 = .ok (.iand, 1) := by decide +kernel
theorem dX11_parted_36 : decode cX11_parted 36 = .ok (.iconst 1, 1) := by decide +kernel
theorem dX11_parted_37 : decode cX11_parted 37 = .ok (.if_icmp .ne 7, 3) := by decide +kernel
theorem dX11_parted_40 : decode cX11_parted 40 = .ok (.iconst 1, 1) := by decide +kernel
theorem dX11_parted_41 : decode cX11_parted 41 = .ok (.goto 4, 3) := by decide +kernel
theorem dX11_parted_44 : decode cX11_parted 44 = .ok (.iconst 0, 1) := by decide +kernel
theorem dX11_parted_45 : decode cX11_parted 45 = .ok (.istore 4, 2) := by decide +kernel
theorem dX11_parted_47 : decode cX11_parted 47 = .ok (.aload_n 0, 1) := by decide +kernel
theorem dX11_parted_48 : decode cX11_parted 48 = .ok (.getfield 49, 3) := by decide +kernel
theorem dX11_parted_51 : decode cX11_parted 51 = .ok (.iload_n 3, 1) := by decide +kernel
theorem dX11_parted_52 : decode cX11_parted 52 = .ok (.iload 4, 2) := by decide +kernel
theorem dX11_parted_54 : decode cX11_parted 54 = .ok (.ifCond .ne 41, 3) := by decide +kernel
theorem dX11_parted_57 : decode cX11_parted 57 = .ok (.iload_n 2, 1) := by decide +kernel
theorem dX11_parted_58 : decode cX11_parted 58 = .ok (.iconst 2, 1) := by decide +kernel
theorem dX11_parted_59 : decode cX11_parted 59 = .ok (.if_icmp .ge 21, 3) := by decide +kernel
theorem dX11_parted_62 : decode cX11_parted 62 = .ok (.aload_n 0, 1) := by decide +kernel
theorem dX11_parted_63 : decode cX11_parted 63 = .ok (.getfield 20, 3) := by decide +kernel
theorem dX11_parted_66 : decode cX11_parted 66 = .ok (.iconst 0, 1) := by decide +kernel
theorem dX11_parted_67 : decode cX11_parted 67 = .ok (.aaload, 1) := by decide +kernel
theorem dX11_parted_68 : decode cX11_parted 68 = .ok (.iload_n 3, 1) := by decide +kernel
theorem dX11_parted_69 : decode cX11_parted 69 = .ok (.iconst 1, 1) := by decide +kernel
theorem dX11_parted_70 : decode cX11_parted 70 = .ok (.iload_n 1, 1) := by decide +kernel
theorem dX11_parted_71 : decode cX11_parted 71 = .ok (.ishl, 1) := by decide +kernel
theorem dX11_parted_72 : decode cX11_parted 72 = .ok (.ior, 1) := by decide +kernel
theorem dX11_parted_73 : decode cX11_parted 73 = .ok (.baload, 1) := by decide +kernel
theorem dX11_parted_74 : decode cX11_parted 74 = .ok (.ifCond .eq 21, 3) := by decide +kernel
theorem dX11_parted_77 : decode cX11_parted 77 = .ok (.goto 14, 3) := by decide +kernel
theorem dX11_parted_80 : decode cX11_parted 80 = .ok (.aload_n 0, 1) := by decide +kernel
theorem dX11_parted_81 : decode cX11_parted 81 = .ok (.getfield 20, 3) := by decide +kernel
theorem dX11_parted_84 : decode cX11_parted 84 = .ok (.iconst 0, 1) := by decide +kernel
theorem dX11_parted_85 : decode cX11_parted 85 = .ok (.aaload, 1) := by decide +kernel
theorem dX11_parted_86 : decode cX11_parted 86 = .ok (.iload_n 3, 1) := by decide +kernel
theorem dX11_parted_87 : decode cX11_parted 87 = .ok (.baload, 1) := by decide +kernel
theorem dX11_parted_88 : decode cX11_parted 88 = .ok (.ifCond .eq 7, 3) := by decide +kernel
theorem dX11_parted_91 : decode cX11_parted 91 = .ok (.iconst 1, 1) := by decide +kernel
theorem dX11_parted_92 : decode cX11_parted 92 = .ok (.goto 4, 3) := by decide +kernel
theorem dX11_parted_95 : decode cX11_parted 95 = .ok (.iconst 0, 1) := by decide +kernel
theorem dX11_parted_96 : decode cX11_parted 96 = .ok (.bastore, 1) := by decide +kernel
theorem dX11_parted_97 : decode cX11_parted 97 = .ok (.iinc 3 1, 3) := by decide +kernel
theorem dX11_parted_100 : decode cX11_parted 100 = .ok (.goto (-76), 3) := by decide +kernel
theorem dX11_parted_103 : decode cX11_parted 103 = .ok (.aload_n 0, 1) := by decide +kernel
theorem dX11_parted_104 : decode cX11_parted 104 = .ok (.getfield 49, 3) := by decide +kernel
theorem dX11_parted_107 : decode cX11_parted 107 = .ok (.invokestatic 170, 3) := by decide +kernel
theorem dX11_parted_110 : decode cX11_parted 110 = .ok (.istore_n 3, 1) := by decide +kernel
theorem dX11_parted_111 : decode cX11_parted 111 = .ok (.iload_n 2, 1) := by decide +kernel
theorem dX11_parted_112 : decode cX11_parted 112 = .ok (.ifCond .ne 5, 3) := by decide +kernel
theorem dX11_parted_115 : decode cX11_parted 115 = .ok (.iload_n 3, 1) := by decide +kernel
theorem dX11_parted_116 : decode cX11_parted 116 = .ok (.ireturn, 1) := by decide +kernel
theorem dX11_parted_117 : decode cX11_parted 117 = .ok (.iload_n 3, 1) := by decide +kernel
theorem dX11_parted_118 : decode cX11_parted 118 = .ok (.ifCond .eq 24, 3) := by decide +kernel
theorem dX11_parted_121 : decode cX11_parted 121 = .ok (.iload_n 2, 1) := by decide +kernel
theorem dX11_parted_122 : decode cX11_parted 122 = .ok (.iconst 2, 1) := by decide +kernel
theorem dX11_parted_123 : decode cX11_parted 123 = .ok (.if_icmp .ne 22, 3) := by decide +kernel
theorem dX11_parted_126 : decode cX11_parted 126 = .ok (.aload_n 0, 1) := by decide +kernel
theorem dX11_parted_127 : decode cX11_parted 127 = .ok (.getfield 11, 3) := by decide +kernel
theorem dX11_parted_130 : decode cX11_parted 130 = .ok (.bipush 42, 2) := by decide +kernel
theorem dX11_parted_132 : decode cX11_parted 132 = .ok (.iaload, 1) := by decide +kernel
theorem dX11_parted_133 : decode cX11_parted 133 = .ok (.aload_n 0, 1) := by decide +kernel
theorem dX11_parted_134 : decode cX11_parted 134 = .ok (.getfield 11, 3) := by decide +kernel
theorem dX11_parted_137 : decode cX11_parted 137 = .ok (.iconst 0, 1) := by decide +kernel
theorem dX11_parted_138 : decode cX11_parted 138 = .ok (.iaload, 1) := by decide +kernel
theorem dX11_parted_139 : decode cX11_parted 139 = .ok (.if_icmp .ne 6, 3) := by decide +kernel
theorem dX11_parted_142 : decode cX11_parted 142 = .ok (.bipush (-5), 2) := by decide +kernel
theorem dX11_parted_144 : decode cX11_parted 144 = .ok (.ireturn, 1) := by decide +kernel
theorem dX11_parted_145 : decode cX11_parted 145 = .ok (.aload_n 0, 1) := by decide +kernel
theorem dX11_parted_146 : decode cX11_parted 146 = .ok (.getfield 49, 3) := by decide +kernel
theorem dX11_parted_149 : decode cX11_parted 149 = .ok (.aload_n 0, 1) := by decide +kernel
theorem dX11_parted_150 : decode cX11_parted 150 = .ok (.invokevirtual 81, 3) := by decide +kernel
theorem dX11_parted_153 : decode cX11_parted 153 = .ok (.iconst 1, 1) := by decide +kernel
theorem dX11_parted_154 : decode cX11_parted 154 = .ok (.iload_n 1, 1) := by decide +kernel
theorem dX11_parted_155 : decode cX11_parted 155 = .ok (.ishl, 1) := by decide +kernel
theorem dX11_parted_156 : decode cX11_parted 156 = .ok (.iconst (-1), 1) := by decide +kernel
theorem dX11_parted_157 : decode cX11_parted 157 = .ok (.ixor, 1) := by decide +kernel
theorem dX11_parted_158 : decode cX11_parted 158 = .ok (.iand, 1) := by decide +kernel
theorem dX11_parted_159 : decode cX11_parted 159 = .ok (.iload_n 2, 1) := by decide +kernel
theorem dX11_parted_160 : decode cX11_parted 160 = .ok (.iconst 1, 1) := by decide +kernel
theorem dX11_parted_161 : decode cX11_parted 161 = .ok (.if_icmp .ne 15, 3) := by decide +kernel
theorem dX11_parted_164 : decode cX11_parted 164 = .ok (.aload_n 0, 1) := by decide +kernel
theorem dX11_parted_165 : decode cX11_parted 165 = .ok (.getfield 11, 3) := by decide +kernel
theorem dX11_parted_168 : decode cX11_parted 168 = .ok (.bipush 42, 2) := by decide +kernel
theorem dX11_parted_170 : decode cX11_parted 170 = .ok (.iaload, 1) := by decide +kernel
theorem dX11_parted_171 : decode cX11_parted 171 = .ok (.iconst 1, 1) := by decide +kernel
theorem dX11_parted_172 : decode cX11_parted 172 = .ok (.isub, 1) := by decide +kernel
theorem dX11_parted_173 : decode cX11_parted 173 = .ok (.goto 10, 3) := by decide +kernel
theorem dX11_parted_176 : decode cX11_parted 176 = .ok (.aload_n 0, 1) := by decide +kernel
theorem dX11_parted_177 : decode cX11_parted 177 = .ok (.getfield 11, 3) := by decide +kernel
theorem dX11_parted_180 : decode cX11_parted 180 = .ok (.bipush 42, 2) := by decide +kernel
theorem dX11_parted_182 : decode cX11_parted 182 = .ok (.iaload, 1) := by decide +kernel
theorem dX11_parted_183 : decode cX11_parted 183 = .ok (.invokestatic 178, 3) := by decide +kernel
theorem dX11_parted_186 : decode cX11_parted 186 = .ok (.ireturn, 1) := by decide +kernel
theorem dX11_keep_0 : decode cX11_keep 0 = .ok (.aload_n 0, 1) := by decide +kernel
theorem dX11_keep_1 : decode cX11_keep 1 = .ok (.getfield 11, 3) := by decide +kernel
theorem dX11_keep_4 : decode cX11_keep 4 = .ok (.bipush 43, 2) := by decide +kernel
theorem dX11_keep_6 : decode cX11_keep 6 = .ok (.iaload, 1) := by decide +kernel
theorem dX11_keep_7 : decode cX11_keep 7 = .ok (.iconst 4, 1) := by decide +kernel
theorem dX11_keep_8 : decode cX11_keep 8 = .ok (.if_icmp .ne 6, 3) := by decide +kernel
theorem dX11_keep_11 : decode cX11_keep 11 = .ok (.bipush (-4), 2) := by decide +kernel
theorem dX11_keep_13 : decode cX11_keep 13 = .ok (.ireturn, 1) := by decide +kernel
theorem dX11_keep_14 : decode cX11_keep 14 = .ok (.aload_n 0, 1) := by decide +kernel
theorem dX11_keep_15 : decode cX11_keep 15 = .ok (.getfield 11, 3) := by decide +kernel
theorem dX11_keep_18 : decode cX11_keep 18 = .ok (.bipush 43, 2) := by decide +kernel
theorem dX11_keep_20 : decode cX11_keep 20 = .ok (.iaload, 1) := by decide +kernel
theorem dX11_keep_21 : decode cX11_keep 21 = .ok (.istore_n 1, 1) := by decide +kernel
theorem dX11_keep_22 : decode cX11_keep 22 = .ok (.aload_n 0, 1) := by decide +kernel
theorem dX11_keep_23 : decode cX11_keep 23 = .ok (.getfield 11, 3) := by decide +kernel
theorem dX11_keep_26 : decode cX11_keep 26 = .ok (.bipush 44, 2) := by decide +kernel
theorem dX11_keep_28 : decode cX11_keep 28 = .ok (.iload_n 1, 1) := by decide +kernel
theorem dX11_keep_29 : decode cX11_keep 29 = .ok (.iadd, 1) := by decide +kernel
theorem dX11_keep_30 : decode cX11_keep 30 = .ok (.aload_n 0, 1) := by decide +kernel
theorem dX11_keep_31 : decode cX11_keep 31 = .ok (.getfield 11, 3) := by decide +kernel
theorem dX11_keep_34 : decode cX11_keep 34 = .ok (.bipush 42, 2) := by decide +kernel
theorem dX11_keep_36 : decode cX11_keep 36 = .ok (.iaload, 1) := by decide +kernel
theorem dX11_keep_37 : decode cX11_keep 37 = .ok (.iastore, 1) := by decide +kernel
theorem dX11_keep_38 : decode cX11_keep 38 = .ok (.iconst 0, 1) := by decide +kernel
theorem dX11_keep_39 : decode cX11_keep 39 = .ok (.istore_n 2, 1) := by decide +kernel
theorem dX11_keep_40 : decode cX11_keep 40 = .ok (.iload_n 2, 1) := by decide +kernel
theorem dX11_keep_41 : decode cX11_keep 41 = .ok (.sipush 256, 3) := by decide +kernel
theorem dX11_keep_44 : decode cX11_keep 44 = .ok (.if_icmp .ge 27, 3) := by decide +kernel
theorem dX11_keep_47 : decode cX11_keep 47 = .ok (.aload_n 0, 1) := by decide +kernel
theorem dX11_keep_48 : decode cX11_keep 48 = .ok (.getfield 20, 3) := by decide +kernel
theorem dX11_keep_51 : decode cX11_keep 51 = .ok (.iconst 1, 1) := by decide +kernel
theorem dX11_keep_52 : decode cX11_keep 52 = .ok (.iload_n 1, 1) := by decide +kernel
theorem dX11_keep_53 : decode cX11_keep 53 = .ok (.iadd, 1) := by decide +kernel
theorem dX11_keep_54 : decode cX11_keep 54 = .ok (.aaload, 1) := by decide +kernel
theorem dX11_keep_55 : decode cX11_keep 55 = .ok (.iload_n 2, 1) := by decide +kernel
theorem dX11_keep_56 : decode cX11_keep 56 = .ok (.aload_n 0, 1) := by decide +kernel
theorem dX11_keep_57 : decode cX11_keep 57 = .ok (.getfield 20, 3) := by decide +kernel
theorem dX11_keep_60 : decode cX11_keep 60 = .ok (.iconst 0, 1) := by decide +kernel
theorem dX11_keep_61 : decode cX11_keep 61 = .ok (.aaload, 1) := by decide +kernel
theorem dX11_keep_62 : decode cX11_keep 62 = .ok (.iload_n 2, 1) := by decide +kernel
theorem dX11_keep_63 : decode cX11_keep 63 = .ok (.baload, 1) := by decide +kernel
theorem dX11_keep_64 : decode cX11_keep 64 = .ok (.bastore, 1) := by decide +kernel
theorem dX11_keep_65 : decode cX11_keep 65 = .ok (.iinc 2 1, 3) := by decide +kernel
theorem dX11_keep_68 : decode cX11_keep 68 = .ok (.goto (-28), 3) := by decide +kernel
theorem dX11_keep_71 : decode cX11_keep 71 = .ok (.aload_n 0, 1) := by decide +kernel
theorem dX11_keep_72 : decode cX11_keep 72 = .ok (.getfield 11, 3) := by decide +kernel
theorem dX11_keep_75 : decode cX11_keep 75 = .ok (.bipush 43, 2) := by decide +kernel
theorem dX11_keep_77 : decode cX11_keep 77 = .ok (.dup2, 1) := by decide +kernel
theorem dX11_keep_78 : decode cX11_keep 78 = .ok (.iaload, 1) := by decide +kernel
theorem dX11_keep_79 : decode cX11_keep 79 = .ok (.iconst 1, 1) := by decide +kernel
theorem dX11_keep_80 : decode cX11_keep 80 = .ok (.iadd, 1) := by decide +kernel
theorem dX11_keep_81 : decode cX11_keep 81 = .ok (.iastore, 1) := by decide +kernel
theorem dX11_keep_82 : decode cX11_keep 82 = .ok (.iload_n 1, 1) := by decide +kernel
theorem dX11_keep_83 : decode cX11_keep 83 = .ok (.ireturn, 1) := by decide +kernel
theorem dX11_isDesign_0 : decode cX11_isDesign 0 = .ok (.iload_n 1, 1) := by decide +kernel
theorem dX11_isDesign_1 : decode cX11_isDesign 1 = .ok (.i2l, 1) := by decide +kernel
theorem dX11_isDesign_2 : decode cX11_isDesign 2 = .ok (.lconst 0, 1) := by decide +kernel
theorem dX11_isDesign_3 : decode cX11_isDesign 3 = .ok (.aload_n 0, 1) := by decide +kernel
theorem dX11_isDesign_4 : decode cX11_isDesign 4 = .ok (.getfield 11, 3) := by decide +kernel
theorem dX11_isDesign_7 : decode cX11_isDesign 7 = .ok (.bipush 43, 2) := by decide +kernel
theorem dX11_isDesign_9 : decode cX11_isDesign 9 = .ok (.iaload, 1) := by decide +kernel
theorem dX11_isDesign_10 : decode cX11_isDesign 10 = .ok (.iconst 1, 1) := by decide +kernel
theorem dX11_isDesign_11 : decode cX11_isDesign 11 = .ok (.isub, 1) := by decide +kernel
theorem dX11_isDesign_12 : decode cX11_isDesign 12 = .ok (.i2l, 1) := by decide +kernel
theorem dX11_isDesign_13 : decode cX11_isDesign 13 = .ok (.invokestatic 85, 3) := by decide +kernel
theorem dX11_isDesign_16 : decode cX11_isDesign 16 = .ok (.ireturn, 1) := by decide +kernel
theorem dX11_design_0 : decode cX11_design 0 = .ok (.aload_n 0, 1) := by decide +kernel
theorem dX11_design_1 : decode cX11_design 1 = .ok (.iload_n 1, 1) := by decide +kernel
theorem dX11_design_2 : decode cX11_design 2 = .ok (.invokevirtual 181, 3) := by decide +kernel
theorem dX11_design_5 : decode cX11_design 5 = .ok (.ifCond .eq 13, 3) := by decide +kernel
theorem dX11_design_8 : decode cX11_design 8 = .ok (.iload_n 2, 1) := by decide +kernel
theorem dX11_design_9 : decode cX11_design 9 = .ok (.i2l, 1) := by decide +kernel
theorem dX11_design_10 : decode cX11_design 10 = .ok (.lconst 0, 1) := by decide +kernel
theorem dX11_design_11 : decode cX11_design 11 = .ok (.lconst 1, 1) := by decide +kernel
theorem dX11_design_12 : decode cX11_design 12 = .ok (.invokestatic 85, 3) := by decide +kernel
theorem dX11_design_15 : decode cX11_design 15 = .ok (.ifCond .ne 5, 3) := by decide +kernel
theorem dX11_design_18 : decode cX11_design 18 = .ok (.iconst (-1), 1) := by decide +kernel
theorem dX11_design_19 : decode cX11_design 19 = .ok (.ireturn, 1) := by decide +kernel
theorem dX11_design_20 : decode cX11_design 20 = .ok (.iload_n 2, 1) := by decide +kernel
theorem dX11_design_21 : decode cX11_design 21 = .ok (.ifCond .ne 15, 3) := by decide +kernel
theorem dX11_design_24 : decode cX11_design 24 = .ok (.aload_n 0, 1) := by decide +kernel
theorem dX11_design_25 : decode cX11_design 25 = .ok (.getfield 11, 3) := by decide +kernel
theorem dX11_design_28 : decode cX11_design 28 = .ok (.bipush 44, 2) := by decide +kernel
theorem dX11_design_30 : decode cX11_design 30 = .ok (.iload_n 1, 1) := by decide +kernel
theorem dX11_design_31 : decode cX11_design 31 = .ok (.iadd, 1) := by decide +kernel
theorem dX11_design_32 : decode cX11_design 32 = .ok (.iaload, 1) := by decide +kernel
theorem dX11_design_33 : decode cX11_design 33 = .ok (.goto 14, 3) := by decide +kernel
theorem dX11_design_36 : decode cX11_design 36 = .ok (.aload_n 0, 1) := by decide +kernel
theorem dX11_design_37 : decode cX11_design 37 = .ok (.getfield 20, 3) := by decide +kernel
theorem dX11_design_40 : decode cX11_design 40 = .ok (.iconst 1, 1) := by decide +kernel
theorem dX11_design_41 : decode cX11_design 41 = .ok (.iload_n 1, 1) := by decide +kernel
theorem dX11_design_42 : decode cX11_design 42 = .ok (.iadd, 1) := by decide +kernel
theorem dX11_design_43 : decode cX11_design 43 = .ok (.aaload, 1) := by decide +kernel
theorem dX11_design_44 : decode cX11_design 44 = .ok (.invokestatic 170, 3) := by decide +kernel
theorem dX11_design_47 : decode cX11_design 47 = .ok (.ireturn, 1) := by decide +kernel
theorem dX11_lined_0 : decode cX11_lined 0 = .ok (.iconst 0, 1) := by decide +kernel
theorem dX11_lined_1 : decode cX11_lined 1 = .ok (.istore_n 2, 1) := by decide +kernel
theorem dX11_lined_2 : decode cX11_lined 2 = .ok (.iconst 0, 1) := by decide +kernel
theorem dX11_lined_3 : decode cX11_lined 3 = .ok (.istore_n 3, 1) := by decide +kernel
theorem dX11_lined_4 : decode cX11_lined 4 = .ok (.iload_n 3, 1) := by decide +kernel
theorem dX11_lined_5 : decode cX11_lined 5 = .ok (.aload_n 0, 1) := by decide +kernel
theorem dX11_lined_6 : decode cX11_lined 6 = .ok (.getfield 11, 3) := by decide +kernel
theorem dX11_lined_9 : decode cX11_lined 9 = .ok (.iconst 0, 1) := by decide +kernel
theorem dX11_lined_10 : decode cX11_lined 10 = .ok (.iaload, 1) := by decide +kernel
theorem dX11_lined_11 : decode cX11_lined 11 = .ok (.if_icmp .ge 24, 3) := by decide +kernel
theorem dX11_lined_14 : decode cX11_lined 14 = .ok (.iload_n 2, 1) := by decide +kernel
theorem dX11_lined_15 : decode cX11_lined 15 = .ok (.iload_n 1, 1) := by decide +kernel
theorem dX11_lined_16 : decode cX11_lined 16 = .ok (.iload_n 3, 1) := by decide +kernel
theorem dX11_lined_17 : decode cX11_lined 17 = .ok (.ishr, 1) := by decide +kernel
theorem dX11_lined_18 : decode cX11_lined 18 = .ok (.iconst 1, 1) := by decide +kernel
theorem dX11_lined_19 : decode cX11_lined 19 = .ok (.iand, 1) := by decide +kernel
theorem dX11_lined_20 : decode cX11_lined 20 = .ok (.aload_n 0, 1) := by decide +kernel
theorem dX11_lined_21 : decode cX11_lined 21 = .ok (.getfield 53, 3) := by decide +kernel
theorem dX11_lined_24 : decode cX11_lined 24 = .ok (.iload_n 3, 1) := by decide +kernel
theorem dX11_lined_25 : decode cX11_lined 25 = .ok (.iaload, 1) := by decide +kernel
theorem dX11_lined_26 : decode cX11_lined 26 = .ok (.ishl, 1) := by decide +kernel
theorem dX11_lined_27 : decode cX11_lined 27 = .ok (.ior, 1) := by decide +kernel
theorem dX11_lined_28 : decode cX11_lined 28 = .ok (.istore_n 2, 1) := by decide +kernel
theorem dX11_lined_29 : decode cX11_lined 29 = .ok (.iinc 3 1, 3) := by decide +kernel
theorem dX11_lined_32 : decode cX11_lined 32 = .ok (.goto (-28), 3) := by decide +kernel
theorem dX11_lined_35 : decode cX11_lined 35 = .ok (.iload_n 2, 1) := by decide +kernel
theorem dX11_lined_36 : decode cX11_lined 36 = .ok (.ireturn, 1) := by decide +kernel
theorem dX11_waysFrom_0 : decode cX11_waysFrom 0 = .ok (.iload_n 3, 1) := by decide +kernel
theorem dX11_waysFrom_1 : decode cX11_waysFrom 1 = .ok (.aload_n 0, 1) := by decide +kernel
theorem dX11_waysFrom_2 : decode cX11_waysFrom 2 = .ok (.getfield 11, 3) := by decide +kernel
theorem dX11_waysFrom_5 : decode cX11_waysFrom 5 = .ok (.iconst 0, 1) := by decide +kernel
theorem dX11_waysFrom_6 : decode cX11_waysFrom 6 = .ok (.iaload, 1) := by decide +kernel
theorem dX11_waysFrom_7 : decode cX11_waysFrom 7 = .ok (.if_icmp .ne 43, 3) := by decide +kernel
theorem dX11_waysFrom_10 : decode cX11_waysFrom 10 = .ok (.iconst 0, 1) := by decide +kernel
theorem dX11_waysFrom_11 : decode cX11_waysFrom 11 = .ok (.istore 6, 2) := by decide +kernel
theorem dX11_waysFrom_13 : decode cX11_waysFrom 13 = .ok (.iload 6, 2) := by decide +kernel
theorem dX11_waysFrom_15 : decode cX11_waysFrom 15 = .ok (.aload_n 0, 1) := by decide +kernel
theorem dX11_waysFrom_16 : decode cX11_waysFrom 16 = .ok (.invokevirtual 81, 3) := by decide +kernel
theorem dX11_waysFrom_19 : decode cX11_waysFrom 19 = .ok (.if_icmp .gt 29, 3) := by decide +kernel
theorem dX11_waysFrom_22 : decode cX11_waysFrom 22 = .ok (.aload_n 1, 1) := by decide +kernel
theorem dX11_waysFrom_23 : decode cX11_waysFrom 23 = .ok (.iload 6, 2) := by decide +kernel
theorem dX11_waysFrom_25 : decode cX11_waysFrom 25 = .ok (.baload, 1) := by decide +kernel
theorem dX11_waysFrom_26 : decode cX11_waysFrom 26 = .ok (.ifCond .eq 16, 3) := by decide +kernel
theorem dX11_waysFrom_29 : decode cX11_waysFrom 29 = .ok (.aload_n 2, 1) := by decide +kernel
theorem dX11_waysFrom_30 : decode cX11_waysFrom 30 = .ok (.aload_n 0, 1) := by decide +kernel
theorem dX11_waysFrom_31 : decode cX11_waysFrom 31 = .ok (.iload 6, 2) := by decide +kernel
theorem dX11_waysFrom_33 : decode cX11_waysFrom 33 = .ok (.invokevirtual 184, 3) := by decide +kernel
theorem dX11_waysFrom_36 : decode cX11_waysFrom 36 = .ok (.baload, 1) := by decide +kernel
theorem dX11_waysFrom_37 : decode cX11_waysFrom 37 = .ok (.ifCond .ne 5, 3) := by decide +kernel
theorem dX11_waysFrom_40 : decode cX11_waysFrom 40 = .ok (.iconst 0, 1) := by decide +kernel
theorem dX11_waysFrom_41 : decode cX11_waysFrom 41 = .ok (.ireturn, 1) := by decide +kernel
theorem dX11_waysFrom_42 : decode cX11_waysFrom 42 = .ok (.iinc 6 1, 3) := by decide +kernel
theorem dX11_waysFrom_45 : decode cX11_waysFrom 45 = .ok (.goto (-32), 3) := by decide +kernel
theorem dX11_waysFrom_48 : decode cX11_waysFrom 48 = .ok (.iconst 1, 1) := by decide +kernel
theorem dX11_waysFrom_49 : decode cX11_waysFrom 49 = .ok (.ireturn, 1) := by decide +kernel
theorem dX11_waysFrom_50 : decode cX11_waysFrom 50 = .ok (.iconst 0, 1) := by decide +kernel
theorem dX11_waysFrom_51 : decode cX11_waysFrom 51 = .ok (.istore 6, 2) := by decide +kernel
theorem dX11_waysFrom_53 : decode cX11_waysFrom 53 = .ok (.iconst 0, 1) := by decide +kernel
theorem dX11_waysFrom_54 : decode cX11_waysFrom 54 = .ok (.istore 7, 2) := by decide +kernel
theorem dX11_waysFrom_56 : decode cX11_waysFrom 56 = .ok (.iload 7, 2) := by decide +kernel
theorem dX11_waysFrom_58 : decode cX11_waysFrom 58 = .ok (.aload_n 0, 1) := by decide +kernel
theorem dX11_waysFrom_59 : decode cX11_waysFrom 59 = .ok (.getfield 11, 3) := by decide +kernel
theorem dX11_waysFrom_62 : decode cX11_waysFrom 62 = .ok (.iconst 0, 1) := by decide +kernel
theorem dX11_waysFrom_63 : decode cX11_waysFrom 63 = .ok (.iaload, 1) := by decide +kernel
theorem dX11_waysFrom_64 : decode cX11_waysFrom 64 = .ok (.if_icmp .ge 60, 3) := by decide +kernel
theorem dX11_waysFrom_67 : decode cX11_waysFrom 67 = .ok (.iload 5, 2) := by decide +kernel
theorem dX11_waysFrom_69 : decode cX11_waysFrom 69 = .ok (.ifCond .eq 8, 3) := by decide +kernel
theorem dX11_waysFrom_72 : decode cX11_waysFrom 72 = .ok (.iload 6, 2) := by decide +kernel
theorem dX11_waysFrom_74 : decode cX11_waysFrom 74 = .ok (.ifCond .ne 50, 3) := by decide +kernel
theorem dX11_waysFrom_77 : decode cX11_waysFrom 77 = .ok (.iload 4, 2) := by decide +kernel
theorem dX11_waysFrom_79 : decode cX11_waysFrom 79 = .ok (.iload 7, 2) := by decide +kernel
theorem dX11_waysFrom_81 : decode cX11_waysFrom 81 = .ok (.ishr, 1) := by decide +kernel
theorem dX11_waysFrom_82 : decode cX11_waysFrom 82 = .ok (.iconst 1, 1) := by decide +kernel
theorem dX11_waysFrom_83 : decode cX11_waysFrom 83 = .ok (.iand, 1) := by decide +kernel
theorem dX11_waysFrom_84 : decode cX11_waysFrom 84 = .ok (.ifCond .ne 34, 3) := by decide +kernel
theorem dX11_waysFrom_87 : decode cX11_waysFrom 87 = .ok (.aload_n 0, 1) := by decide +kernel
theorem dX11_waysFrom_88 : decode cX11_waysFrom 88 = .ok (.getfield 53, 3) := by decide +kernel
theorem dX11_waysFrom_91 : decode cX11_waysFrom 91 = .ok (.iload_n 3, 1) := by decide +kernel
theorem dX11_waysFrom_92 : decode cX11_waysFrom 92 = .ok (.iload 7, 2) := by decide +kernel
theorem dX11_waysFrom_94 : decode cX11_waysFrom 94 = .ok (.iastore, 1) := by decide +kernel
theorem dX11_waysFrom_95 : decode cX11_waysFrom 95 = .ok (.iload 6, 2) := by decide +kernel
theorem dX11_waysFrom_97 : decode cX11_waysFrom 97 = .ok (.aload_n 0, 1) := by decide +kernel
theorem dX11_waysFrom_98 : decode cX11_waysFrom 98 = .ok (.aload_n 1, 1) := by decide +kernel
theorem dX11_waysFrom_99 : decode cX11_waysFrom 99 = .ok (.aload_n 2, 1) := by decide +kernel
theorem dX11_waysFrom_100 : decode cX11_waysFrom 100 = .ok (.iload_n 3, 1) := by decide +kernel
theorem dX11_waysFrom_101 : decode cX11_waysFrom 101 = .ok (.iconst 1, 1) := by decide +kernel
theorem dX11_waysFrom_102 : decode cX11_waysFrom 102 = .ok (.iadd, 1) := by decide +kernel
theorem dX11_waysFrom_103 : decode cX11_waysFrom 103 = .ok (.iload 4, 2) := by decide +kernel
theorem dX11_waysFrom_105 : decode cX11_waysFrom 105 = .ok (.iconst 1, 1) := by decide +kernel
theorem dX11_waysFrom_106 : decode cX11_waysFrom 106 = .ok (.iload 7, 2) := by decide +kernel
theorem dX11_waysFrom_108 : decode cX11_waysFrom 108 = .ok (.ishl, 1) := by decide +kernel
theorem dX11_waysFrom_109 : decode cX11_waysFrom 109 = .ok (.ior, 1) := by decide +kernel
theorem dX11_waysFrom_110 : decode cX11_waysFrom 110 = .ok (.iload 5, 2) := by decide +kernel
theorem dX11_waysFrom_112 : decode cX11_waysFrom 112 = .ok (.invokevirtual 187, 3) := by decide +kernel
theorem dX11_waysFrom_115 : decode cX11_waysFrom 115 = .ok (.iadd, 1) := by decide +kernel
theorem dX11_waysFrom_116 : decode cX11_waysFrom 116 = .ok (.istore 6, 2) := by decide +kernel
theorem dX11_waysFrom_118 : decode cX11_waysFrom 118 = .ok (.iinc 7 1, 3) := by decide +kernel
theorem dX11_waysFrom_121 : decode cX11_waysFrom 121 = .ok (.goto (-65), 3) := by decide +kernel
theorem dX11_waysFrom_124 : decode cX11_waysFrom 124 = .ok (.iload 6, 2) := by decide +kernel
theorem dX11_waysFrom_126 : decode cX11_waysFrom 126 = .ok (.ireturn, 1) := by decide +kernel
theorem dX11_areAlike_0 : decode cX11_areAlike 0 = .ok (.aload_n 1, 1) := by decide +kernel
theorem dX11_areAlike_1 : decode cX11_areAlike 1 = .ok (.invokestatic 170, 3) := by decide +kernel
theorem dX11_areAlike_4 : decode cX11_areAlike 4 = .ok (.aload_n 2, 1) := by decide +kernel
theorem dX11_areAlike_5 : decode cX11_areAlike 5 = .ok (.invokestatic 170, 3) := by decide +kernel
theorem dX11_areAlike_8 : decode cX11_areAlike 8 = .ok (.if_icmp .ne 19, 3) := by decide +kernel
theorem dX11_areAlike_11 : decode cX11_areAlike 11 = .ok (.aload_n 0, 1) := by decide +kernel
theorem dX11_areAlike_12 : decode cX11_areAlike 12 = .ok (.aload_n 1, 1) := by decide +kernel
theorem dX11_areAlike_13 : decode cX11_areAlike 13 = .ok (.aload_n 2, 1) := by decide +kernel
theorem dX11_areAlike_14 : decode cX11_areAlike 14 = .ok (.iconst 0, 1) := by decide +kernel
theorem dX11_areAlike_15 : decode cX11_areAlike 15 = .ok (.iconst 0, 1) := by decide +kernel
theorem dX11_areAlike_16 : decode cX11_areAlike 16 = .ok (.iconst 1, 1) := by decide +kernel
theorem dX11_areAlike_17 : decode cX11_areAlike 17 = .ok (.invokevirtual 187, 3) := by decide +kernel
theorem dX11_areAlike_20 : decode cX11_areAlike 20 = .ok (.ifCond .le 7, 3) := by decide +kernel
theorem dX11_areAlike_23 : decode cX11_areAlike 23 = .ok (.iconst 1, 1) := by decide +kernel
theorem dX11_areAlike_24 : decode cX11_areAlike 24 = .ok (.goto 4, 3) := by decide +kernel
theorem dX11_areAlike_27 : decode cX11_areAlike 27 = .ok (.iconst 0, 1) := by decide +kernel
theorem dX11_areAlike_28 : decode cX11_areAlike 28 = .ok (.ireturn, 1) := by decide +kernel
theorem dX11_alike_0 : decode cX11_alike 0 = .ok (.aload_n 0, 1) := by decide +kernel
theorem dX11_alike_1 : decode cX11_alike 1 = .ok (.iload_n 1, 1) := by decide +kernel
theorem dX11_alike_2 : decode cX11_alike 2 = .ok (.invokevirtual 181, 3) := by decide +kernel
theorem dX11_alike_5 : decode cX11_alike 5 = .ok (.ifCond .eq 11, 3) := by decide +kernel
theorem dX11_alike_8 : decode cX11_alike 8 = .ok (.aload_n 0, 1) := by decide +kernel
theorem dX11_alike_9 : decode cX11_alike 9 = .ok (.iload_n 2, 1) := by decide +kernel
theorem dX11_alike_10 : decode cX11_alike 10 = .ok (.invokevirtual 181, 3) := by decide +kernel
theorem dX11_alike_13 : decode cX11_alike 13 = .ok (.ifCond .ne 5, 3) := by decide +kernel
theorem dX11_alike_16 : decode cX11_alike 16 = .ok (.iconst (-1), 1) := by decide +kernel
theorem dX11_alike_17 : decode cX11_alike 17 = .ok (.ireturn, 1) := by decide +kernel
theorem dX11_alike_18 : decode cX11_alike 18 = .ok (.aload_n 0, 1) := by decide +kernel
theorem dX11_alike_19 : decode cX11_alike 19 = .ok (.getfield 11, 3) := by decide +kernel
theorem dX11_alike_22 : decode cX11_alike 22 = .ok (.iconst 0, 1) := by decide +kernel
theorem dX11_alike_23 : decode cX11_alike 23 = .ok (.iaload, 1) := by decide +kernel
theorem dX11_alike_24 : decode cX11_alike 24 = .ok (.bipush 8, 2) := by decide +kernel
theorem dX11_alike_26 : decode cX11_alike 26 = .ok (.if_icmp .ne 6, 3) := by decide +kernel
theorem dX11_alike_29 : decode cX11_alike 29 = .ok (.bipush (-3), 2) := by decide +kernel
theorem dX11_alike_31 : decode cX11_alike 31 = .ok (.ireturn, 1) := by decide +kernel
theorem dX11_alike_32 : decode cX11_alike 32 = .ok (.aload_n 0, 1) := by decide +kernel
theorem dX11_alike_33 : decode cX11_alike 33 = .ok (.aload_n 0, 1) := by decide +kernel
theorem dX11_alike_34 : decode cX11_alike 34 = .ok (.getfield 20, 3) := by decide +kernel
theorem dX11_alike_37 : decode cX11_alike 37 = .ok (.iconst 1, 1) := by decide +kernel
theorem dX11_alike_38 : decode cX11_alike 38 = .ok (.iload_n 1, 1) := by decide +kernel
theorem dX11_alike_39 : decode cX11_alike 39 = .ok (.iadd, 1) := by decide +kernel
theorem dX11_alike_40 : decode cX11_alike 40 = .ok (.aaload, 1) := by decide +kernel
theorem dX11_alike_41 : decode cX11_alike 41 = .ok (.aload_n 0, 1) := by decide +kernel
theorem dX11_alike_42 : decode cX11_alike 42 = .ok (.getfield 20, 3) := by decide +kernel
theorem dX11_alike_45 : decode cX11_alike 45 = .ok (.iconst 1, 1) := by decide +kernel
theorem dX11_alike_46 : decode cX11_alike 46 = .ok (.iload_n 2, 1) := by decide +kernel
theorem dX11_alike_47 : decode cX11_alike 47 = .ok (.iadd, 1) := by decide +kernel
theorem dX11_alike_48 : decode cX11_alike 48 = .ok (.aaload, 1) := by decide +kernel
theorem dX11_alike_49 : decode cX11_alike 49 = .ok (.invokevirtual 191, 3) := by decide +kernel
theorem dX11_alike_52 : decode cX11_alike 52 = .ok (.ifCond .eq 7, 3) := by decide +kernel
theorem dX11_alike_55 : decode cX11_alike 55 = .ok (.iconst 1, 1) := by decide +kernel
theorem dX11_alike_56 : decode cX11_alike 56 = .ok (.goto 4, 3) := by decide +kernel
theorem dX11_alike_59 : decode cX11_alike 59 = .ok (.iconst 0, 1) := by decide +kernel
theorem dX11_alike_60 : decode cX11_alike 60 = .ok (.ireturn, 1) := by decide +kernel
theorem dX11_selves_0 : decode cX11_selves 0 = .ok (.aload_n 0, 1) := by decide +kernel
theorem dX11_selves_1 : decode cX11_selves 1 = .ok (.iload_n 1, 1) := by decide +kernel
theorem dX11_selves_2 : decode cX11_selves 2 = .ok (.invokevirtual 181, 3) := by decide +kernel
theorem dX11_selves_5 : decode cX11_selves 5 = .ok (.ifCond .ne 5, 3) := by decide +kernel
theorem dX11_selves_8 : decode cX11_selves 8 = .ok (.iconst (-1), 1) := by decide +kernel
theorem dX11_selves_9 : decode cX11_selves 9 = .ok (.ireturn, 1) := by decide +kernel
theorem dX11_selves_10 : decode cX11_selves 10 = .ok (.aload_n 0, 1) := by decide +kernel
theorem dX11_selves_11 : decode cX11_selves 11 = .ok (.getfield 11, 3) := by decide +kernel
theorem dX11_selves_14 : decode cX11_selves 14 = .ok (.iconst 0, 1) := by decide +kernel
theorem dX11_selves_15 : decode cX11_selves 15 = .ok (.iaload, 1) := by decide +kernel
theorem dX11_selves_16 : decode cX11_selves 16 = .ok (.bipush 8, 2) := by decide +kernel
theorem dX11_selves_18 : decode cX11_selves 18 = .ok (.if_icmp .ne 6, 3) := by decide +kernel
theorem dX11_selves_21 : decode cX11_selves 21 = .ok (.bipush (-3), 2) := by decide +kernel
theorem dX11_selves_23 : decode cX11_selves 23 = .ok (.ireturn, 1) := by decide +kernel
theorem dX11_selves_24 : decode cX11_selves 24 = .ok (.aload_n 0, 1) := by decide +kernel
theorem dX11_selves_25 : decode cX11_selves 25 = .ok (.aload_n 0, 1) := by decide +kernel
theorem dX11_selves_26 : decode cX11_selves 26 = .ok (.getfield 20, 3) := by decide +kernel
theorem dX11_selves_29 : decode cX11_selves 29 = .ok (.iconst 1, 1) := by decide +kernel
theorem dX11_selves_30 : decode cX11_selves 30 = .ok (.iload_n 1, 1) := by decide +kernel
theorem dX11_selves_31 : decode cX11_selves 31 = .ok (.iadd, 1) := by decide +kernel
theorem dX11_selves_32 : decode cX11_selves 32 = .ok (.aaload, 1) := by decide +kernel
theorem dX11_selves_33 : decode cX11_selves 33 = .ok (.aload_n 0, 1) := by decide +kernel
theorem dX11_selves_34 : decode cX11_selves 34 = .ok (.getfield 20, 3) := by decide +kernel
theorem dX11_selves_37 : decode cX11_selves 37 = .ok (.iconst 1, 1) := by decide +kernel
theorem dX11_selves_38 : decode cX11_selves 38 = .ok (.iload_n 1, 1) := by decide +kernel
theorem dX11_selves_39 : decode cX11_selves 39 = .ok (.iadd, 1) := by decide +kernel
theorem dX11_selves_40 : decode cX11_selves 40 = .ok (.aaload, 1) := by decide +kernel
theorem dX11_selves_41 : decode cX11_selves 41 = .ok (.iconst 0, 1) := by decide +kernel
theorem dX11_selves_42 : decode cX11_selves 42 = .ok (.iconst 0, 1) := by decide +kernel
theorem dX11_selves_43 : decode cX11_selves 43 = .ok (.iconst 0, 1) := by decide +kernel
theorem dX11_selves_44 : decode cX11_selves 44 = .ok (.invokevirtual 187, 3) := by decide +kernel
theorem dX11_selves_47 : decode cX11_selves 47 = .ok (.ireturn, 1) := by decide +kernel
theorem dX11_unlike_0 : decode cX11_unlike 0 = .ok (.aload_n 0, 1) := by decide +kernel
theorem dX11_unlike_1 : decode cX11_unlike 1 = .ok (.iload_n 1, 1) := by decide +kernel
theorem dX11_unlike_2 : decode cX11_unlike 2 = .ok (.iload_n 2, 1) := by decide +kernel
theorem dX11_unlike_3 : decode cX11_unlike 3 = .ok (.invokevirtual 146, 3) := by decide +kernel
theorem dX11_unlike_6 : decode cX11_unlike 6 = .ok (.ifCond .eq 15, 3) := by decide +kernel
theorem dX11_unlike_9 : decode cX11_unlike 9 = .ok (.iload_n 3, 1) := by decide +kernel
theorem dX11_unlike_10 : decode cX11_unlike 10 = .ok (.i2l, 1) := by decide +kernel
theorem dX11_unlike_11 : decode cX11_unlike 11 = .ok (.lconst 1, 1) := by decide +kernel
theorem dX11_unlike_12 : decode cX11_unlike 12 = .ok (.ldc2_w 161, 3) := by decide +kernel
theorem dX11_unlike_15 : decode cX11_unlike 15 = .ok (.invokestatic 85, 3) := by decide +kernel
theorem dX11_unlike_18 : decode cX11_unlike 18 = .ok (.ifCond .ne 6, 3) := by decide +kernel
theorem dX11_unlike_21 : decode cX11_unlike 21 = .ok (.bipush (-2), 2) := by decide +kernel
theorem dX11_unlike_23 : decode cX11_unlike 23 = .ok (.ireturn, 1) := by decide +kernel
theorem dX11_unlike_24 : decode cX11_unlike 24 = .ok (.aload_n 0, 1) := by decide +kernel
theorem dX11_unlike_25 : decode cX11_unlike 25 = .ok (.iload_n 1, 1) := by decide +kernel
theorem dX11_unlike_26 : decode cX11_unlike 26 = .ok (.iload_n 2, 1) := by decide +kernel
theorem dX11_unlike_27 : decode cX11_unlike 27 = .ok (.invokevirtual 150, 3) := by decide +kernel
theorem dX11_unlike_30 : decode cX11_unlike 30 = .ok (.aload_n 0, 1) := by decide +kernel
theorem dX11_unlike_31 : decode cX11_unlike 31 = .ok (.getfield 11, 3) := by decide +kernel
theorem dX11_unlike_34 : decode cX11_unlike 34 = .ok (.iconst 0, 1) := by decide +kernel
theorem dX11_unlike_35 : decode cX11_unlike 35 = .ok (.iaload, 1) := by decide +kernel
theorem dX11_unlike_36 : decode cX11_unlike 36 = .ok (.bipush 6, 2) := by decide +kernel
theorem dX11_unlike_38 : decode cX11_unlike 38 = .ok (.if_icmp .gt 14, 3) := by decide +kernel
theorem dX11_unlike_41 : decode cX11_unlike 41 = .ok (.aload_n 0, 1) := by decide +kernel
theorem dX11_unlike_42 : decode cX11_unlike 42 = .ok (.getfield 35, 3) := by decide +kernel
theorem dX11_unlike_45 : decode cX11_unlike 45 = .ok (.iload_n 2, 1) := by decide +kernel
theorem dX11_unlike_46 : decode cX11_unlike 46 = .ok (.iaload, 1) := by decide +kernel
theorem dX11_unlike_47 : decode cX11_unlike 47 = .ok (.bipush 14, 2) := by decide +kernel
theorem dX11_unlike_49 : decode cX11_unlike 49 = .ok (.if_icmp .le 6, 3) := by decide +kernel
theorem dX11_unlike_52 : decode cX11_unlike 52 = .ok (.bipush (-3), 2) := by decide +kernel
theorem dX11_unlike_54 : decode cX11_unlike 54 = .ok (.ireturn, 1) := by decide +kernel
theorem dX11_unlike_55 : decode cX11_unlike 55 = .ok (.aload_n 0, 1) := by decide +kernel
theorem dX11_unlike_56 : decode cX11_unlike 56 = .ok (.iload_n 1, 1) := by decide +kernel
theorem dX11_unlike_57 : decode cX11_unlike 57 = .ok (.iload_n 2, 1) := by decide +kernel
theorem dX11_unlike_58 : decode cX11_unlike 58 = .ok (.iload_n 3, 1) := by decide +kernel
theorem dX11_unlike_59 : decode cX11_unlike 59 = .ok (.iconst (-1), 1) := by decide +kernel
theorem dX11_unlike_60 : decode cX11_unlike 60 = .ok (.invokevirtual 163, 3) := by decide +kernel
theorem dX11_unlike_63 : decode cX11_unlike 63 = .ok (.istore 4, 2) := by decide +kernel
theorem dX11_unlike_65 : decode cX11_unlike 65 = .ok (.iload 4, 2) := by decide +kernel
theorem dX11_unlike_67 : decode cX11_unlike 67 = .ok (.bipush 24, 2) := by decide +kernel
theorem dX11_unlike_69 : decode cX11_unlike 69 = .ok (.if_icmp .le 6, 3) := by decide +kernel
theorem dX11_unlike_72 : decode cX11_unlike 72 = .ok (.bipush (-3), 2) := by decide +kernel
theorem dX11_unlike_74 : decode cX11_unlike 74 = .ok (.ireturn, 1) := by decide +kernel
theorem dX11_unlike_75 : decode cX11_unlike 75 = .ok (.iconst 0, 1) := by decide +kernel
theorem dX11_unlike_76 : decode cX11_unlike 76 = .ok (.istore 5, 2) := by decide +kernel
theorem dX11_unlike_78 : decode cX11_unlike 78 = .ok (.iconst 0, 1) := by decide +kernel
theorem dX11_unlike_79 : decode cX11_unlike 79 = .ok (.istore 6, 2) := by decide +kernel
theorem dX11_unlike_81 : decode cX11_unlike 81 = .ok (.iload 6, 2) := by decide +kernel
theorem dX11_unlike_83 : decode cX11_unlike 83 = .ok (.iload 4, 2) := by decide +kernel
theorem dX11_unlike_85 : decode cX11_unlike 85 = .ok (.if_icmp .ge 153, 3) := by decide +kernel
theorem dX11_unlike_88 : decode cX11_unlike 88 = .ok (.aload_n 0, 1) := by decide +kernel
theorem dX11_unlike_89 : decode cX11_unlike 89 = .ok (.iload_n 1, 1) := by decide +kernel
theorem dX11_unlike_90 : decode cX11_unlike 90 = .ok (.iload_n 2, 1) := by decide +kernel
theorem dX11_unlike_91 : decode cX11_unlike 91 = .ok (.iload_n 3, 1) := by decide +kernel
theorem dX11_unlike_92 : decode cX11_unlike 92 = .ok (.iload 6, 2) := by decide +kernel
theorem dX11_unlike_94 : decode cX11_unlike 94 = .ok (.invokevirtual 163, 3) := by decide +kernel
theorem dX11_unlike_97 : decode cX11_unlike 97 = .ok (.istore 7, 2) := by decide +kernel
theorem dX11_unlike_99 : decode cX11_unlike 99 = .ok (.iconst 0, 1) := by decide +kernel
theorem dX11_unlike_100 : decode cX11_unlike 100 = .ok (.istore 8, 2) := by decide +kernel
theorem dX11_unlike_102 : decode cX11_unlike 102 = .ok (.iload 8, 2) := by decide +kernel
theorem dX11_unlike_104 : decode cX11_unlike 104 = .ok (.sipush 256, 3) := by decide +kernel
theorem dX11_unlike_107 : decode cX11_unlike 107 = .ok (.if_icmp .ge 58, 3) := by decide +kernel
theorem dX11_unlike_110 : decode cX11_unlike 110 = .ok (.aload_n 0, 1) := by decide +kernel
theorem dX11_unlike_111 : decode cX11_unlike 111 = .ok (.getfield 56, 3) := by decide +kernel
theorem dX11_unlike_114 : decode cX11_unlike 114 = .ok (.iload 5, 2) := by decide +kernel
theorem dX11_unlike_116 : decode cX11_unlike 116 = .ok (.aaload, 1) := by decide +kernel
theorem dX11_unlike_117 : decode cX11_unlike 117 = .ok (.iload 8, 2) := by decide +kernel
theorem dX11_unlike_119 : decode cX11_unlike 119 = .ok (.iload 8, 2) := by decide +kernel
theorem dX11_unlike_121 : decode cX11_unlike 121 = .ok (.aload_n 0, 1) := by decide +kernel
theorem dX11_unlike_122 : decode cX11_unlike 122 = .ok (.invokevirtual 81, 3) := by decide +kernel
theorem dX11_unlike_125 : decode cX11_unlike 125 = .ok (.if_icmp .gt 32, 3) := by decide +kernel
theorem dX11_unlike_128 : decode cX11_unlike 128 = .ok (.iload 8, 2) := by decide +kernel
theorem dX11_unlike_130 : decode cX11_unlike 130 = .ok (.invokestatic 128, 3) := by decide +kernel
theorem dX11_unlike_133 : decode cX11_unlike 133 = .ok (.iload_n 2, 1) := by decide +kernel
theorem dX11_unlike_134 : decode cX11_unlike 134 = .ok (.if_icmp .ne 23, 3) := by decide +kernel
theorem dX11_unlike_137 : decode cX11_unlike 137 = .ok (.iload 7, 2) := by decide +kernel
theorem dX11_unlike_139 : decode cX11_unlike 139 = .ok (.aload_n 0, 1) := by decide +kernel
theorem dX11_unlike_140 : decode cX11_unlike 140 = .ok (.getfield 32, 3) := by decide +kernel
theorem dX11_unlike_143 : decode cX11_unlike 143 = .ok (.iload 8, 2) := by decide +kernel
theorem dX11_unlike_145 : decode cX11_unlike 145 = .ok (.iaload, 1) := by decide +kernel
theorem dX11_unlike_146 : decode cX11_unlike 146 = .ok (.ishr, 1) := by decide +kernel
theorem dX11_unlike_147 : decode cX11_unlike 147 = .ok (.iconst 1, 1) := by decide +kernel
theorem dX11_unlike_148 : decode cX11_unlike 148 = .ok (.iand, 1) := by decide +kernel
theorem dX11_unlike_149 : decode cX11_unlike 149 = .ok (.iconst 1, 1) := by decide +kernel
theorem dX11_unlike_150 : decode cX11_unlike 150 = .ok (.if_icmp .ne 7, 3) := by decide +kernel
theorem dX11_unlike_153 : decode cX11_unlike 153 = .ok (.iconst 1, 1) := by decide +kernel
theorem dX11_unlike_154 : decode cX11_unlike 154 = .ok (.goto 4, 3) := by decide +kernel
theorem dX11_unlike_157 : decode cX11_unlike 157 = .ok (.iconst 0, 1) := by decide +kernel
theorem dX11_unlike_158 : decode cX11_unlike 158 = .ok (.bastore, 1) := by decide +kernel
theorem dX11_unlike_159 : decode cX11_unlike 159 = .ok (.iinc 8 1, 3) := by decide +kernel
theorem dX11_unlike_162 : decode cX11_unlike 162 = .ok (.goto (-60), 3) := by decide +kernel
theorem dX11_unlike_165 : decode cX11_unlike 165 = .ok (.iconst 1, 1) := by decide +kernel
theorem dX11_unlike_166 : decode cX11_unlike 166 = .ok (.istore 8, 2) := by decide +kernel
theorem dX11_unlike_168 : decode cX11_unlike 168 = .ok (.iconst 0, 1) := by decide +kernel
theorem dX11_unlike_169 : decode cX11_unlike 169 = .ok (.istore 9, 2) := by decide +kernel
theorem dX11_unlike_171 : decode cX11_unlike 171 = .ok (.iload 9, 2) := by decide +kernel
theorem dX11_unlike_173 : decode cX11_unlike 173 = .ok (.iload 5, 2) := by decide +kernel
theorem dX11_unlike_175 : decode cX11_unlike 175 = .ok (.if_icmp .ge 42, 3) := by decide +kernel
theorem dX11_unlike_178 : decode cX11_unlike 178 = .ok (.iload 8, 2) := by decide +kernel
theorem dX11_unlike_180 : decode cX11_unlike 180 = .ok (.ifCond .eq 37, 3) := by decide +kernel
theorem dX11_unlike_183 : decode cX11_unlike 183 = .ok (.aload_n 0, 1) := by decide +kernel
theorem dX11_unlike_184 : decode cX11_unlike 184 = .ok (.aload_n 0, 1) := by decide +kernel
theorem dX11_unlike_185 : decode cX11_unlike 185 = .ok (.getfield 56, 3) := by decide +kernel
theorem dX11_unlike_188 : decode cX11_unlike 188 = .ok (.iload 9, 2) := by decide +kernel
theorem dX11_unlike_190 : decode cX11_unlike 190 = .ok (.aaload, 1) := by decide +kernel
theorem dX11_unlike_191 : decode cX11_unlike 191 = .ok (.aload_n 0, 1) := by decide +kernel
theorem dX11_unlike_192 : decode cX11_unlike 192 = .ok (.getfield 56, 3) := by decide +kernel
theorem dX11_unlike_195 : decode cX11_unlike 195 = .ok (.iload 5, 2) := by decide +kernel
theorem dX11_unlike_197 : decode cX11_unlike 197 = .ok (.aaload, 1) := by decide +kernel
theorem dX11_unlike_198 : decode cX11_unlike 198 = .ok (.invokevirtual 191, 3) := by decide +kernel
theorem dX11_unlike_201 : decode cX11_unlike 201 = .ok (.ifCond .ne 7, 3) := by decide +kernel
theorem dX11_unlike_204 : decode cX11_unlike 204 = .ok (.iconst 1, 1) := by decide +kernel
theorem dX11_unlike_205 : decode cX11_unlike 205 = .ok (.goto 4, 3) := by decide +kernel
theorem dX11_unlike_208 : decode cX11_unlike 208 = .ok (.iconst 0, 1) := by decide +kernel
theorem dX11_unlike_209 : decode cX11_unlike 209 = .ok (.istore 8, 2) := by decide +kernel
theorem dX11_unlike_211 : decode cX11_unlike 211 = .ok (.iinc 9 1, 3) := by decide +kernel
theorem dX11_unlike_214 : decode cX11_unlike 214 = .ok (.goto (-43), 3) := by decide +kernel
theorem dX11_unlike_217 : decode cX11_unlike 217 = .ok (.iload 5, 2) := by decide +kernel
theorem dX11_unlike_219 : decode cX11_unlike 219 = .ok (.iload 8, 2) := by decide +kernel
theorem dX11_unlike_221 : decode cX11_unlike 221 = .ok (.ifCond .eq 7, 3) := by decide +kernel
theorem dX11_unlike_224 : decode cX11_unlike 224 = .ok (.iconst 1, 1) := by decide +kernel
theorem dX11_unlike_225 : decode cX11_unlike 225 = .ok (.goto 4, 3) := by decide +kernel
theorem dX11_unlike_228 : decode cX11_unlike 228 = .ok (.iconst 0, 1) := by decide +kernel
theorem dX11_unlike_229 : decode cX11_unlike 229 = .ok (.iadd, 1) := by decide +kernel
theorem dX11_unlike_230 : decode cX11_unlike 230 = .ok (.istore 5, 2) := by decide +kernel
theorem dX11_unlike_232 : decode cX11_unlike 232 = .ok (.iinc 6 1, 3) := by decide +kernel
theorem dX11_unlike_235 : decode cX11_unlike 235 = .ok (.goto (-154), 3) := by decide +kernel
theorem dX11_unlike_238 : decode cX11_unlike 238 = .ok (.iload 5, 2) := by decide +kernel
theorem dX11_unlike_240 : decode cX11_unlike 240 = .ok (.ireturn, 1) := by decide +kernel
theorem dX11_lots_0 : decode cX11_lots 0 = .ok (.aload_n 0, 1) := by decide +kernel
theorem dX11_lots_1 : decode cX11_lots 1 = .ok (.iload_n 1, 1) := by decide +kernel
theorem dX11_lots_2 : decode cX11_lots 2 = .ok (.invokevirtual 131, 3) := by decide +kernel
theorem dX11_lots_5 : decode cX11_lots 5 = .ok (.ifCond .eq 15, 3) := by decide +kernel
theorem dX11_lots_8 : decode cX11_lots 8 = .ok (.iload_n 2, 1) := by decide +kernel
theorem dX11_lots_9 : decode cX11_lots 9 = .ok (.i2l, 1) := by decide +kernel
theorem dX11_lots_10 : decode cX11_lots 10 = .ok (.lconst 1, 1) := by decide +kernel
theorem dX11_lots_11 : decode cX11_lots 11 = .ok (.ldc2_w 195, 3) := by decide +kernel
theorem dX11_lots_14 : decode cX11_lots 14 = .ok (.invokestatic 85, 3) := by decide +kernel
theorem dX11_lots_17 : decode cX11_lots 17 = .ok (.ifCond .ne 6, 3) := by decide +kernel
theorem dX11_lots_20 : decode cX11_lots 20 = .ok (.bipush (-2), 2) := by decide +kernel
theorem dX11_lots_22 : decode cX11_lots 22 = .ok (.ireturn, 1) := by decide +kernel
theorem dX11_lots_23 : decode cX11_lots 23 = .ok (.iload 4, 2) := by decide +kernel
theorem dX11_lots_25 : decode cX11_lots 25 = .ok (.i2l, 1) := by decide +kernel
theorem dX11_lots_26 : decode cX11_lots 26 = .ok (.lconst 0, 1) := by decide +kernel
theorem dX11_lots_27 : decode cX11_lots 27 = .ok (.lconst 1, 1) := by decide +kernel
theorem dX11_lots_28 : decode cX11_lots 28 = .ok (.invokestatic 85, 3) := by decide +kernel
theorem dX11_lots_31 : decode cX11_lots 31 = .ok (.ifCond .ne 5, 3) := by decide +kernel
theorem dX11_lots_34 : decode cX11_lots 34 = .ok (.iconst (-1), 1) := by decide +kernel
theorem dX11_lots_35 : decode cX11_lots 35 = .ok (.ireturn, 1) := by decide +kernel
theorem dX11_lots_36 : decode cX11_lots 36 = .ok (.aload_n 0, 1) := by decide +kernel
theorem dX11_lots_37 : decode cX11_lots 37 = .ok (.invokevirtual 134, 3) := by decide +kernel
theorem dX11_lots_40 : decode cX11_lots 40 = .ok (.iload_n 3, 1) := by decide +kernel
theorem dX11_lots_41 : decode cX11_lots 41 = .ok (.istore 5, 2) := by decide +kernel
theorem dX11_lots_43 : decode cX11_lots 43 = .ok (.iconst 0, 1) := by decide +kernel
theorem dX11_lots_44 : decode cX11_lots 44 = .ok (.istore 6, 2) := by decide +kernel
theorem dX11_lots_46 : decode cX11_lots 46 = .ok (.iconst 0, 1) := by decide +kernel
theorem dX11_lots_47 : decode cX11_lots 47 = .ok (.istore 7, 2) := by decide +kernel
theorem dX11_lots_49 : decode cX11_lots 49 = .ok (.iconst 0, 1) := by decide +kernel
theorem dX11_lots_50 : decode cX11_lots 50 = .ok (.istore 8, 2) := by decide +kernel
theorem dX11_lots_52 : decode cX11_lots 52 = .ok (.iload 8, 2) := by decide +kernel
theorem dX11_lots_54 : decode cX11_lots 54 = .ok (.iload_n 2, 1) := by decide +kernel
theorem dX11_lots_55 : decode cX11_lots 55 = .ok (.if_icmp .ge 173, 3) := by decide +kernel
theorem dX11_lots_58 : decode cX11_lots 58 = .ok (.iconst 0, 1) := by decide +kernel
theorem dX11_lots_59 : decode cX11_lots 59 = .ok (.istore 9, 2) := by decide +kernel
theorem dX11_lots_61 : decode cX11_lots 61 = .ok (.iload 9, 2) := by decide +kernel
theorem dX11_lots_63 : decode cX11_lots 63 = .ok (.sipush 256, 3) := by decide +kernel
theorem dX11_lots_66 : decode cX11_lots 66 = .ok (.if_icmp .ge 17, 3) := by decide +kernel
theorem dX11_lots_69 : decode cX11_lots 69 = .ok (.aload_n 0, 1) := by decide +kernel
theorem dX11_lots_70 : decode cX11_lots 70 = .ok (.getfield 49, 3) := by decide +kernel
theorem dX11_lots_73 : decode cX11_lots 73 = .ok (.iload 9, 2) := by decide +kernel
theorem dX11_lots_75 : decode cX11_lots 75 = .ok (.iconst 0, 1) := by decide +kernel
theorem dX11_lots_76 : decode cX11_lots 76 = .ok (.bastore, 1) := by decide +kernel
theorem dX11_lots_77 : decode cX11_lots 77 = .ok (.iinc 9 1, 3) := by decide +kernel
theorem dX11_lots_80 : decode cX11_lots 80 = .ok (.goto (-19), 3) := by decide +kernel
theorem dX11_lots_83 : decode cX11_lots 83 = .ok (.iconst 0, 1) := by decide +kernel
theorem dX11_lots_84 : decode cX11_lots 84 = .ok (.istore 9, 2) := by decide +kernel
theorem dX11_lots_86 : decode cX11_lots 86 = .ok (.iload 9, 2) := by decide +kernel
theorem dX11_lots_88 : decode cX11_lots 88 = .ok (.aload_n 0, 1) := by decide +kernel
theorem dX11_lots_89 : decode cX11_lots 89 = .ok (.getfield 35, 3) := by decide +kernel
theorem dX11_lots_92 : decode cX11_lots 92 = .ok (.iload_n 1, 1) := by decide +kernel
theorem dX11_lots_93 : decode cX11_lots 93 = .ok (.iaload, 1) := by decide +kernel
theorem dX11_lots_94 : decode cX11_lots 94 = .ok (.if_icmp .ge 91, 3) := by decide +kernel
theorem dX11_lots_97 : decode cX11_lots 97 = .ok (.iload 5, 2) := by decide +kernel
theorem dX11_lots_99 : decode cX11_lots 99 = .ok (.ldc 197, 2) := by decide +kernel
theorem dX11_lots_101 : decode cX11_lots 101 = .ok (.imul, 1) := by decide +kernel
theorem dX11_lots_102 : decode cX11_lots 102 = .ok (.sipush 12345, 3) := by decide +kernel
theorem dX11_lots_105 : decode cX11_lots 105 = .ok (.iadd, 1) := by decide +kernel
theorem dX11_lots_106 : decode cX11_lots 106 = .ok (.istore 5, 2) := by decide +kernel
theorem dX11_lots_108 : decode cX11_lots 108 = .ok (.iload 5, 2) := by decide +kernel
theorem dX11_lots_110 : decode cX11_lots 110 = .ok (.ldc 198, 2) := by decide +kernel
theorem dX11_lots_112 : decode cX11_lots 112 = .ok (.iand, 1) := by decide +kernel
theorem dX11_lots_113 : decode cX11_lots 113 = .ok (.ldc 199, 2) := by decide +kernel
theorem dX11_lots_115 : decode cX11_lots 115 = .ok (.idiv, 1) := by decide +kernel
theorem dX11_lots_116 : decode cX11_lots 116 = .ok (.iconst 2, 1) := by decide +kernel
theorem dX11_lots_117 : decode cX11_lots 117 = .ok (.irem, 1) := by decide +kernel
theorem dX11_lots_118 : decode cX11_lots 118 = .ok (.iconst 1, 1) := by decide +kernel
theorem dX11_lots_119 : decode cX11_lots 119 = .ok (.if_icmp .ne 7, 3) := by decide +kernel
theorem dX11_lots_122 : decode cX11_lots 122 = .ok (.iconst 1, 1) := by decide +kernel
theorem dX11_lots_123 : decode cX11_lots 123 = .ok (.goto 4, 3) := by decide +kernel
theorem dX11_lots_126 : decode cX11_lots 126 = .ok (.iconst 0, 1) := by decide +kernel
theorem dX11_lots_127 : decode cX11_lots 127 = .ok (.istore 10, 2) := by decide +kernel
theorem dX11_lots_129 : decode cX11_lots 129 = .ok (.iconst 0, 1) := by decide +kernel
theorem dX11_lots_130 : decode cX11_lots 130 = .ok (.istore 11, 2) := by decide +kernel
theorem dX11_lots_132 : decode cX11_lots 132 = .ok (.iload 11, 2) := by decide +kernel
theorem dX11_lots_134 : decode cX11_lots 134 = .ok (.aload_n 0, 1) := by decide +kernel
theorem dX11_lots_135 : decode cX11_lots 135 = .ok (.invokevirtual 81, 3) := by decide +kernel
theorem dX11_lots_138 : decode cX11_lots 138 = .ok (.if_icmp .gt 41, 3) := by decide +kernel
theorem dX11_lots_141 : decode cX11_lots 141 = .ok (.aload_n 0, 1) := by decide +kernel
theorem dX11_lots_142 : decode cX11_lots 142 = .ok (.getfield 49, 3) := by decide +kernel
theorem dX11_lots_145 : decode cX11_lots 145 = .ok (.iload 11, 2) := by decide +kernel
theorem dX11_lots_147 : decode cX11_lots 147 = .ok (.dup2, 1) := by decide +kernel
theorem dX11_lots_148 : decode cX11_lots 148 = .ok (.baload, 1) := by decide +kernel
theorem dX11_lots_149 : decode cX11_lots 149 = .ok (.iload 10, 2) := by decide +kernel
theorem dX11_lots_151 : decode cX11_lots 151 = .ok (.ifCond .eq 19, 3) := by decide +kernel
theorem dX11_lots_154 : decode cX11_lots 154 = .ok (.aload_n 0, 1) := by decide +kernel
theorem dX11_lots_155 : decode cX11_lots 155 = .ok (.iload 11, 2) := by decide +kernel
theorem dX11_lots_157 : decode cX11_lots 157 = .ok (.iload_n 1, 1) := by decide +kernel
theorem dX11_lots_158 : decode cX11_lots 158 = .ok (.iload 9, 2) := by decide +kernel
theorem dX11_lots_160 : decode cX11_lots 160 = .ok (.invokevirtual 137, 3) := by decide +kernel
theorem dX11_lots_163 : decode cX11_lots 163 = .ok (.ifCond .eq 7, 3) := by decide +kernel
theorem dX11_lots_166 : decode cX11_lots 166 = .ok (.iconst 1, 1) := by decide +kernel
theorem dX11_lots_167 : decode cX11_lots 167 = .ok (.goto 4, 3) := by decide +kernel
theorem dX11_lots_170 : decode cX11_lots 170 = .ok (.iconst 0, 1) := by decide +kernel
theorem dX11_lots_171 : decode cX11_lots 171 = .ok (.ior, 1) := by decide +kernel
theorem dX11_lots_172 : decode cX11_lots 172 = .ok (.bastore, 1) := by decide +kernel
theorem dX11_lots_173 : decode cX11_lots 173 = .ok (.iinc 11 1, 3) := by decide +kernel
theorem dX11_lots_176 : decode cX11_lots 176 = .ok (.goto (-44), 3) := by decide +kernel
theorem dX11_lots_179 : decode cX11_lots 179 = .ok (.iinc 9 1, 3) := by decide +kernel
theorem dX11_lots_182 : decode cX11_lots 182 = .ok (.goto (-96), 3) := by decide +kernel
theorem dX11_lots_185 : decode cX11_lots 185 = .ok (.iload 6, 2) := by decide +kernel
theorem dX11_lots_187 : decode cX11_lots 187 = .ok (.aload_n 0, 1) := by decide +kernel
theorem dX11_lots_188 : decode cX11_lots 188 = .ok (.getfield 49, 3) := by decide +kernel
theorem dX11_lots_191 : decode cX11_lots 191 = .ok (.aload_n 0, 1) := by decide +kernel
theorem dX11_lots_192 : decode cX11_lots 192 = .ok (.invokevirtual 81, 3) := by decide +kernel
theorem dX11_lots_195 : decode cX11_lots 195 = .ok (.iconst 1, 1) := by decide +kernel
theorem dX11_lots_196 : decode cX11_lots 196 = .ok (.invokestatic 174, 3) := by decide +kernel
theorem dX11_lots_199 : decode cX11_lots 199 = .ok (.ifCond .lt 7, 3) := by decide +kernel
theorem dX11_lots_202 : decode cX11_lots 202 = .ok (.iconst 1, 1) := by decide +kernel
theorem dX11_lots_203 : decode cX11_lots 203 = .ok (.goto 4, 3) := by decide +kernel
theorem dX11_lots_206 : decode cX11_lots 206 = .ok (.iconst 0, 1) := by decide +kernel
theorem dX11_lots_207 : decode cX11_lots 207 = .ok (.iadd, 1) := by decide +kernel
theorem dX11_lots_208 : decode cX11_lots 208 = .ok (.istore 6, 2) := by decide +kernel
theorem dX11_lots_210 : decode cX11_lots 210 = .ok (.iload 7, 2) := by decide +kernel
theorem dX11_lots_212 : decode cX11_lots 212 = .ok (.aload_n 0, 1) := by decide +kernel
theorem dX11_lots_213 : decode cX11_lots 213 = .ok (.getfield 49, 3) := by decide +kernel
theorem dX11_lots_216 : decode cX11_lots 216 = .ok (.invokestatic 170, 3) := by decide +kernel
theorem dX11_lots_219 : decode cX11_lots 219 = .ok (.iadd, 1) := by decide +kernel
theorem dX11_lots_220 : decode cX11_lots 220 = .ok (.istore 7, 2) := by decide +kernel
theorem dX11_lots_222 : decode cX11_lots 222 = .ok (.iinc 8 1, 3) := by decide +kernel
theorem dX11_lots_225 : decode cX11_lots 225 = .ok (.goto (-173), 3) := by decide +kernel
theorem dX11_lots_228 : decode cX11_lots 228 = .ok (.iload 4, 2) := by decide +kernel
theorem dX11_lots_230 : decode cX11_lots 230 = .ok (.ifCond .ne 8, 3) := by decide +kernel
theorem dX11_lots_233 : decode cX11_lots 233 = .ok (.iload 6, 2) := by decide +kernel
theorem dX11_lots_235 : decode cX11_lots 235 = .ok (.goto 5, 3) := by decide +kernel
theorem dX11_lots_238 : decode cX11_lots 238 = .ok (.iload 7, 2) := by decide +kernel
theorem dX11_lots_240 : decode cX11_lots 240 = .ok (.ireturn, 1) := by decide +kernel
theorem dX11_feed_0 : decode cX11_feed 0 = .ok (.iload_n 1, 1) := by decide +kernel
theorem dX11_feed_1 : decode cX11_feed 1 = .ok (.i2l, 1) := by decide +kernel
theorem dX11_feed_2 : decode cX11_feed 2 = .ok (.lconst 0, 1) := by decide +kernel
theorem dX11_feed_3 : decode cX11_feed 3 = .ok (.ldc2_w 200, 3) := by decide +kernel
theorem dX11_feed_6 : decode cX11_feed 6 = .ok (.invokestatic 85, 3) := by decide +kernel
theorem dX11_feed_9 : decode cX11_feed 9 = .ok (.ifCond .ne 6, 3) := by decide +kernel
theorem dX11_feed_12 : decode cX11_feed 12 = .ok (.bipush (-2), 2) := by decide +kernel
theorem dX11_feed_14 : decode cX11_feed 14 = .ok (.ireturn, 1) := by decide +kernel
theorem dX11_feed_15 : decode cX11_feed 15 = .ok (.aload_n 0, 1) := by decide +kernel
theorem dX11_feed_16 : decode cX11_feed 16 = .ok (.getfield 202, 3) := by decide +kernel
theorem dX11_feed_19 : decode cX11_feed 19 = .ok (.bipush 100, 2) := by decide +kernel
theorem dX11_feed_21 : decode cX11_feed 21 = .ok (.if_icmp .ne 6, 3) := by decide +kernel
theorem dX11_feed_24 : decode cX11_feed 24 = .ok (.bipush (-4), 2) := by decide +kernel
theorem dX11_feed_26 : decode cX11_feed 26 = .ok (.ireturn, 1) := by decide +kernel
theorem dX11_feed_27 : decode cX11_feed 27 = .ok (.aload_n 0, 1) := by decide +kernel
theorem dX11_feed_28 : decode cX11_feed 28 = .ok (.getfield 59, 3) := by decide +kernel
theorem dX11_feed_31 : decode cX11_feed 31 = .ok (.aload_n 0, 1) := by decide +kernel
theorem dX11_feed_32 : decode cX11_feed 32 = .ok (.getfield 202, 3) := by decide +kernel
theorem dX11_feed_35 : decode cX11_feed 35 = .ok (.iload_n 1, 1) := by decide +kernel
theorem dX11_feed_36 : decode cX11_feed 36 = .ok (.iastore, 1) := by decide +kernel
theorem dX11_feed_37 : decode cX11_feed 37 = .ok (.aload_n 0, 1) := by decide +kernel
theorem dX11_feed_38 : decode cX11_feed 38 = .ok (.dup, 1) := by decide +kernel
theorem dX11_feed_39 : decode cX11_feed 39 = .ok (.getfield 202, 3) := by decide +kernel
theorem dX11_feed_42 : decode cX11_feed 42 = .ok (.iconst 1, 1) := by decide +kernel
theorem dX11_feed_43 : decode cX11_feed 43 = .ok (.iadd, 1) := by decide +kernel
theorem dX11_feed_44 : decode cX11_feed 44 = .ok (.putfield 202, 3) := by decide +kernel
theorem dX11_feed_47 : decode cX11_feed 47 = .ok (.aload_n 0, 1) := by decide +kernel
theorem dX11_feed_48 : decode cX11_feed 48 = .ok (.getfield 202, 3) := by decide +kernel
theorem dX11_feed_51 : decode cX11_feed 51 = .ok (.ireturn, 1) := by decide +kernel
theorem dX11_here_0 : decode cX11_here 0 = .ok (.aload_n 0, 1) := by decide +kernel
theorem dX11_here_1 : decode cX11_here 1 = .ok (.getfield 206, 3) := by decide +kernel
theorem dX11_here_4 : decode cX11_here 4 = .ok (.aload_n 0, 1) := by decide +kernel
theorem dX11_here_5 : decode cX11_here 5 = .ok (.getfield 202, 3) := by decide +kernel
theorem dX11_here_8 : decode cX11_here 8 = .ok (.if_icmp .ge 15, 3) := by decide +kernel
theorem dX11_here_11 : decode cX11_here 11 = .ok (.aload_n 0, 1) := by decide +kernel
theorem dX11_here_12 : decode cX11_here 12 = .ok (.getfield 59, 3) := by decide +kernel
theorem dX11_here_15 : decode cX11_here 15 = .ok (.aload_n 0, 1) := by decide +kernel
theorem dX11_here_16 : decode cX11_here 16 = .ok (.getfield 206, 3) := by decide +kernel
theorem dX11_here_19 : decode cX11_here 19 = .ok (.iaload, 1) := by decide +kernel
theorem dX11_here_20 : decode cX11_here 20 = .ok (.goto 4, 3) := by decide +kernel
theorem dX11_here_23 : decode cX11_here 23 = .ok (.iconst (-1), 1) := by decide +kernel
theorem dX11_here_24 : decode cX11_here 24 = .ok (.ireturn, 1) := by decide +kernel
theorem dX11_hasClause_0 : decode cX11_hasClause 0 = .ok (.aload_n 0, 1) := by decide +kernel
theorem dX11_hasClause_1 : decode cX11_hasClause 1 = .ok (.invokevirtual 209, 3) := by decide +kernel
theorem dX11_hasClause_4 : decode cX11_hasClause 4 = .ok (.istore_n 1, 1) := by decide +kernel
theorem dX11_hasClause_5 : decode cX11_hasClause 5 = .ok (.iload_n 1, 1) := by decide +kernel
theorem dX11_hasClause_6 : decode cX11_hasClause 6 = .ok (.bipush 110, 2) := by decide +kernel
theorem dX11_hasClause_8 : decode cX11_hasClause 8 = .ok (.if_icmp .eq 9, 3) := by decide +kernel
theorem dX11_hasClause_11 : decode cX11_hasClause 11 = .ok (.iload_n 1, 1) := by decide +kernel
theorem dX11_hasClause_12 : decode cX11_hasClause 12 = .ok (.bipush 98, 2) := by decide +kernel
theorem dX11_hasClause_14 : decode cX11_hasClause 14 = .ok (.if_icmp .ne 7, 3) := by decide +kernel
theorem dX11_hasClause_17 : decode cX11_hasClause 17 = .ok (.iconst 1, 1) := by decide +kernel
theorem dX11_hasClause_18 : decode cX11_hasClause 18 = .ok (.goto 30, 3) := by decide +kernel
theorem dX11_hasClause_21 : decode cX11_hasClause 21 = .ok (.iload_n 1, 1) := by decide +kernel
theorem dX11_hasClause_22 : decode cX11_hasClause 22 = .ok (.bipush 103, 2) := by decide +kernel
theorem dX11_hasClause_24 : decode cX11_hasClause 24 = .ok (.if_icmp .eq 9, 3) := by decide +kernel
theorem dX11_hasClause_27 : decode cX11_hasClause 27 = .ok (.iload_n 1, 1) := by decide +kernel
theorem dX11_hasClause_28 : decode cX11_hasClause 28 = .ok (.bipush 107, 2) := by decide +kernel
theorem dX11_hasClause_30 : decode cX11_hasClause 30 = .ok (.if_icmp .ne 7, 3) := by decide +kernel
theorem dX11_hasClause_33 : decode cX11_hasClause 33 = .ok (.iconst 2, 1) := by decide +kernel
theorem dX11_hasClause_34 : decode cX11_hasClause 34 = .ok (.goto 14, 3) := by decide +kernel
theorem dX11_hasClause_37 : decode cX11_hasClause 37 = .ok (.iload_n 1, 1) := by decide +kernel
theorem dX11_hasClause_38 : decode cX11_hasClause 38 = .ok (.bipush 104, 2) := by decide +kernel
theorem dX11_hasClause_40 : decode cX11_hasClause 40 = .ok (.if_icmp .ne 7, 3) := by decide +kernel
theorem dX11_hasClause_43 : decode cX11_hasClause 43 = .ok (.iconst 3, 1) := by decide +kernel
theorem dX11_hasClause_44 : decode cX11_hasClause 44 = .ok (.goto 4, 3) := by decide +kernel
theorem dX11_hasClause_47 : decode cX11_hasClause 47 = .ok (.iconst 0, 1) := by decide +kernel
theorem dX11_hasClause_48 : decode cX11_hasClause 48 = .ok (.istore_n 2, 1) := by decide +kernel
theorem dX11_hasClause_49 : decode cX11_hasClause 49 = .ok (.iload_n 1, 1) := by decide +kernel
theorem dX11_hasClause_50 : decode cX11_hasClause 50 = .ok (.bipush 104, 2) := by decide +kernel
theorem dX11_hasClause_52 : decode cX11_hasClause 52 = .ok (.if_icmp .eq 9, 3) := by decide +kernel
theorem dX11_hasClause_55 : decode cX11_hasClause 55 = .ok (.iload_n 1, 1) := by decide +kernel
theorem dX11_hasClause_56 : decode cX11_hasClause 56 = .ok (.bipush 98, 2) := by decide +kernel
theorem dX11_hasClause_58 : decode cX11_hasClause 58 = .ok (.if_icmp .ne 8, 3) := by decide +kernel
theorem dX11_hasClause_61 : decode cX11_hasClause 61 = .ok (.bipush 8, 2) := by decide +kernel
theorem dX11_hasClause_63 : decode cX11_hasClause 63 = .ok (.goto 4, 3) := by decide +kernel
theorem dX11_hasClause_66 : decode cX11_hasClause 66 = .ok (.iload_n 2, 1) := by decide +kernel
theorem dX11_hasClause_67 : decode cX11_hasClause 67 = .ok (.istore_n 3, 1) := by decide +kernel
theorem dX11_hasClause_68 : decode cX11_hasClause 68 = .ok (.iload_n 2, 1) := by decide +kernel
theorem dX11_hasClause_69 : decode cX11_hasClause 69 = .ok (.ifCond .ne 5, 3) := by decide +kernel
theorem dX11_hasClause_72 : decode cX11_hasClause 72 = .ok (.iconst 0, 1) := by decide +kernel
theorem dX11_hasClause_73 : decode cX11_hasClause 73 = .ok (.ireturn, 1) := by decide +kernel
theorem dX11_hasClause_74 : decode cX11_hasClause 74 = .ok (.aload_n 0, 1) := by decide +kernel
theorem dX11_hasClause_75 : decode cX11_hasClause 75 = .ok (.dup, 1) := by decide +kernel
theorem dX11_hasClause_76 : decode cX11_hasClause 76 = .ok (.getfield 206, 3) := by decide +kernel
theorem dX11_hasClause_79 : decode cX11_hasClause 79 = .ok (.iconst 1, 1) := by decide +kernel
theorem dX11_hasClause_80 : decode cX11_hasClause 80 = .ok (.iadd, 1) := by decide +kernel
theorem dX11_hasClause_81 : decode cX11_hasClause 81 = .ok (.putfield 206, 3) := by decide +kernel
theorem dX11_hasClause_84 : decode cX11_hasClause 84 = .ok (.aload_n 0, 1) := by decide +kernel
theorem dX11_hasClause_85 : decode cX11_hasClause 85 = .ok (.iconst 0, 1) := by decide +kernel
theorem dX11_hasClause_86 : decode cX11_hasClause 86 = .ok (.putfield 212, 3) := by decide +kernel
theorem dX11_hasClause_89 : decode cX11_hasClause 89 = .ok (.aload_n 0, 1) := by decide +kernel
theorem dX11_hasClause_90 : decode cX11_hasClause 90 = .ok (.iconst 0, 1) := by decide +kernel
theorem dX11_hasClause_91 : decode cX11_hasClause 91 = .ok (.putfield 215, 3) := by decide +kernel
theorem dX11_hasClause_94 : decode cX11_hasClause 94 = .ok (.aload_n 0, 1) := by decide +kernel
theorem dX11_hasClause_95 : decode cX11_hasClause 95 = .ok (.iconst 0, 1) := by decide +kernel
theorem dX11_hasClause_96 : decode cX11_hasClause 96 = .ok (.putfield 218, 3) := by decide +kernel
theorem dX11_hasClause_99 : decode cX11_hasClause 99 = .ok (.aload_n 0, 1) := by decide +kernel
theorem dX11_hasClause_100 : decode cX11_hasClause 100 = .ok (.getfield 212, 3) := by decide +kernel
theorem dX11_hasClause_103 : decode cX11_hasClause 103 = .ok (.iload_n 3, 1) := by decide +kernel
theorem dX11_hasClause_104 : decode cX11_hasClause 104 = .ok (.if_icmp .ge 80, 3) := by decide +kernel
theorem dX11_hasClause_107 : decode cX11_hasClause 107 = .ok (.aload_n 0, 1) := by decide +kernel
theorem dX11_hasClause_108 : decode cX11_hasClause 108 = .ok (.invokevirtual 209, 3) := by decide +kernel
theorem dX11_hasClause_111 : decode cX11_hasClause 111 = .ok (.i2l, 1) := by decide +kernel
theorem dX11_hasClause_112 : decode cX11_hasClause 112 = .ok (.ldc2_w 221, 3) := by decide +kernel
theorem dX11_hasClause_115 : decode cX11_hasClause 115 = .ok (.ldc2_w 223, 3) := by decide +kernel
theorem dX11_hasClause_118 : decode cX11_hasClause 118 = .ok (.invokestatic 85, 3) := by decide +kernel
theorem dX11_hasClause_121 : decode cX11_hasClause 121 = .ok (.ifCond .eq 63, 3) := by decide +kernel
theorem dX11_hasClause_124 : decode cX11_hasClause 124 = .ok (.aload_n 0, 1) := by decide +kernel
theorem dX11_hasClause_125 : decode cX11_hasClause 125 = .ok (.bipush 10, 2) := by decide +kernel
theorem dX11_hasClause_127 : decode cX11_hasClause 127 = .ok (.aload_n 0, 1) := by decide +kernel
theorem dX11_hasClause_128 : decode cX11_hasClause 128 = .ok (.getfield 215, 3) := by decide +kernel
theorem dX11_hasClause_131 : decode cX11_hasClause 131 = .ok (.imul, 1) := by decide +kernel
theorem dX11_hasClause_132 : decode cX11_hasClause 132 = .ok (.aload_n 0, 1) := by decide +kernel
theorem dX11_hasClause_133 : decode cX11_hasClause 133 = .ok (.invokevirtual 209, 3) := by decide +kernel
theorem dX11_hasClause_136 : decode cX11_hasClause 136 = .ok (.iadd, 1) := by decide +kernel
theorem dX11_hasClause_137 : decode cX11_hasClause 137 = .ok (.bipush 48, 2) := by decide +kernel
theorem dX11_hasClause_139 : decode cX11_hasClause 139 = .ok (.isub, 1) := by decide +kernel
theorem dX11_hasClause_140 : decode cX11_hasClause 140 = .ok (.putfield 215, 3) := by decide +kernel
theorem dX11_hasClause_143 : decode cX11_hasClause 143 = .ok (.aload_n 0, 1) := by decide +kernel
theorem dX11_hasClause_144 : decode cX11_hasClause 144 = .ok (.dup, 1) := by decide +kernel
theorem dX11_hasClause_145 : decode cX11_hasClause 145 = .ok (.getfield 218, 3) := by decide +kernel
theorem dX11_hasClause_148 : decode cX11_hasClause 148 = .ok (.iconst 1, 1) := by decide +kernel
theorem dX11_hasClause_149 : decode cX11_hasClause 149 = .ok (.aload_n 0, 1) := by decide +kernel
theorem dX11_hasClause_150 : decode cX11_hasClause 150 = .ok (.invokevirtual 209, 3) := by decide +kernel
theorem dX11_hasClause_153 : decode cX11_hasClause 153 = .ok (.bipush 48, 2) := by decide +kernel
theorem dX11_hasClause_155 : decode cX11_hasClause 155 = .ok (.isub, 1) := by decide +kernel
theorem dX11_hasClause_156 : decode cX11_hasClause 156 = .ok (.ishl, 1) := by decide +kernel
theorem dX11_hasClause_157 : decode cX11_hasClause 157 = .ok (.ior, 1) := by decide +kernel
theorem dX11_hasClause_158 : decode cX11_hasClause 158 = .ok (.putfield 218, 3) := by decide +kernel
theorem dX11_hasClause_161 : decode cX11_hasClause 161 = .ok (.aload_n 0, 1) := by decide +kernel
theorem dX11_hasClause_162 : decode cX11_hasClause 162 = .ok (.dup, 1) := by decide +kernel
theorem dX11_hasClause_163 : decode cX11_hasClause 163 = .ok (.getfield 212, 3) := by decide +kernel
theorem dX11_hasClause_166 : decode cX11_hasClause 166 = .ok (.iconst 1, 1) := by decide +kernel
theorem dX11_hasClause_167 : decode cX11_hasClause 167 = .ok (.iadd, 1) := by decide +kernel
theorem dX11_hasClause_168 : decode cX11_hasClause 168 = .ok (.putfield 212, 3) := by decide +kernel
theorem dX11_hasClause_171 : decode cX11_hasClause 171 = .ok (.aload_n 0, 1) := by decide +kernel
theorem dX11_hasClause_172 : decode cX11_hasClause 172 = .ok (.dup, 1) := by decide +kernel
theorem dX11_hasClause_173 : decode cX11_hasClause 173 = .ok (.getfield 206, 3) := by decide +kernel
theorem dX11_hasClause_176 : decode cX11_hasClause 176 = .ok (.iconst 1, 1) := by decide +kernel
theorem dX11_hasClause_177 : decode cX11_hasClause 177 = .ok (.iadd, 1) := by decide +kernel
theorem dX11_hasClause_178 : decode cX11_hasClause 178 = .ok (.putfield 206, 3) := by decide +kernel
theorem dX11_hasClause_181 : decode cX11_hasClause 181 = .ok (.goto (-82), 3) := by decide +kernel
theorem dX11_hasClause_184 : decode cX11_hasClause 184 = .ok (.aload_n 0, 1) := by decide +kernel
theorem dX11_hasClause_185 : decode cX11_hasClause 185 = .ok (.getfield 212, 3) := by decide +kernel
theorem dX11_hasClause_188 : decode cX11_hasClause 188 = .ok (.iload_n 2, 1) := by decide +kernel
theorem dX11_hasClause_189 : decode cX11_hasClause 189 = .ok (.if_icmp .lt 7, 3) := by decide +kernel
theorem dX11_hasClause_192 : decode cX11_hasClause 192 = .ok (.iconst 1, 1) := by decide +kernel
theorem dX11_hasClause_193 : decode cX11_hasClause 193 = .ok (.goto 4, 3) := by decide +kernel
theorem dX11_hasClause_196 : decode cX11_hasClause 196 = .ok (.iconst 0, 1) := by decide +kernel
theorem dX11_hasClause_197 : decode cX11_hasClause 197 = .ok (.ireturn, 1) := by decide +kernel
theorem dX11_isDone_0 : decode cX11_isDone 0 = .ok (.iload_n 1, 1) := by decide +kernel
theorem dX11_isDone_1 : decode cX11_isDone 1 = .ok (.tableswitch 137 103 110 #[64, 91, 137, 137, 108, 137, 137, 47], 47) := by decide +kernel
theorem dX11_isDone_48 : decode cX11_isDone 48 = .ok (.aload_n 0, 1) := by decide +kernel
theorem dX11_isDone_49 : decode cX11_isDone 49 = .ok (.aload_n 0, 1) := by decide +kernel
theorem dX11_isDone_50 : decode cX11_isDone 50 = .ok (.getfield 215, 3) := by decide +kernel
theorem dX11_isDone_53 : decode cX11_isDone 53 = .ok (.invokevirtual 225, 3) := by decide +kernel
theorem dX11_isDone_56 : decode cX11_isDone 56 = .ok (.ifCond .le 7, 3) := by decide +kernel
theorem dX11_isDone_59 : decode cX11_isDone 59 = .ok (.iconst 1, 1) := by decide +kernel
theorem dX11_isDone_60 : decode cX11_isDone 60 = .ok (.goto 4, 3) := by decide +kernel
theorem dX11_isDone_63 : decode cX11_isDone 63 = .ok (.iconst 0, 1) := by decide +kernel
theorem dX11_isDone_64 : decode cX11_isDone 64 = .ok (.ireturn, 1) := by decide +kernel
theorem dX11_isDone_65 : decode cX11_isDone 65 = .ok (.aload_n 0, 1) := by decide +kernel
theorem dX11_isDone_66 : decode cX11_isDone 66 = .ok (.aload_n 0, 1) := by decide +kernel
theorem dX11_isDone_67 : decode cX11_isDone 67 = .ok (.getfield 215, 3) := by decide +kernel
theorem dX11_isDone_70 : decode cX11_isDone 70 = .ok (.bipush 10, 2) := by decide +kernel
theorem dX11_isDone_72 : decode cX11_isDone 72 = .ok (.idiv, 1) := by decide +kernel
theorem dX11_isDone_73 : decode cX11_isDone 73 = .ok (.aload_n 0, 1) := by decide +kernel
theorem dX11_isDone_74 : decode cX11_isDone 74 = .ok (.getfield 215, 3) := by decide +kernel
theorem dX11_isDone_77 : decode cX11_isDone 77 = .ok (.bipush 10, 2) := by decide +kernel
theorem dX11_isDone_79 : decode cX11_isDone 79 = .ok (.irem, 1) := by decide +kernel
theorem dX11_isDone_80 : decode cX11_isDone 80 = .ok (.invokevirtual 228, 3) := by decide +kernel
theorem dX11_isDone_83 : decode cX11_isDone 83 = .ok (.ifCond .lt 7, 3) := by decide +kernel
theorem dX11_isDone_86 : decode cX11_isDone 86 = .ok (.iconst 1, 1) := by decide +kernel
theorem dX11_isDone_87 : decode cX11_isDone 87 = .ok (.goto 4, 3) := by decide +kernel
theorem dX11_isDone_90 : decode cX11_isDone 90 = .ok (.iconst 0, 1) := by decide +kernel
theorem dX11_isDone_91 : decode cX11_isDone 91 = .ok (.ireturn, 1) := by decide +kernel
theorem dX11_isDone_92 : decode cX11_isDone 92 = .ok (.aload_n 0, 1) := by decide +kernel
theorem dX11_isDone_93 : decode cX11_isDone 93 = .ok (.aload_n 0, 1) := by decide +kernel
theorem dX11_isDone_94 : decode cX11_isDone 94 = .ok (.getfield 215, 3) := by decide +kernel
theorem dX11_isDone_97 : decode cX11_isDone 97 = .ok (.invokevirtual 231, 3) := by decide +kernel
theorem dX11_isDone_100 : decode cX11_isDone 100 = .ok (.ifCond .lt 7, 3) := by decide +kernel
theorem dX11_isDone_103 : decode cX11_isDone 103 = .ok (.iconst 1, 1) := by decide +kernel
theorem dX11_isDone_104 : decode cX11_isDone 104 = .ok (.goto 4, 3) := by decide +kernel
theorem dX11_isDone_107 : decode cX11_isDone 107 = .ok (.iconst 0, 1) := by decide +kernel
theorem dX11_isDone_108 : decode cX11_isDone 108 = .ok (.ireturn, 1) := by decide +kernel
theorem dX11_isDone_109 : decode cX11_isDone 109 = .ok (.aload_n 0, 1) := by decide +kernel
theorem dX11_isDone_110 : decode cX11_isDone 110 = .ok (.aload_n 0, 1) := by decide +kernel
theorem dX11_isDone_111 : decode cX11_isDone 111 = .ok (.getfield 215, 3) := by decide +kernel
theorem dX11_isDone_114 : decode cX11_isDone 114 = .ok (.bipush 10, 2) := by decide +kernel
theorem dX11_isDone_116 : decode cX11_isDone 116 = .ok (.idiv, 1) := by decide +kernel
theorem dX11_isDone_117 : decode cX11_isDone 117 = .ok (.iconst 1, 1) := by decide +kernel
theorem dX11_isDone_118 : decode cX11_isDone 118 = .ok (.aload_n 0, 1) := by decide +kernel
theorem dX11_isDone_119 : decode cX11_isDone 119 = .ok (.getfield 215, 3) := by decide +kernel
theorem dX11_isDone_122 : decode cX11_isDone 122 = .ok (.bipush 10, 2) := by decide +kernel
theorem dX11_isDone_124 : decode cX11_isDone 124 = .ok (.irem, 1) := by decide +kernel
theorem dX11_isDone_125 : decode cX11_isDone 125 = .ok (.ishl, 1) := by decide +kernel
theorem dX11_isDone_126 : decode cX11_isDone 126 = .ok (.invokevirtual 234, 3) := by decide +kernel
theorem dX11_isDone_129 : decode cX11_isDone 129 = .ok (.ifCond .lt 7, 3) := by decide +kernel
theorem dX11_isDone_132 : decode cX11_isDone 132 = .ok (.iconst 1, 1) := by decide +kernel
theorem dX11_isDone_133 : decode cX11_isDone 133 = .ok (.goto 4, 3) := by decide +kernel
theorem dX11_isDone_136 : decode cX11_isDone 136 = .ok (.iconst 0, 1) := by decide +kernel
theorem dX11_isDone_137 : decode cX11_isDone 137 = .ok (.ireturn, 1) := by decide +kernel
theorem dX11_isDone_138 : decode cX11_isDone 138 = .ok (.aload_n 0, 1) := by decide +kernel
theorem dX11_isDone_139 : decode cX11_isDone 139 = .ok (.aload_n 0, 1) := by decide +kernel
theorem dX11_isDone_140 : decode cX11_isDone 140 = .ok (.getfield 218, 3) := by decide +kernel
theorem dX11_isDone_143 : decode cX11_isDone 143 = .ok (.invokevirtual 237, 3) := by decide +kernel
theorem dX11_isDone_146 : decode cX11_isDone 146 = .ok (.ifCond .lt 7, 3) := by decide +kernel
theorem dX11_isDone_149 : decode cX11_isDone 149 = .ok (.iconst 1, 1) := by decide +kernel
theorem dX11_isDone_150 : decode cX11_isDone 150 = .ok (.goto 4, 3) := by decide +kernel
theorem dX11_isDone_153 : decode cX11_isDone 153 = .ok (.iconst 0, 1) := by decide +kernel
theorem dX11_isDone_154 : decode cX11_isDone 154 = .ok (.ireturn, 1) := by decide +kernel
theorem dX11_read_0 : decode cX11_read 0 = .ok (.aload_n 0, 1) := by decide +kernel
theorem dX11_read_1 : decode cX11_read 1 = .ok (.iconst 0, 1) := by decide +kernel
theorem dX11_read_2 : decode cX11_read 2 = .ok (.putfield 206, 3) := by decide +kernel
theorem dX11_read_5 : decode cX11_read 5 = .ok (.iconst 0, 1) := by decide +kernel
theorem dX11_read_6 : decode cX11_read 6 = .ok (.istore_n 1, 1) := by decide +kernel
theorem dX11_read_7 : decode cX11_read 7 = .ok (.iconst 1, 1) := by decide +kernel
theorem dX11_read_8 : decode cX11_read 8 = .ok (.istore_n 2, 1) := by decide +kernel
theorem dX11_read_9 : decode cX11_read 9 = .ok (.iload_n 2, 1) := by decide +kernel
theorem dX11_read_10 : decode cX11_read 10 = .ok (.ifCond .eq 84, 3) := by decide +kernel
theorem dX11_read_13 : decode cX11_read 13 = .ok (.iload_n 1, 1) := by decide +kernel
theorem dX11_read_14 : decode cX11_read 14 = .ok (.ifCond .eq 14, 3) := by decide +kernel
theorem dX11_read_17 : decode cX11_read 17 = .ok (.aload_n 0, 1) := by decide +kernel
theorem dX11_read_18 : decode cX11_read 18 = .ok (.getfield 206, 3) := by decide +kernel
theorem dX11_read_21 : decode cX11_read 21 = .ok (.aload_n 0, 1) := by decide +kernel
theorem dX11_read_22 : decode cX11_read 22 = .ok (.getfield 202, 3) := by decide +kernel
theorem dX11_read_25 : decode cX11_read 25 = .ok (.if_icmp .ge 69, 3) := by decide +kernel
theorem dX11_read_28 : decode cX11_read 28 = .ok (.iload_n 1, 1) := by decide +kernel
theorem dX11_read_29 : decode cX11_read 29 = .ok (.ifCond .le 42, 3) := by decide +kernel
theorem dX11_read_32 : decode cX11_read 32 = .ok (.iload_n 1, 1) := by decide +kernel
theorem dX11_read_33 : decode cX11_read 33 = .ok (.bipush 12, 2) := by decide +kernel
theorem dX11_read_35 : decode cX11_read 35 = .ok (.if_icmp .ge 16, 3) := by decide +kernel
theorem dX11_read_38 : decode cX11_read 38 = .ok (.aload_n 0, 1) := by decide +kernel
theorem dX11_read_39 : decode cX11_read 39 = .ok (.invokevirtual 209, 3) := by decide +kernel
theorem dX11_read_42 : decode cX11_read 42 = .ok (.bipush 59, 2) := by decide +kernel
theorem dX11_read_44 : decode cX11_read 44 = .ok (.if_icmp .ne 7, 3) := by decide +kernel
theorem dX11_read_47 : decode cX11_read 47 = .ok (.iconst 1, 1) := by decide +kernel
theorem dX11_read_48 : decode cX11_read 48 = .ok (.goto 4, 3) := by decide +kernel
theorem dX11_read_51 : decode cX11_read 51 = .ok (.iconst 0, 1) := by decide +kernel
theorem dX11_read_52 : decode cX11_read 52 = .ok (.istore_n 2, 1) := by decide +kernel
theorem dX11_read_53 : decode cX11_read 53 = .ok (.aload_n 0, 1) := by decide +kernel
theorem dX11_read_54 : decode cX11_read 54 = .ok (.dup, 1) := by decide +kernel
theorem dX11_read_55 : decode cX11_read 55 = .ok (.getfield 206, 3) := by decide +kernel
theorem dX11_read_58 : decode cX11_read 58 = .ok (.iload_n 2, 1) := by decide +kernel
theorem dX11_read_59 : decode cX11_read 59 = .ok (.ifCond .eq 7, 3) := by decide +kernel
theorem dX11_read_62 : decode cX11_read 62 = .ok (.iconst 1, 1) := by decide +kernel
theorem dX11_read_63 : decode cX11_read 63 = .ok (.goto 4, 3) := by decide +kernel
theorem dX11_read_66 : decode cX11_read 66 = .ok (.iconst 0, 1) := by decide +kernel
theorem dX11_read_67 : decode cX11_read 67 = .ok (.iadd, 1) := by decide +kernel
theorem dX11_read_68 : decode cX11_read 68 = .ok (.putfield 206, 3) := by decide +kernel
theorem dX11_read_71 : decode cX11_read 71 = .ok (.iload_n 2, 1) := by decide +kernel
theorem dX11_read_72 : decode cX11_read 72 = .ok (.ifCond .eq 14, 3) := by decide +kernel
theorem dX11_read_75 : decode cX11_read 75 = .ok (.aload_n 0, 1) := by decide +kernel
theorem dX11_read_76 : decode cX11_read 76 = .ok (.invokevirtual 240, 3) := by decide +kernel
theorem dX11_read_79 : decode cX11_read 79 = .ok (.ifCond .eq 7, 3) := by decide +kernel
theorem dX11_read_82 : decode cX11_read 82 = .ok (.iconst 1, 1) := by decide +kernel
theorem dX11_read_83 : decode cX11_read 83 = .ok (.goto 4, 3) := by decide +kernel
theorem dX11_read_86 : decode cX11_read 86 = .ok (.iconst 0, 1) := by decide +kernel
theorem dX11_read_87 : decode cX11_read 87 = .ok (.istore_n 2, 1) := by decide +kernel
theorem dX11_read_88 : decode cX11_read 88 = .ok (.iinc 1 1, 3) := by decide +kernel
theorem dX11_read_91 : decode cX11_read 91 = .ok (.goto (-82), 3) := by decide +kernel
theorem dX11_read_94 : decode cX11_read 94 = .ok (.iload_n 2, 1) := by decide +kernel
theorem dX11_read_95 : decode cX11_read 95 = .ok (.ifCond .ne 16, 3) := by decide +kernel
theorem dX11_read_98 : decode cX11_read 98 = .ok (.aload_n 0, 1) := by decide +kernel
theorem dX11_read_99 : decode cX11_read 99 = .ok (.iconst 0, 1) := by decide +kernel
theorem dX11_read_100 : decode cX11_read 100 = .ok (.putfield 202, 3) := by decide +kernel
theorem dX11_read_103 : decode cX11_read 103 = .ok (.bipush (-10), 2) := by decide +kernel
theorem dX11_read_105 : decode cX11_read 105 = .ok (.aload_n 0, 1) := by decide +kernel
theorem dX11_read_106 : decode cX11_read 106 = .ok (.getfield 206, 3) := by decide +kernel
theorem dX11_read_109 : decode cX11_read 109 = .ok (.isub, 1) := by decide +kernel
theorem dX11_read_110 : decode cX11_read 110 = .ok (.ireturn, 1) := by decide +kernel
theorem dX11_read_111 : decode cX11_read 111 = .ok (.iconst 0, 1) := by decide +kernel
theorem dX11_read_112 : decode cX11_read 112 = .ok (.istore_n 3, 1) := by decide +kernel
theorem dX11_read_113 : decode cX11_read 113 = .ok (.aload_n 0, 1) := by decide +kernel
theorem dX11_read_114 : decode cX11_read 114 = .ok (.iconst 0, 1) := by decide +kernel
theorem dX11_read_115 : decode cX11_read 115 = .ok (.putfield 206, 3) := by decide +kernel
theorem dX11_read_118 : decode cX11_read 118 = .ok (.aload_n 0, 1) := by decide +kernel
theorem dX11_read_119 : decode cX11_read 119 = .ok (.getfield 206, 3) := by decide +kernel
theorem dX11_read_122 : decode cX11_read 122 = .ok (.aload_n 0, 1) := by decide +kernel
theorem dX11_read_123 : decode cX11_read 123 = .ok (.getfield 202, 3) := by decide +kernel
theorem dX11_read_126 : decode cX11_read 126 = .ok (.if_icmp .ge 63, 3) := by decide +kernel
theorem dX11_read_129 : decode cX11_read 129 = .ok (.aload_n 0, 1) := by decide +kernel
theorem dX11_read_130 : decode cX11_read 130 = .ok (.invokevirtual 209, 3) := by decide +kernel
theorem dX11_read_133 : decode cX11_read 133 = .ok (.istore 4, 2) := by decide +kernel
theorem dX11_read_135 : decode cX11_read 135 = .ok (.aload_n 0, 1) := by decide +kernel
theorem dX11_read_136 : decode cX11_read 136 = .ok (.invokevirtual 240, 3) := by decide +kernel
theorem dX11_read_139 : decode cX11_read 139 = .ok (.istore 5, 2) := by decide +kernel
theorem dX11_read_141 : decode cX11_read 141 = .ok (.aload_n 0, 1) := by decide +kernel
theorem dX11_read_142 : decode cX11_read 142 = .ok (.dup, 1) := by decide +kernel
theorem dX11_read_143 : decode cX11_read 143 = .ok (.getfield 206, 3) := by decide +kernel
theorem dX11_read_146 : decode cX11_read 146 = .ok (.aload_n 0, 1) := by decide +kernel
theorem dX11_read_147 : decode cX11_read 147 = .ok (.invokevirtual 209, 3) := by decide +kernel
theorem dX11_read_150 : decode cX11_read 150 = .ok (.bipush 59, 2) := by decide +kernel
theorem dX11_read_152 : decode cX11_read 152 = .ok (.if_icmp .ne 7, 3) := by decide +kernel
theorem dX11_read_155 : decode cX11_read 155 = .ok (.iconst 1, 1) := by decide +kernel
theorem dX11_read_156 : decode cX11_read 156 = .ok (.goto 4, 3) := by decide +kernel
theorem dX11_read_159 : decode cX11_read 159 = .ok (.iconst 0, 1) := by decide +kernel
theorem dX11_read_160 : decode cX11_read 160 = .ok (.iadd, 1) := by decide +kernel
theorem dX11_read_161 : decode cX11_read 161 = .ok (.putfield 206, 3) := by decide +kernel
theorem dX11_read_164 : decode cX11_read 164 = .ok (.iload_n 3, 1) := by decide +kernel
theorem dX11_read_165 : decode cX11_read 165 = .ok (.iload 5, 2) := by decide +kernel
theorem dX11_read_167 : decode cX11_read 167 = .ok (.ifCond .eq 16, 3) := by decide +kernel
theorem dX11_read_170 : decode cX11_read 170 = .ok (.aload_n 0, 1) := by decide +kernel
theorem dX11_read_171 : decode cX11_read 171 = .ok (.iload 4, 2) := by decide +kernel
theorem dX11_read_173 : decode cX11_read 173 = .ok (.invokevirtual 244, 3) := by decide +kernel
theorem dX11_read_176 : decode cX11_read 176 = .ok (.ifCond .eq 7, 3) := by decide +kernel
theorem dX11_read_179 : decode cX11_read 179 = .ok (.iconst 1, 1) := by decide +kernel
theorem dX11_read_180 : decode cX11_read 180 = .ok (.goto 4, 3) := by decide +kernel
theorem dX11_read_183 : decode cX11_read 183 = .ok (.iconst 0, 1) := by decide +kernel
theorem dX11_read_184 : decode cX11_read 184 = .ok (.iadd, 1) := by decide +kernel
theorem dX11_read_185 : decode cX11_read 185 = .ok (.istore_n 3, 1) := by decide +kernel
theorem dX11_read_186 : decode cX11_read 186 = .ok (.goto (-68), 3) := by decide +kernel
theorem dX11_read_189 : decode cX11_read 189 = .ok (.aload_n 0, 1) := by decide +kernel
theorem dX11_read_190 : decode cX11_read 190 = .ok (.iconst 0, 1) := by decide +kernel
theorem dX11_read_191 : decode cX11_read 191 = .ok (.putfield 202, 3) := by decide +kernel
theorem dX11_read_194 : decode cX11_read 194 = .ok (.iload_n 3, 1) := by decide +kernel
theorem dX11_read_195 : decode cX11_read 195 = .ok (.ireturn, 1) := by decide +kernel
theorem dX11_isTape_0 : decode cX11_isTape 0 = .ok (.iload_n 0, 1) := by decide +kernel
theorem dX11_isTape_1 : decode cX11_isTape 1 = .ok (.i2l, 1) := by decide +kernel
theorem dX11_isTape_2 : decode cX11_isTape 2 = .ok (.lconst 0, 1) := by decide +kernel
theorem dX11_isTape_3 : decode cX11_isTape 3 = .ok (.ldc2_w 247, 3) := by decide +kernel
theorem dX11_isTape_6 : decode cX11_isTape 6 = .ok (.invokestatic 85, 3) := by decide +kernel
theorem dX11_isTape_9 : decode cX11_isTape 9 = .ok (.ireturn, 1) := by decide +kernel
theorem dX11_judge_0 : decode cX11_judge 0 = .ok (.iload_n 1, 1) := by decide +kernel
theorem dX11_judge_1 : decode cX11_judge 1 = .ok (.invokestatic 249, 3) := by decide +kernel
theorem dX11_judge_4 : decode cX11_judge 4 = .ok (.ifCond .ne 5, 3) := by decide +kernel
theorem dX11_judge_7 : decode cX11_judge 7 = .ok (.iconst (-1), 1) := by decide +kernel
theorem dX11_judge_8 : decode cX11_judge 8 = .ok (.ireturn, 1) := by decide +kernel
theorem dX11_judge_9 : decode cX11_judge 9 = .ok (.aload_n 0, 1) := by decide +kernel
theorem dX11_judge_10 : decode cX11_judge 10 = .ok (.getfield 62, 3) := by decide +kernel
theorem dX11_judge_13 : decode cX11_judge 13 = .ok (.iload_n 1, 1) := by decide +kernel
theorem dX11_judge_14 : decode cX11_judge 14 = .ok (.iaload, 1) := by decide +kernel
theorem dX11_judge_15 : decode cX11_judge 15 = .ok (.iconst (-1), 1) := by decide +kernel
theorem dX11_judge_16 : decode cX11_judge 16 = .ok (.if_icmp .eq 16, 3) := by decide +kernel
theorem dX11_judge_19 : decode cX11_judge 19 = .ok (.aload_n 0, 1) := by decide +kernel
theorem dX11_judge_20 : decode cX11_judge 20 = .ok (.getfield 62, 3) := by decide +kernel
theorem dX11_judge_23 : decode cX11_judge 23 = .ok (.iload_n 1, 1) := by decide +kernel
theorem dX11_judge_24 : decode cX11_judge 24 = .ok (.iaload, 1) := by decide +kernel
theorem dX11_judge_25 : decode cX11_judge 25 = .ok (.iconst 1, 1) := by decide +kernel
theorem dX11_judge_26 : decode cX11_judge 26 = .ok (.if_icmp .eq 6, 3) := by decide +kernel
theorem dX11_judge_29 : decode cX11_judge 29 = .ok (.bipush (-12), 2) := by decide +kernel
theorem dX11_judge_31 : decode cX11_judge 31 = .ok (.ireturn, 1) := by decide +kernel
theorem dX11_judge_32 : decode cX11_judge 32 = .ok (.iconst 0, 1) := by decide +kernel
theorem dX11_judge_33 : decode cX11_judge 33 = .ok (.istore_n 3, 1) := by decide +kernel
theorem dX11_judge_34 : decode cX11_judge 34 = .ok (.iconst 0, 1) := by decide +kernel
theorem dX11_judge_35 : decode cX11_judge 35 = .ok (.istore 4, 2) := by decide +kernel
theorem dX11_judge_37 : decode cX11_judge 37 = .ok (.iload 4, 2) := by decide +kernel
theorem dX11_judge_39 : decode cX11_judge 39 = .ok (.sipush 256, 3) := by decide +kernel
theorem dX11_judge_42 : decode cX11_judge 42 = .ok (.if_icmp .ge 73, 3) := by decide +kernel
theorem dX11_judge_45 : decode cX11_judge 45 = .ok (.aload_n 0, 1) := by decide +kernel
theorem dX11_judge_46 : decode cX11_judge 46 = .ok (.getfield 20, 3) := by decide +kernel
theorem dX11_judge_49 : decode cX11_judge 49 = .ok (.iconst 0, 1) := by decide +kernel
theorem dX11_judge_50 : decode cX11_judge 50 = .ok (.aaload, 1) := by decide +kernel
theorem dX11_judge_51 : decode cX11_judge 51 = .ok (.iload 4, 2) := by decide +kernel
theorem dX11_judge_53 : decode cX11_judge 53 = .ok (.baload, 1) := by decide +kernel
theorem dX11_judge_54 : decode cX11_judge 54 = .ok (.ifCond .eq 55, 3) := by decide +kernel
theorem dX11_judge_57 : decode cX11_judge 57 = .ok (.iload_n 2, 1) := by decide +kernel
theorem dX11_judge_58 : decode cX11_judge 58 = .ok (.ifCond .lt 24, 3) := by decide +kernel
theorem dX11_judge_61 : decode cX11_judge 61 = .ok (.aload_n 0, 1) := by decide +kernel
theorem dX11_judge_62 : decode cX11_judge 62 = .ok (.getfield 62, 3) := by decide +kernel
theorem dX11_judge_65 : decode cX11_judge 65 = .ok (.iload_n 1, 1) := by decide +kernel
theorem dX11_judge_66 : decode cX11_judge 66 = .ok (.iaload, 1) := by decide +kernel
theorem dX11_judge_67 : decode cX11_judge 67 = .ok (.ifCond .lt 15, 3) := by decide +kernel
theorem dX11_judge_70 : decode cX11_judge 70 = .ok (.iload_n 2, 1) := by decide +kernel
theorem dX11_judge_71 : decode cX11_judge 71 = .ok (.aload_n 0, 1) := by decide +kernel
theorem dX11_judge_72 : decode cX11_judge 72 = .ok (.getfield 65, 3) := by decide +kernel
theorem dX11_judge_75 : decode cX11_judge 75 = .ok (.iload_n 1, 1) := by decide +kernel
theorem dX11_judge_76 : decode cX11_judge 76 = .ok (.iaload, 1) := by decide +kernel
theorem dX11_judge_77 : decode cX11_judge 77 = .ok (.iload_n 3, 1) := by decide +kernel
theorem dX11_judge_78 : decode cX11_judge 78 = .ok (.isub, 1) := by decide +kernel
theorem dX11_judge_79 : decode cX11_judge 79 = .ok (.if_icmp .lt 8, 3) := by decide +kernel
theorem dX11_judge_82 : decode cX11_judge 82 = .ok (.bipush 100, 2) := by decide +kernel
theorem dX11_judge_84 : decode cX11_judge 84 = .ok (.iload_n 3, 1) := by decide +kernel
theorem dX11_judge_85 : decode cX11_judge 85 = .ok (.iadd, 1) := by decide +kernel
theorem dX11_judge_86 : decode cX11_judge 86 = .ok (.ireturn, 1) := by decide +kernel
theorem dX11_judge_87 : decode cX11_judge 87 = .ok (.aload_n 0, 1) := by decide +kernel
theorem dX11_judge_88 : decode cX11_judge 88 = .ok (.getfield 70, 3) := by decide +kernel
theorem dX11_judge_91 : decode cX11_judge 91 = .ok (.iload_n 1, 1) := by decide +kernel
theorem dX11_judge_92 : decode cX11_judge 92 = .ok (.aaload, 1) := by decide +kernel
theorem dX11_judge_93 : decode cX11_judge 93 = .ok (.iload_n 2, 1) := by decide +kernel
theorem dX11_judge_94 : decode cX11_judge 94 = .ok (.iload_n 3, 1) := by decide +kernel
theorem dX11_judge_95 : decode cX11_judge 95 = .ok (.iadd, 1) := by decide +kernel
theorem dX11_judge_96 : decode cX11_judge 96 = .ok (.laload, 1) := by decide +kernel
theorem dX11_judge_97 : decode cX11_judge 97 = .ok (.iload 4, 2) := by decide +kernel
theorem dX11_judge_99 : decode cX11_judge 99 = .ok (.i2l, 1) := by decide +kernel
theorem dX11_judge_100 : decode cX11_judge 100 = .ok (.lcmp, 1) := by decide +kernel
theorem dX11_judge_101 : decode cX11_judge 101 = .ok (.ifCond .eq 5, 3) := by decide +kernel
theorem dX11_judge_104 : decode cX11_judge 104 = .ok (.iload_n 3, 1) := by decide +kernel
theorem dX11_judge_105 : decode cX11_judge 105 = .ok (.ireturn, 1) := by decide +kernel
theorem dX11_judge_106 : decode cX11_judge 106 = .ok (.iinc 3 1, 3) := by decide +kernel
theorem dX11_judge_109 : decode cX11_judge 109 = .ok (.iinc 4 1, 3) := by decide +kernel
theorem dX11_judge_112 : decode cX11_judge 112 = .ok (.goto (-75), 3) := by decide +kernel
theorem dX11_judge_115 : decode cX11_judge 115 = .ok (.bipush (-5), 2) := by decide +kernel
theorem dX11_judge_117 : decode cX11_judge 117 = .ok (.ireturn, 1) := by decide +kernel
theorem dX11_tape_0 : decode cX11_tape 0 = .ok (.iload_n 1, 1) := by decide +kernel
theorem dX11_tape_1 : decode cX11_tape 1 = .ok (.invokestatic 249, 3) := by decide +kernel
theorem dX11_tape_4 : decode cX11_tape 4 = .ok (.ifCond .ne 5, 3) := by decide +kernel
theorem dX11_tape_7 : decode cX11_tape 7 = .ok (.iconst (-1), 1) := by decide +kernel
theorem dX11_tape_8 : decode cX11_tape 8 = .ok (.ireturn, 1) := by decide +kernel
theorem dX11_tape_9 : decode cX11_tape 9 = .ok (.iload_n 2, 1) := by decide +kernel
theorem dX11_tape_10 : decode cX11_tape 10 = .ok (.i2l, 1) := by decide +kernel
theorem dX11_tape_11 : decode cX11_tape 11 = .ok (.ldc2_w 252, 3) := by decide +kernel
theorem dX11_tape_14 : decode cX11_tape 14 = .ok (.ldc2_w 97, 3) := by decide +kernel
theorem dX11_tape_17 : decode cX11_tape 17 = .ok (.invokestatic 85, 3) := by decide +kernel
theorem dX11_tape_20 : decode cX11_tape 20 = .ok (.ifCond .eq 13, 3) := by decide +kernel
theorem dX11_tape_23 : decode cX11_tape 23 = .ok (.iload_n 2, 1) := by decide +kernel
theorem dX11_tape_24 : decode cX11_tape 24 = .ok (.ifCond .lt 12, 3) := by decide +kernel
theorem dX11_tape_27 : decode cX11_tape 27 = .ok (.iload_n 3, 1) := by decide +kernel
theorem dX11_tape_28 : decode cX11_tape 28 = .ok (.bipush 60, 2) := by decide +kernel
theorem dX11_tape_30 : decode cX11_tape 30 = .ok (.if_icmp .le 6, 3) := by decide +kernel
theorem dX11_tape_33 : decode cX11_tape 33 = .ok (.bipush (-2), 2) := by decide +kernel
theorem dX11_tape_35 : decode cX11_tape 35 = .ok (.ireturn, 1) := by decide +kernel
theorem dX11_tape_36 : decode cX11_tape 36 = .ok (.iload_n 2, 1) := by decide +kernel
theorem dX11_tape_37 : decode cX11_tape 37 = .ok (.ifCond .lt 10, 3) := by decide +kernel
theorem dX11_tape_40 : decode cX11_tape 40 = .ok (.iload_n 3, 1) := by decide +kernel
theorem dX11_tape_41 : decode cX11_tape 41 = .ok (.ifCond .ge 6, 3) := by decide +kernel
theorem dX11_tape_44 : decode cX11_tape 44 = .ok (.bipush (-14), 2) := by decide +kernel
theorem dX11_tape_46 : decode cX11_tape 46 = .ok (.ireturn, 1) := by decide +kernel
theorem dX11_tape_47 : decode cX11_tape 47 = .ok (.aload_n 0, 1) := by decide +kernel
theorem dX11_tape_48 : decode cX11_tape 48 = .ok (.getfield 62, 3) := by decide +kernel
theorem dX11_tape_51 : decode cX11_tape 51 = .ok (.iload_n 1, 1) := by decide +kernel
theorem dX11_tape_52 : decode cX11_tape 52 = .ok (.iload_n 2, 1) := by decide +kernel
theorem dX11_tape_53 : decode cX11_tape 53 = .ok (.iastore, 1) := by decide +kernel
theorem dX11_tape_54 : decode cX11_tape 54 = .ok (.aload_n 0, 1) := by decide +kernel
theorem dX11_tape_55 : decode cX11_tape 55 = .ok (.getfield 65, 3) := by decide +kernel
theorem dX11_tape_58 : decode cX11_tape 58 = .ok (.iload_n 1, 1) := by decide +kernel
theorem dX11_tape_59 : decode cX11_tape 59 = .ok (.iload_n 2, 1) := by decide +kernel
theorem dX11_tape_60 : decode cX11_tape 60 = .ok (.ifCond .ge 7, 3) := by decide +kernel
theorem dX11_tape_63 : decode cX11_tape 63 = .ok (.iconst 0, 1) := by decide +kernel
theorem dX11_tape_64 : decode cX11_tape 64 = .ok (.goto 4, 3) := by decide +kernel
theorem dX11_tape_67 : decode cX11_tape 67 = .ok (.iload_n 3, 1) := by decide +kernel
theorem dX11_tape_68 : decode cX11_tape 68 = .ok (.iastore, 1) := by decide +kernel
theorem dX11_tape_69 : decode cX11_tape 69 = .ok (.iconst 0, 1) := by decide +kernel
theorem dX11_tape_70 : decode cX11_tape 70 = .ok (.istore 4, 2) := by decide +kernel
theorem dX11_tape_72 : decode cX11_tape 72 = .ok (.iload 4, 2) := by decide +kernel
theorem dX11_tape_74 : decode cX11_tape 74 = .ok (.bipush 60, 2) := by decide +kernel
theorem dX11_tape_76 : decode cX11_tape 76 = .ok (.if_icmp .ge 19, 3) := by decide +kernel
theorem dX11_tape_79 : decode cX11_tape 79 = .ok (.aload_n 0, 1) := by decide +kernel
theorem dX11_tape_80 : decode cX11_tape 80 = .ok (.getfield 70, 3) := by decide +kernel
theorem dX11_tape_83 : decode cX11_tape 83 = .ok (.iload_n 1, 1) := by decide +kernel
theorem dX11_tape_84 : decode cX11_tape 84 = .ok (.aaload, 1) := by decide +kernel
theorem dX11_tape_85 : decode cX11_tape 85 = .ok (.iload 4, 2) := by decide +kernel
theorem dX11_tape_87 : decode cX11_tape 87 = .ok (.lconst 0, 1) := by decide +kernel
theorem dX11_tape_88 : decode cX11_tape 88 = .ok (.lastore, 1) := by decide +kernel
theorem dX11_tape_89 : decode cX11_tape 89 = .ok (.iinc 4 1, 3) := by decide +kernel
theorem dX11_tape_92 : decode cX11_tape 92 = .ok (.goto (-20), 3) := by decide +kernel
theorem dX11_tape_95 : decode cX11_tape 95 = .ok (.iconst 1, 1) := by decide +kernel
theorem dX11_tape_96 : decode cX11_tape 96 = .ok (.ireturn, 1) := by decide +kernel
theorem dX11_item_0 : decode cX11_item 0 = .ok (.iload_n 1, 1) := by decide +kernel
theorem dX11_item_1 : decode cX11_item 1 = .ok (.invokestatic 249, 3) := by decide +kernel
theorem dX11_item_4 : decode cX11_item 4 = .ok (.ifCond .ne 5, 3) := by decide +kernel
theorem dX11_item_7 : decode cX11_item 7 = .ok (.iconst (-1), 1) := by decide +kernel
theorem dX11_item_8 : decode cX11_item 8 = .ok (.ireturn, 1) := by decide +kernel
theorem dX11_item_9 : decode cX11_item 9 = .ok (.aload_n 0, 1) := by decide +kernel
theorem dX11_item_10 : decode cX11_item 10 = .ok (.getfield 62, 3) := by decide +kernel
theorem dX11_item_13 : decode cX11_item 13 = .ok (.iload_n 1, 1) := by decide +kernel
theorem dX11_item_14 : decode cX11_item 14 = .ok (.iaload, 1) := by decide +kernel
theorem dX11_item_15 : decode cX11_item 15 = .ok (.ifCond .ge 6, 3) := by decide +kernel
theorem dX11_item_18 : decode cX11_item 18 = .ok (.bipush (-11), 2) := by decide +kernel
theorem dX11_item_20 : decode cX11_item 20 = .ok (.ireturn, 1) := by decide +kernel
theorem dX11_item_21 : decode cX11_item 21 = .ok (.iload_n 2, 1) := by decide +kernel
theorem dX11_item_22 : decode cX11_item 22 = .ok (.i2l, 1) := by decide +kernel
theorem dX11_item_23 : decode cX11_item 23 = .ok (.lconst 0, 1) := by decide +kernel
theorem dX11_item_24 : decode cX11_item 24 = .ok (.aload_n 0, 1) := by decide +kernel
theorem dX11_item_25 : decode cX11_item 25 = .ok (.getfield 65, 3) := by decide +kernel
theorem dX11_item_28 : decode cX11_item 28 = .ok (.iload_n 1, 1) := by decide +kernel
theorem dX11_item_29 : decode cX11_item 29 = .ok (.iaload, 1) := by decide +kernel
theorem dX11_item_30 : decode cX11_item 30 = .ok (.iconst 1, 1) := by decide +kernel
theorem dX11_item_31 : decode cX11_item 31 = .ok (.isub, 1) := by decide +kernel
theorem dX11_item_32 : decode cX11_item 32 = .ok (.i2l, 1) := by decide +kernel
theorem dX11_item_33 : decode cX11_item 33 = .ok (.invokestatic 85, 3) := by decide +kernel
theorem dX11_item_36 : decode cX11_item 36 = .ok (.ifCond .ne 6, 3) := by decide +kernel
theorem dX11_item_39 : decode cX11_item 39 = .ok (.bipush (-13), 2) := by decide +kernel
theorem dX11_item_41 : decode cX11_item 41 = .ok (.ireturn, 1) := by decide +kernel
theorem dX11_item_42 : decode cX11_item 42 = .ok (.aload_n 0, 1) := by decide +kernel
theorem dX11_item_43 : decode cX11_item 43 = .ok (.getfield 70, 3) := by decide +kernel
theorem dX11_item_46 : decode cX11_item 46 = .ok (.iload_n 1, 1) := by decide +kernel
theorem dX11_item_47 : decode cX11_item 47 = .ok (.aaload, 1) := by decide +kernel
theorem dX11_item_48 : decode cX11_item 48 = .ok (.iload_n 2, 1) := by decide +kernel
theorem dX11_item_49 : decode cX11_item 49 = .ok (.aload_n 0, 1) := by decide +kernel
theorem dX11_item_50 : decode cX11_item 50 = .ok (.getfield 62, 3) := by decide +kernel
theorem dX11_item_53 : decode cX11_item 53 = .ok (.iload_n 1, 1) := by decide +kernel
theorem dX11_item_54 : decode cX11_item 54 = .ok (.iaload, 1) := by decide +kernel
theorem dX11_item_55 : decode cX11_item 55 = .ok (.ifCond .ne 10, 3) := by decide +kernel
theorem dX11_item_58 : decode cX11_item 58 = .ok (.lload_n 3, 1) := by decide +kernel
theorem dX11_item_59 : decode cX11_item 59 = .ok (.l2i, 1) := by decide +kernel
theorem dX11_item_60 : decode cX11_item 60 = .ok (.i2b, 1) := by decide +kernel
theorem dX11_item_61 : decode cX11_item 61 = .ok (.i2l, 1) := by decide +kernel
theorem dX11_item_62 : decode cX11_item 62 = .ok (.goto 61, 3) := by decide +kernel
theorem dX11_item_65 : decode cX11_item 65 = .ok (.aload_n 0, 1) := by decide +kernel
theorem dX11_item_66 : decode cX11_item 66 = .ok (.getfield 62, 3) := by decide +kernel
theorem dX11_item_69 : decode cX11_item 69 = .ok (.iload_n 1, 1) := by decide +kernel
theorem dX11_item_70 : decode cX11_item 70 = .ok (.iaload, 1) := by decide +kernel
theorem dX11_item_71 : decode cX11_item 71 = .ok (.iconst 1, 1) := by decide +kernel
theorem dX11_item_72 : decode cX11_item 72 = .ok (.if_icmp .ne 10, 3) := by decide +kernel
theorem dX11_item_75 : decode cX11_item 75 = .ok (.lload_n 3, 1) := by decide +kernel
theorem dX11_item_76 : decode cX11_item 76 = .ok (.l2i, 1) := by decide +kernel
theorem dX11_item_77 : decode cX11_item 77 = .ok (.i2s, 1) := by decide +kernel
theorem dX11_item_78 : decode cX11_item 78 = .ok (.i2l, 1) := by decide +kernel
theorem dX11_item_79 : decode cX11_item 79 = .ok (.goto 44, 3) := by decide +kernel
theorem dX11_item_82 : decode cX11_item 82 = .ok (.aload_n 0, 1) := by decide +kernel
theorem dX11_item_83 : decode cX11_item 83 = .ok (.getfield 62, 3) := by decide +kernel
theorem dX11_item_86 : decode cX11_item 86 = .ok (.iload_n 1, 1) := by decide +kernel
theorem dX11_item_87 : decode cX11_item 87 = .ok (.iaload, 1) := by decide +kernel
theorem dX11_item_88 : decode cX11_item 88 = .ok (.iconst 2, 1) := by decide +kernel
theorem dX11_item_89 : decode cX11_item 89 = .ok (.if_icmp .ne 9, 3) := by decide +kernel
theorem dX11_item_92 : decode cX11_item 92 = .ok (.lload_n 3, 1) := by decide +kernel
theorem dX11_item_93 : decode cX11_item 93 = .ok (.l2i, 1) := by decide +kernel
theorem dX11_item_94 : decode cX11_item 94 = .ok (.i2l, 1) := by decide +kernel
theorem dX11_item_95 : decode cX11_item 95 = .ok (.goto 28, 3) := by decide +kernel
theorem dX11_item_98 : decode cX11_item 98 = .ok (.aload_n 0, 1) := by decide +kernel
theorem dX11_item_99 : decode cX11_item 99 = .ok (.getfield 62, 3) := by decide +kernel
theorem dX11_item_102 : decode cX11_item 102 = .ok (.iload_n 1, 1) := by decide +kernel
theorem dX11_item_103 : decode cX11_item 103 = .ok (.iaload, 1) := by decide +kernel
theorem dX11_item_104 : decode cX11_item 104 = .ok (.iconst 3, 1) := by decide +kernel
theorem dX11_item_105 : decode cX11_item 105 = .ok (.if_icmp .ne 7, 3) := by decide +kernel
theorem dX11_item_108 : decode cX11_item 108 = .ok (.lload_n 3, 1) := by decide +kernel
theorem dX11_item_109 : decode cX11_item 109 = .ok (.goto 14, 3) := by decide +kernel
theorem dX11_item_112 : decode cX11_item 112 = .ok (.lload_n 3, 1) := by decide +kernel
theorem dX11_item_113 : decode cX11_item 113 = .ok (.lconst 0, 1) := by decide +kernel
theorem dX11_item_114 : decode cX11_item 114 = .ok (.lcmp, 1) := by decide +kernel
theorem dX11_item_115 : decode cX11_item 115 = .ok (.ifCond .eq 7, 3) := by decide +kernel
theorem dX11_item_118 : decode cX11_item 118 = .ok (.lconst 1, 1) := by decide +kernel
theorem dX11_item_119 : decode cX11_item 119 = .ok (.goto 4, 3) := by decide +kernel
theorem dX11_item_122 : decode cX11_item 122 = .ok (.lconst 0, 1) := by decide +kernel
theorem dX11_item_123 : decode cX11_item 123 = .ok (.lastore, 1) := by decide +kernel
theorem dX11_item_124 : decode cX11_item 124 = .ok (.iconst 1, 1) := by decide +kernel
theorem dX11_item_125 : decode cX11_item 125 = .ok (.ireturn, 1) := by decide +kernel
theorem dX11_peek_0 : decode cX11_peek 0 = .ok (.iload_n 1, 1) := by decide +kernel
theorem dX11_peek_1 : decode cX11_peek 1 = .ok (.invokestatic 249, 3) := by decide +kernel
theorem dX11_peek_4 : decode cX11_peek 4 = .ok (.ifCond .eq 32, 3) := by decide +kernel
theorem dX11_peek_7 : decode cX11_peek 7 = .ok (.iload_n 2, 1) := by decide +kernel
theorem dX11_peek_8 : decode cX11_peek 8 = .ok (.i2l, 1) := by decide +kernel
theorem dX11_peek_9 : decode cX11_peek 9 = .ok (.lconst 0, 1) := by decide +kernel
theorem dX11_peek_10 : decode cX11_peek 10 = .ok (.aload_n 0, 1) := by decide +kernel
theorem dX11_peek_11 : decode cX11_peek 11 = .ok (.getfield 65, 3) := by decide +kernel
theorem dX11_peek_14 : decode cX11_peek 14 = .ok (.iload_n 1, 1) := by decide +kernel
theorem dX11_peek_15 : decode cX11_peek 15 = .ok (.iaload, 1) := by decide +kernel
theorem dX11_peek_16 : decode cX11_peek 16 = .ok (.iconst 1, 1) := by decide +kernel
theorem dX11_peek_17 : decode cX11_peek 17 = .ok (.isub, 1) := by decide +kernel
theorem dX11_peek_18 : decode cX11_peek 18 = .ok (.i2l, 1) := by decide +kernel
theorem dX11_peek_19 : decode cX11_peek 19 = .ok (.invokestatic 85, 3) := by decide +kernel
theorem dX11_peek_22 : decode cX11_peek 22 = .ok (.ifCond .eq 14, 3) := by decide +kernel
theorem dX11_peek_25 : decode cX11_peek 25 = .ok (.aload_n 0, 1) := by decide +kernel
theorem dX11_peek_26 : decode cX11_peek 26 = .ok (.getfield 70, 3) := by decide +kernel
theorem dX11_peek_29 : decode cX11_peek 29 = .ok (.iload_n 1, 1) := by decide +kernel
theorem dX11_peek_30 : decode cX11_peek 30 = .ok (.aaload, 1) := by decide +kernel
theorem dX11_peek_31 : decode cX11_peek 31 = .ok (.iload_n 2, 1) := by decide +kernel
theorem dX11_peek_32 : decode cX11_peek 32 = .ok (.laload, 1) := by decide +kernel
theorem dX11_peek_33 : decode cX11_peek 33 = .ok (.goto 6, 3) := by decide +kernel
theorem dX11_peek_36 : decode cX11_peek 36 = .ok (.ldc2_w 254, 3) := by decide +kernel
theorem dX11_peek_39 : decode cX11_peek 39 = .ok (.lreturn, 1) := by decide +kernel
theorem dX11_shift_0 : decode cX11_shift 0 = .ok (.iload_n 1, 1) := by decide +kernel
theorem dX11_shift_1 : decode cX11_shift 1 = .ok (.invokestatic 249, 3) := by decide +kernel
theorem dX11_shift_4 : decode cX11_shift 4 = .ok (.ifCond .eq 10, 3) := by decide +kernel
theorem dX11_shift_7 : decode cX11_shift 7 = .ok (.iload_n 3, 1) := by decide +kernel
theorem dX11_shift_8 : decode cX11_shift 8 = .ok (.invokestatic 249, 3) := by decide +kernel
theorem dX11_shift_11 : decode cX11_shift 11 = .ok (.ifCond .ne 5, 3) := by decide +kernel
theorem dX11_shift_14 : decode cX11_shift 14 = .ok (.iconst (-1), 1) := by decide +kernel
theorem dX11_shift_15 : decode cX11_shift 15 = .ok (.ireturn, 1) := by decide +kernel
theorem dX11_shift_16 : decode cX11_shift 16 = .ok (.aload_n 0, 1) := by decide +kernel
theorem dX11_shift_17 : decode cX11_shift 17 = .ok (.getfield 62, 3) := by decide +kernel
theorem dX11_shift_20 : decode cX11_shift 20 = .ok (.iload_n 1, 1) := by decide +kernel
theorem dX11_shift_21 : decode cX11_shift 21 = .ok (.iaload, 1) := by decide +kernel
theorem dX11_shift_22 : decode cX11_shift 22 = .ok (.ifCond .lt 12, 3) := by decide +kernel
theorem dX11_shift_25 : decode cX11_shift 25 = .ok (.aload_n 0, 1) := by decide +kernel
theorem dX11_shift_26 : decode cX11_shift 26 = .ok (.getfield 62, 3) := by decide +kernel
theorem dX11_shift_29 : decode cX11_shift 29 = .ok (.iload_n 3, 1) := by decide +kernel
theorem dX11_shift_30 : decode cX11_shift 30 = .ok (.iaload, 1) := by decide +kernel
theorem dX11_shift_31 : decode cX11_shift 31 = .ok (.ifCond .ge 6, 3) := by decide +kernel
theorem dX11_shift_34 : decode cX11_shift 34 = .ok (.bipush (-11), 2) := by decide +kernel
theorem dX11_shift_36 : decode cX11_shift 36 = .ok (.ireturn, 1) := by decide +kernel
theorem dX11_shift_37 : decode cX11_shift 37 = .ok (.aload_n 0, 1) := by decide +kernel
theorem dX11_shift_38 : decode cX11_shift 38 = .ok (.getfield 62, 3) := by decide +kernel
theorem dX11_shift_41 : decode cX11_shift 41 = .ok (.iload_n 1, 1) := by decide +kernel
theorem dX11_shift_42 : decode cX11_shift 42 = .ok (.iaload, 1) := by decide +kernel
theorem dX11_shift_43 : decode cX11_shift 43 = .ok (.aload_n 0, 1) := by decide +kernel
theorem dX11_shift_44 : decode cX11_shift 44 = .ok (.getfield 62, 3) := by decide +kernel
theorem dX11_shift_47 : decode cX11_shift 47 = .ok (.iload_n 3, 1) := by decide +kernel
theorem dX11_shift_48 : decode cX11_shift 48 = .ok (.iaload, 1) := by decide +kernel
theorem dX11_shift_49 : decode cX11_shift 49 = .ok (.if_icmp .eq 6, 3) := by decide +kernel
theorem dX11_shift_52 : decode cX11_shift 52 = .ok (.bipush (-12), 2) := by decide +kernel
theorem dX11_shift_54 : decode cX11_shift 54 = .ok (.ireturn, 1) := by decide +kernel
theorem dX11_shift_55 : decode cX11_shift 55 = .ok (.iload 5, 2) := by decide +kernel
theorem dX11_shift_57 : decode cX11_shift 57 = .ok (.ifCond .lt 39, 3) := by decide +kernel
theorem dX11_shift_60 : decode cX11_shift 60 = .ok (.iload_n 2, 1) := by decide +kernel
theorem dX11_shift_61 : decode cX11_shift 61 = .ok (.ifCond .lt 35, 3) := by decide +kernel
theorem dX11_shift_64 : decode cX11_shift 64 = .ok (.iload 4, 2) := by decide +kernel
theorem dX11_shift_66 : decode cX11_shift 66 = .ok (.ifCond .lt 30, 3) := by decide +kernel
theorem dX11_shift_69 : decode cX11_shift 69 = .ok (.iload 5, 2) := by decide +kernel
theorem dX11_shift_71 : decode cX11_shift 71 = .ok (.aload_n 0, 1) := by decide +kernel
theorem dX11_shift_72 : decode cX11_shift 72 = .ok (.getfield 65, 3) := by decide +kernel
theorem dX11_shift_75 : decode cX11_shift 75 = .ok (.iload_n 1, 1) := by decide +kernel
theorem dX11_shift_76 : decode cX11_shift 76 = .ok (.iaload, 1) := by decide +kernel
theorem dX11_shift_77 : decode cX11_shift 77 = .ok (.iload_n 2, 1) := by decide +kernel
theorem dX11_shift_78 : decode cX11_shift 78 = .ok (.isub, 1) := by decide +kernel
theorem dX11_shift_79 : decode cX11_shift 79 = .ok (.if_icmp .gt 17, 3) := by decide +kernel
theorem dX11_shift_82 : decode cX11_shift 82 = .ok (.iload 5, 2) := by decide +kernel
theorem dX11_shift_84 : decode cX11_shift 84 = .ok (.aload_n 0, 1) := by decide +kernel
theorem dX11_shift_85 : decode cX11_shift 85 = .ok (.getfield 65, 3) := by decide +kernel
theorem dX11_shift_88 : decode cX11_shift 88 = .ok (.iload_n 3, 1) := by decide +kernel
theorem dX11_shift_89 : decode cX11_shift 89 = .ok (.iaload, 1) := by decide +kernel
theorem dX11_shift_90 : decode cX11_shift 90 = .ok (.iload 4, 2) := by decide +kernel
theorem dX11_shift_92 : decode cX11_shift 92 = .ok (.isub, 1) := by decide +kernel
theorem dX11_shift_93 : decode cX11_shift 93 = .ok (.if_icmp .le 6, 3) := by decide +kernel
theorem dX11_shift_96 : decode cX11_shift 96 = .ok (.bipush (-13), 2) := by decide +kernel
theorem dX11_shift_98 : decode cX11_shift 98 = .ok (.ireturn, 1) := by decide +kernel
theorem dX11_shift_99 : decode cX11_shift 99 = .ok (.iconst 0, 1) := by decide +kernel
theorem dX11_shift_100 : decode cX11_shift 100 = .ok (.istore 6, 2) := by decide +kernel
theorem dX11_shift_102 : decode cX11_shift 102 = .ok (.iload 6, 2) := by decide +kernel
theorem dX11_shift_104 : decode cX11_shift 104 = .ok (.iload 5, 2) := by decide +kernel
theorem dX11_shift_106 : decode cX11_shift 106 = .ok (.if_icmp .ge 27, 3) := by decide +kernel
theorem dX11_shift_109 : decode cX11_shift 109 = .ok (.aload_n 0, 1) := by decide +kernel
theorem dX11_shift_110 : decode cX11_shift 110 = .ok (.getfield 73, 3) := by decide +kernel
theorem dX11_shift_113 : decode cX11_shift 113 = .ok (.iload 6, 2) := by decide +kernel
theorem dX11_shift_115 : decode cX11_shift 115 = .ok (.aload_n 0, 1) := by decide +kernel
theorem dX11_shift_116 : decode cX11_shift 116 = .ok (.getfield 70, 3) := by decide +kernel
theorem dX11_shift_119 : decode cX11_shift 119 = .ok (.iload_n 1, 1) := by decide +kernel
theorem dX11_shift_120 : decode cX11_shift 120 = .ok (.aaload, 1) := by decide +kernel
theorem dX11_shift_121 : decode cX11_shift 121 = .ok (.iload_n 2, 1) := by decide +kernel
theorem dX11_shift_122 : decode cX11_shift 122 = .ok (.iload 6, 2) := by decide +kernel
theorem dX11_shift_124 : decode cX11_shift 124 = .ok (.iadd, 1) := by decide +kernel
theorem dX11_shift_125 : decode cX11_shift 125 = .ok (.laload, 1) := by decide +kernel
theorem dX11_shift_126 : decode cX11_shift 126 = .ok (.lastore, 1) := by decide +kernel
theorem dX11_shift_127 : decode cX11_shift 127 = .ok (.iinc 6 1, 3) := by decide +kernel
theorem dX11_shift_130 : decode cX11_shift 130 = .ok (.goto (-28), 3) := by decide +kernel
theorem dX11_shift_133 : decode cX11_shift 133 = .ok (.iconst 0, 1) := by decide +kernel
theorem dX11_shift_134 : decode cX11_shift 134 = .ok (.istore 6, 2) := by decide +kernel
theorem dX11_shift_136 : decode cX11_shift 136 = .ok (.iload 6, 2) := by decide +kernel
theorem dX11_shift_138 : decode cX11_shift 138 = .ok (.iload 5, 2) := by decide +kernel
theorem dX11_shift_140 : decode cX11_shift 140 = .ok (.if_icmp .ge 28, 3) := by decide +kernel
theorem dX11_shift_143 : decode cX11_shift 143 = .ok (.aload_n 0, 1) := by decide +kernel
theorem dX11_shift_144 : decode cX11_shift 144 = .ok (.getfield 70, 3) := by decide +kernel
theorem dX11_shift_147 : decode cX11_shift 147 = .ok (.iload_n 3, 1) := by decide +kernel
theorem dX11_shift_148 : decode cX11_shift 148 = .ok (.aaload, 1) := by decide +kernel
theorem dX11_shift_149 : decode cX11_shift 149 = .ok (.iload 4, 2) := by decide +kernel
theorem dX11_shift_151 : decode cX11_shift 151 = .ok (.iload 6, 2) := by decide +kernel
theorem dX11_shift_153 : decode cX11_shift 153 = .ok (.iadd, 1) := by decide +kernel
theorem dX11_shift_154 : decode cX11_shift 154 = .ok (.aload_n 0, 1) := by decide +kernel
theorem dX11_shift_155 : decode cX11_shift 155 = .ok (.getfield 73, 3) := by decide +kernel
theorem dX11_shift_158 : decode cX11_shift 158 = .ok (.iload 6, 2) := by decide +kernel
theorem dX11_shift_160 : decode cX11_shift 160 = .ok (.laload, 1) := by decide +kernel
theorem dX11_shift_161 : decode cX11_shift 161 = .ok (.lastore, 1) := by decide +kernel
theorem dX11_shift_162 : decode cX11_shift 162 = .ok (.iinc 6 1, 3) := by decide +kernel
theorem dX11_shift_165 : decode cX11_shift 165 = .ok (.goto (-29), 3) := by decide +kernel
theorem dX11_shift_168 : decode cX11_shift 168 = .ok (.iload 5, 2) := by decide +kernel
theorem dX11_shift_170 : decode cX11_shift 170 = .ok (.ireturn, 1) := by decide +kernel
theorem dX11_copies_0 : decode cX11_copies 0 = .ok (.iconst 0, 1) := by decide +kernel
theorem dX11_copies_1 : decode cX11_copies 1 = .ok (.istore 4, 2) := by decide +kernel
theorem dX11_copies_3 : decode cX11_copies 3 = .ok (.iload 4, 2) := by decide +kernel
theorem dX11_copies_5 : decode cX11_copies 5 = .ok (.bipush 48, 2) := by decide +kernel
theorem dX11_copies_7 : decode cX11_copies 7 = .ok (.if_icmp .ge 17, 3) := by decide +kernel
theorem dX11_copies_10 : decode cX11_copies 10 = .ok (.aload_n 1, 1) := by decide +kernel
theorem dX11_copies_11 : decode cX11_copies 11 = .ok (.iload 4, 2) := by decide +kernel
theorem dX11_copies_13 : decode cX11_copies 13 = .ok (.aload_n 0, 1) := by decide +kernel
theorem dX11_copies_14 : decode cX11_copies 14 = .ok (.iload 4, 2) := by decide +kernel
theorem dX11_copies_16 : decode cX11_copies 16 = .ok (.iaload, 1) := by decide +kernel
theorem dX11_copies_17 : decode cX11_copies 17 = .ok (.iastore, 1) := by decide +kernel
theorem dX11_copies_18 : decode cX11_copies 18 = .ok (.iinc 4 1, 3) := by decide +kernel
theorem dX11_copies_21 : decode cX11_copies 21 = .ok (.goto (-18), 3) := by decide +kernel
theorem dX11_copies_24 : decode cX11_copies 24 = .ok (.iconst 0, 1) := by decide +kernel
theorem dX11_copies_25 : decode cX11_copies 25 = .ok (.istore 4, 2) := by decide +kernel
theorem dX11_copies_27 : decode cX11_copies 27 = .ok (.iload 4, 2) := by decide +kernel
theorem dX11_copies_29 : decode cX11_copies 29 = .ok (.iconst 4, 1) := by decide +kernel
theorem dX11_copies_30 : decode cX11_copies 30 = .ok (.if_icmp .gt 40, 3) := by decide +kernel
theorem dX11_copies_33 : decode cX11_copies 33 = .ok (.iconst 0, 1) := by decide +kernel
theorem dX11_copies_34 : decode cX11_copies 34 = .ok (.istore 5, 2) := by decide +kernel
theorem dX11_copies_36 : decode cX11_copies 36 = .ok (.iload 5, 2) := by decide +kernel
theorem dX11_copies_38 : decode cX11_copies 38 = .ok (.sipush 256, 3) := by decide +kernel
theorem dX11_copies_41 : decode cX11_copies 41 = .ok (.if_icmp .ge 23, 3) := by decide +kernel
theorem dX11_copies_44 : decode cX11_copies 44 = .ok (.aload_n 3, 1) := by decide +kernel
theorem dX11_copies_45 : decode cX11_copies 45 = .ok (.iload 4, 2) := by decide +kernel
theorem dX11_copies_47 : decode cX11_copies 47 = .ok (.aaload, 1) := by decide +kernel
theorem dX11_copies_48 : decode cX11_copies 48 = .ok (.iload 5, 2) := by decide +kernel
theorem dX11_copies_50 : decode cX11_copies 50 = .ok (.aload_n 2, 1) := by decide +kernel
theorem dX11_copies_51 : decode cX11_copies 51 = .ok (.iload 4, 2) := by decide +kernel
theorem dX11_copies_53 : decode cX11_copies 53 = .ok (.aaload, 1) := by decide +kernel
theorem dX11_copies_54 : decode cX11_copies 54 = .ok (.iload 5, 2) := by decide +kernel
theorem dX11_copies_56 : decode cX11_copies 56 = .ok (.baload, 1) := by decide +kernel
theorem dX11_copies_57 : decode cX11_copies 57 = .ok (.bastore, 1) := by decide +kernel
theorem dX11_copies_58 : decode cX11_copies 58 = .ok (.iinc 5 1, 3) := by decide +kernel
theorem dX11_copies_61 : decode cX11_copies 61 = .ok (.goto (-25), 3) := by decide +kernel
theorem dX11_copies_64 : decode cX11_copies 64 = .ok (.iinc 4 1, 3) := by decide +kernel
theorem dX11_copies_67 : decode cX11_copies 67 = .ok (.goto (-40), 3) := by decide +kernel
theorem dX11_copies_70 : decode cX11_copies 70 = .ok (.return_, 1) := by decide +kernel
theorem dX11_image_0 : decode cX11_image 0 = .ok (.aload_n 0, 1) := by decide +kernel
theorem dX11_image_1 : decode cX11_image 1 = .ok (.getfield 11, 3) := by decide +kernel
theorem dX11_image_4 : decode cX11_image 4 = .ok (.aload_n 0, 1) := by decide +kernel
theorem dX11_image_5 : decode cX11_image 5 = .ok (.getfield 15, 3) := by decide +kernel
theorem dX11_image_8 : decode cX11_image 8 = .ok (.aload_n 0, 1) := by decide +kernel
theorem dX11_image_9 : decode cX11_image 9 = .ok (.getfield 20, 3) := by decide +kernel
theorem dX11_image_12 : decode cX11_image 12 = .ok (.aload_n 0, 1) := by decide +kernel
theorem dX11_image_13 : decode cX11_image 13 = .ok (.getfield 23, 3) := by decide +kernel
theorem dX11_image_16 : decode cX11_image 16 = .ok (.invokestatic 256, 3) := by decide +kernel
theorem dX11_image_19 : decode cX11_image 19 = .ok (.aload_n 0, 1) := by decide +kernel
theorem dX11_image_20 : decode cX11_image 20 = .ok (.iconst 1, 1) := by decide +kernel
theorem dX11_image_21 : decode cX11_image 21 = .ok (.putfield 260, 3) := by decide +kernel
theorem dX11_image_24 : decode cX11_image 24 = .ok (.aload_n 0, 1) := by decide +kernel
theorem dX11_image_25 : decode cX11_image 25 = .ok (.getfield 20, 3) := by decide +kernel
theorem dX11_image_28 : decode cX11_image 28 = .ok (.iconst 0, 1) := by decide +kernel
theorem dX11_image_29 : decode cX11_image 29 = .ok (.aaload, 1) := by decide +kernel
theorem dX11_image_30 : decode cX11_image 30 = .ok (.invokestatic 170, 3) := by decide +kernel
theorem dX11_image_33 : decode cX11_image 33 = .ok (.ireturn, 1) := by decide +kernel
theorem dX11_undo_0 : decode cX11_undo 0 = .ok (.aload_n 0, 1) := by decide +kernel
theorem dX11_undo_1 : decode cX11_undo 1 = .ok (.getfield 260, 3) := by decide +kernel
theorem dX11_undo_4 : decode cX11_undo 4 = .ok (.ifCond .ne 6, 3) := by decide +kernel
theorem dX11_undo_7 : decode cX11_undo 7 = .ok (.bipush (-3), 2) := by decide +kernel
theorem dX11_undo_9 : decode cX11_undo 9 = .ok (.ireturn, 1) := by decide +kernel
theorem dX11_undo_10 : decode cX11_undo 10 = .ok (.aload_n 0, 1) := by decide +kernel
theorem dX11_undo_11 : decode cX11_undo 11 = .ok (.getfield 15, 3) := by decide +kernel
theorem dX11_undo_14 : decode cX11_undo 14 = .ok (.aload_n 0, 1) := by decide +kernel
theorem dX11_undo_15 : decode cX11_undo 15 = .ok (.getfield 11, 3) := by decide +kernel
theorem dX11_undo_18 : decode cX11_undo 18 = .ok (.aload_n 0, 1) := by decide +kernel
theorem dX11_undo_19 : decode cX11_undo 19 = .ok (.getfield 23, 3) := by decide +kernel
theorem dX11_undo_22 : decode cX11_undo 22 = .ok (.aload_n 0, 1) := by decide +kernel
theorem dX11_undo_23 : decode cX11_undo 23 = .ok (.getfield 20, 3) := by decide +kernel
theorem dX11_undo_26 : decode cX11_undo 26 = .ok (.invokestatic 256, 3) := by decide +kernel
theorem dX11_undo_29 : decode cX11_undo 29 = .ok (.aload_n 0, 1) := by decide +kernel
theorem dX11_undo_30 : decode cX11_undo 30 = .ok (.getfield 20, 3) := by decide +kernel
theorem dX11_undo_33 : decode cX11_undo 33 = .ok (.iconst 0, 1) := by decide +kernel
theorem dX11_undo_34 : decode cX11_undo 34 = .ok (.aaload, 1) := by decide +kernel
theorem dX11_undo_35 : decode cX11_undo 35 = .ok (.invokestatic 170, 3) := by decide +kernel
theorem dX11_undo_38 : decode cX11_undo 38 = .ok (.ireturn, 1) := by decide +kernel
theorem dX11_count_0 : decode cX11_count 0 = .ok (.iload_n 1, 1) := by decide +kernel
theorem dX11_count_1 : decode cX11_count 1 = .ok (.tableswitch 72 0 4 #[35, 42, 49, 59, 67], 35) := by decide +kernel
theorem dX11_count_36 : decode cX11_count 36 = .ok (.aload_n 0, 1) := by decide +kernel
theorem dX11_count_37 : decode cX11_count 37 = .ok (.getfield 11, 3) := by decide +kernel
theorem dX11_count_40 : decode cX11_count 40 = .ok (.iconst 0, 1) := by decide +kernel
theorem dX11_count_41 : decode cX11_count 41 = .ok (.iaload, 1) := by decide +kernel
theorem dX11_count_42 : decode cX11_count 42 = .ok (.ireturn, 1) := by decide +kernel
theorem dX11_count_43 : decode cX11_count 43 = .ok (.aload_n 0, 1) := by decide +kernel
theorem dX11_count_44 : decode cX11_count 44 = .ok (.getfield 11, 3) := by decide +kernel
theorem dX11_count_47 : decode cX11_count 47 = .ok (.iconst 1, 1) := by decide +kernel
theorem dX11_count_48 : decode cX11_count 48 = .ok (.iaload, 1) := by decide +kernel
theorem dX11_count_49 : decode cX11_count 49 = .ok (.ireturn, 1) := by decide +kernel
theorem dX11_count_50 : decode cX11_count 50 = .ok (.aload_n 0, 1) := by decide +kernel
theorem dX11_count_51 : decode cX11_count 51 = .ok (.getfield 20, 3) := by decide +kernel
theorem dX11_count_54 : decode cX11_count 54 = .ok (.iconst 0, 1) := by decide +kernel
theorem dX11_count_55 : decode cX11_count 55 = .ok (.aaload, 1) := by decide +kernel
theorem dX11_count_56 : decode cX11_count 56 = .ok (.invokestatic 170, 3) := by decide +kernel
theorem dX11_count_59 : decode cX11_count 59 = .ok (.ireturn, 1) := by decide +kernel
theorem dX11_count_60 : decode cX11_count 60 = .ok (.aload_n 0, 1) := by decide +kernel
theorem dX11_count_61 : decode cX11_count 61 = .ok (.getfield 11, 3) := by decide +kernel
theorem dX11_count_64 : decode cX11_count 64 = .ok (.bipush 43, 2) := by decide +kernel
theorem dX11_count_66 : decode cX11_count 66 = .ok (.iaload, 1) := by decide +kernel
theorem dX11_count_67 : decode cX11_count 67 = .ok (.ireturn, 1) := by decide +kernel
theorem dX11_count_68 : decode cX11_count 68 = .ok (.aload_n 0, 1) := by decide +kernel
theorem dX11_count_69 : decode cX11_count 69 = .ok (.getfield 202, 3) := by decide +kernel
theorem dX11_count_72 : decode cX11_count 72 = .ok (.ireturn, 1) := by decide +kernel
theorem dX11_count_73 : decode cX11_count 73 = .ok (.bipush (-2), 2) := by decide +kernel
theorem dX11_count_75 : decode cX11_count 75 = .ok (.ireturn, 1) := by decide +kernel
theorem dJ6_bitCount_0f7a4_0 : decode cJ6_bitCount_0f7a4 0 = .ok (.iload_n 0, 1) := by decide +kernel
theorem dJ6_bitCount_0f7a4_1 : decode cJ6_bitCount_0f7a4 1 = .ok (.iload_n 0, 1) := by decide +kernel
theorem dJ6_bitCount_0f7a4_2 : decode cJ6_bitCount_0f7a4 2 = .ok (.iconst 1, 1) := by decide +kernel
theorem dJ6_bitCount_0f7a4_3 : decode cJ6_bitCount_0f7a4 3 = .ok (.iushr, 1) := by decide +kernel
theorem dJ6_bitCount_0f7a4_4 : decode cJ6_bitCount_0f7a4 4 = .ok (.ldc_w 265, 3) := by decide +kernel
theorem dJ6_bitCount_0f7a4_7 : decode cJ6_bitCount_0f7a4 7 = .ok (.iand, 1) := by decide +kernel
theorem dJ6_bitCount_0f7a4_8 : decode cJ6_bitCount_0f7a4 8 = .ok (.isub, 1) := by decide +kernel
theorem dJ6_bitCount_0f7a4_9 : decode cJ6_bitCount_0f7a4 9 = .ok (.istore_n 0, 1) := by decide +kernel
theorem dJ6_bitCount_0f7a4_10 : decode cJ6_bitCount_0f7a4 10 = .ok (.iload_n 0, 1) := by decide +kernel
theorem dJ6_bitCount_0f7a4_11 : decode cJ6_bitCount_0f7a4 11 = .ok (.ldc_w 266, 3) := by decide +kernel
theorem dJ6_bitCount_0f7a4_14 : decode cJ6_bitCount_0f7a4 14 = .ok (.iand, 1) := by decide +kernel
theorem dJ6_bitCount_0f7a4_15 : decode cJ6_bitCount_0f7a4 15 = .ok (.iload_n 0, 1) := by decide +kernel
theorem dJ6_bitCount_0f7a4_16 : decode cJ6_bitCount_0f7a4 16 = .ok (.iconst 2, 1) := by decide +kernel
theorem dJ6_bitCount_0f7a4_17 : decode cJ6_bitCount_0f7a4 17 = .ok (.iushr, 1) := by decide +kernel
theorem dJ6_bitCount_0f7a4_18 : decode cJ6_bitCount_0f7a4 18 = .ok (.ldc_w 266, 3) := by decide +kernel
theorem dJ6_bitCount_0f7a4_21 : decode cJ6_bitCount_0f7a4 21 = .ok (.iand, 1) := by decide +kernel
theorem dJ6_bitCount_0f7a4_22 : decode cJ6_bitCount_0f7a4 22 = .ok (.iadd, 1) := by decide +kernel
theorem dJ6_bitCount_0f7a4_23 : decode cJ6_bitCount_0f7a4 23 = .ok (.istore_n 0, 1) := by decide +kernel
theorem dJ6_bitCount_0f7a4_24 : decode cJ6_bitCount_0f7a4 24 = .ok (.iload_n 0, 1) := by decide +kernel
theorem dJ6_bitCount_0f7a4_25 : decode cJ6_bitCount_0f7a4 25 = .ok (.iload_n 0, 1) := by decide +kernel
theorem dJ6_bitCount_0f7a4_26 : decode cJ6_bitCount_0f7a4 26 = .ok (.iconst 4, 1) := by decide +kernel
theorem dJ6_bitCount_0f7a4_27 : decode cJ6_bitCount_0f7a4 27 = .ok (.iushr, 1) := by decide +kernel
theorem dJ6_bitCount_0f7a4_28 : decode cJ6_bitCount_0f7a4 28 = .ok (.iadd, 1) := by decide +kernel
theorem dJ6_bitCount_0f7a4_29 : decode cJ6_bitCount_0f7a4 29 = .ok (.ldc_w 267, 3) := by decide +kernel
theorem dJ6_bitCount_0f7a4_32 : decode cJ6_bitCount_0f7a4 32 = .ok (.iand, 1) := by decide +kernel
theorem dJ6_bitCount_0f7a4_33 : decode cJ6_bitCount_0f7a4 33 = .ok (.istore_n 0, 1) := by decide +kernel
theorem dJ6_bitCount_0f7a4_34 : decode cJ6_bitCount_0f7a4 34 = .ok (.iload_n 0, 1) := by decide +kernel
theorem dJ6_bitCount_0f7a4_35 : decode cJ6_bitCount_0f7a4 35 = .ok (.iload_n 0, 1) := by decide +kernel
theorem dJ6_bitCount_0f7a4_36 : decode cJ6_bitCount_0f7a4 36 = .ok (.bipush 8, 2) := by decide +kernel
theorem dJ6_bitCount_0f7a4_38 : decode cJ6_bitCount_0f7a4 38 = .ok (.iushr, 1) := by decide +kernel
theorem dJ6_bitCount_0f7a4_39 : decode cJ6_bitCount_0f7a4 39 = .ok (.iadd, 1) := by decide +kernel
theorem dJ6_bitCount_0f7a4_40 : decode cJ6_bitCount_0f7a4 40 = .ok (.istore_n 0, 1) := by decide +kernel
theorem dJ6_bitCount_0f7a4_41 : decode cJ6_bitCount_0f7a4 41 = .ok (.iload_n 0, 1) := by decide +kernel
theorem dJ6_bitCount_0f7a4_42 : decode cJ6_bitCount_0f7a4 42 = .ok (.iload_n 0, 1) := by decide +kernel
theorem dJ6_bitCount_0f7a4_43 : decode cJ6_bitCount_0f7a4 43 = .ok (.bipush 16, 2) := by decide +kernel
theorem dJ6_bitCount_0f7a4_45 : decode cJ6_bitCount_0f7a4 45 = .ok (.iushr, 1) := by decide +kernel
theorem dJ6_bitCount_0f7a4_46 : decode cJ6_bitCount_0f7a4 46 = .ok (.iadd, 1) := by decide +kernel
theorem dJ6_bitCount_0f7a4_47 : decode cJ6_bitCount_0f7a4 47 = .ok (.istore_n 0, 1) := by decide +kernel
theorem dJ6_bitCount_0f7a4_48 : decode cJ6_bitCount_0f7a4 48 = .ok (.iload_n 0, 1) := by decide +kernel
theorem dJ6_bitCount_0f7a4_49 : decode cJ6_bitCount_0f7a4 49 = .ok (.bipush 63, 2) := by decide +kernel
theorem dJ6_bitCount_0f7a4_51 : decode cJ6_bitCount_0f7a4 51 = .ok (.iand, 1) := by decide +kernel
theorem dJ6_bitCount_0f7a4_52 : decode cJ6_bitCount_0f7a4 52 = .ok (.ireturn, 1) := by decide +kernel
theorem dJ9_max_7cf53_0 : decode cJ9_max_7cf53 0 = .ok (.iload_n 0, 1) := by decide +kernel
theorem dJ9_max_7cf53_1 : decode cJ9_max_7cf53 1 = .ok (.iload_n 1, 1) := by decide +kernel
theorem dJ9_max_7cf53_2 : decode cJ9_max_7cf53 2 = .ok (.if_icmp .lt 7, 3) := by decide +kernel
theorem dJ9_max_7cf53_5 : decode cJ9_max_7cf53 5 = .ok (.iload_n 0, 1) := by decide +kernel
theorem dJ9_max_7cf53_6 : decode cJ9_max_7cf53 6 = .ok (.goto 4, 3) := by decide +kernel
theorem dJ9_max_7cf53_9 : decode cJ9_max_7cf53 9 = .ok (.iload_n 1, 1) := by decide +kernel
theorem dJ9_max_7cf53_10 : decode cJ9_max_7cf53 10 = .ok (.ireturn, 1) := by decide +kernel
theorem dJ9_min_7cf53_0 : decode cJ9_min_7cf53 0 = .ok (.iload_n 0, 1) := by decide +kernel
theorem dJ9_min_7cf53_1 : decode cJ9_min_7cf53 1 = .ok (.iload_n 1, 1) := by decide +kernel
theorem dJ9_min_7cf53_2 : decode cJ9_min_7cf53 2 = .ok (.if_icmp .gt 7, 3) := by decide +kernel
theorem dJ9_min_7cf53_5 : decode cJ9_min_7cf53 5 = .ok (.iload_n 0, 1) := by decide +kernel
theorem dJ9_min_7cf53_6 : decode cJ9_min_7cf53 6 = .ok (.goto 4, 3) := by decide +kernel
theorem dJ9_min_7cf53_9 : decode cJ9_min_7cf53 9 = .ok (.iload_n 1, 1) := by decide +kernel
theorem dJ9_min_7cf53_10 : decode cJ9_min_7cf53 10 = .ok (.ireturn, 1) := by decide +kernel
theorem dJ7_fill_d0a16_0 : decode cJ7_fill_d0a16 0 = .ok (.iconst 0, 1) := by decide +kernel
theorem dJ7_fill_d0a16_1 : decode cJ7_fill_d0a16 1 = .ok (.istore_n 3, 1) := by decide +kernel
theorem dJ7_fill_d0a16_2 : decode cJ7_fill_d0a16 2 = .ok (.aload_n 0, 1) := by decide +kernel
theorem dJ7_fill_d0a16_3 : decode cJ7_fill_d0a16 3 = .ok (.arraylength, 1) := by decide +kernel
theorem dJ7_fill_d0a16_4 : decode cJ7_fill_d0a16 4 = .ok (.istore 4, 2) := by decide +kernel
theorem dJ7_fill_d0a16_6 : decode cJ7_fill_d0a16 6 = .ok (.iload_n 3, 1) := by decide +kernel
theorem dJ7_fill_d0a16_7 : decode cJ7_fill_d0a16 7 = .ok (.iload 4, 2) := by decide +kernel
theorem dJ7_fill_d0a16_9 : decode cJ7_fill_d0a16 9 = .ok (.if_icmp .ge 13, 3) := by decide +kernel
theorem dJ7_fill_d0a16_12 : decode cJ7_fill_d0a16 12 = .ok (.aload_n 0, 1) := by decide +kernel
theorem dJ7_fill_d0a16_13 : decode cJ7_fill_d0a16 13 = .ok (.iload_n 3, 1) := by decide +kernel
theorem dJ7_fill_d0a16_14 : decode cJ7_fill_d0a16 14 = .ok (.lload_n 1, 1) := by decide +kernel
theorem dJ7_fill_d0a16_15 : decode cJ7_fill_d0a16 15 = .ok (.lastore, 1) := by decide +kernel
theorem dJ7_fill_d0a16_16 : decode cJ7_fill_d0a16 16 = .ok (.iinc 3 1, 3) := by decide +kernel
theorem dJ7_fill_d0a16_19 : decode cJ7_fill_d0a16 19 = .ok (.goto (-13), 3) := by decide +kernel
theorem dJ7_fill_d0a16_22 : decode cJ7_fill_d0a16 22 = .ok (.return_, 1) := by decide +kernel
theorem dJ7_fill_53178_0 : decode cJ7_fill_53178 0 = .ok (.iconst 0, 1) := by decide +kernel
theorem dJ7_fill_53178_1 : decode cJ7_fill_53178 1 = .ok (.istore_n 2, 1) := by decide +kernel
theorem dJ7_fill_53178_2 : decode cJ7_fill_53178 2 = .ok (.aload_n 0, 1) := by decide +kernel
theorem dJ7_fill_53178_3 : decode cJ7_fill_53178 3 = .ok (.arraylength, 1) := by decide +kernel
theorem dJ7_fill_53178_4 : decode cJ7_fill_53178 4 = .ok (.istore_n 3, 1) := by decide +kernel
theorem dJ7_fill_53178_5 : decode cJ7_fill_53178 5 = .ok (.iload_n 2, 1) := by decide +kernel
theorem dJ7_fill_53178_6 : decode cJ7_fill_53178 6 = .ok (.iload_n 3, 1) := by decide +kernel
theorem dJ7_fill_53178_7 : decode cJ7_fill_53178 7 = .ok (.if_icmp .ge 13, 3) := by decide +kernel
theorem dJ7_fill_53178_10 : decode cJ7_fill_53178 10 = .ok (.aload_n 0, 1) := by decide +kernel
theorem dJ7_fill_53178_11 : decode cJ7_fill_53178 11 = .ok (.iload_n 2, 1) := by decide +kernel
theorem dJ7_fill_53178_12 : decode cJ7_fill_53178 12 = .ok (.iload_n 1, 1) := by decide +kernel
theorem dJ7_fill_53178_13 : decode cJ7_fill_53178 13 = .ok (.iastore, 1) := by decide +kernel
theorem dJ7_fill_53178_14 : decode cJ7_fill_53178 14 = .ok (.iinc 2 1, 3) := by decide +kernel
theorem dJ7_fill_53178_17 : decode cJ7_fill_53178 17 = .ok (.goto (-12), 3) := by decide +kernel
theorem dJ7_fill_53178_20 : decode cJ7_fill_53178 20 = .ok (.return_, 1) := by decide +kernel
