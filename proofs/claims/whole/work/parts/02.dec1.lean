theorem dX0_init_0 : decode cX0_init 0 = .ok (.aload_n 0, 1) := by decide +kernel
theorem dX0_init_1 : decode cX0_init 1 = .ok (.invokespecial 3, 3) := by decide +kernel
theorem dX0_init_4 : decode cX0_init 4 = .ok (.aload_n 0, 1) := by decide +kernel
theorem dX0_init_5 : decode cX0_init 5 = .ok (.iconst 2, 1) := by decide +kernel
theorem dX0_init_6 : decode cX0_init 6 = .ok (.putfield 9, 3) := by decide +kernel
theorem dX0_init_9 : decode cX0_init 9 = .ok (.aload_n 0, 1) := by decide +kernel
theorem dX0_init_10 : decode cX0_init 10 = .ok (.iconst 0, 1) := by decide +kernel
theorem dX0_init_11 : decode cX0_init 11 = .ok (.putfield 15, 3) := by decide +kernel
theorem dX0_init_14 : decode cX0_init 14 = .ok (.aload_n 0, 1) := by decide +kernel
theorem dX0_init_15 : decode cX0_init 15 = .ok (.sipush 256, 3) := by decide +kernel
theorem dX0_init_18 : decode cX0_init 18 = .ok (.newarray .boolean, 2) := by decide +kernel
theorem dX0_init_20 : decode cX0_init 20 = .ok (.putfield 18, 3) := by decide +kernel
theorem dX0_init_23 : decode cX0_init 23 = .ok (.return_, 1) := by decide +kernel
theorem dX0_becomeEmpty_0 : decode cX0_becomeEmpty 0 = .ok (.aload_n 0, 1) := by decide +kernel
theorem dX0_becomeEmpty_1 : decode cX0_becomeEmpty 1 = .ok (.iload_n 1, 1) := by decide +kernel
theorem dX0_becomeEmpty_2 : decode cX0_becomeEmpty 2 = .ok (.putfield 9, 3) := by decide +kernel
theorem dX0_becomeEmpty_5 : decode cX0_becomeEmpty 5 = .ok (.aload_n 0, 1) := by decide +kernel
theorem dX0_becomeEmpty_6 : decode cX0_becomeEmpty 6 = .ok (.iconst 0, 1) := by decide +kernel
theorem dX0_becomeEmpty_7 : decode cX0_becomeEmpty 7 = .ok (.putfield 15, 3) := by decide +kernel
theorem dX0_becomeEmpty_10 : decode cX0_becomeEmpty 10 = .ok (.iconst 0, 1) := by decide +kernel
theorem dX0_becomeEmpty_11 : decode cX0_becomeEmpty 11 = .ok (.istore_n 2, 1) := by decide +kernel
theorem dX0_becomeEmpty_12 : decode cX0_becomeEmpty 12 = .ok (.iload_n 2, 1) := by decide +kernel
theorem dX0_becomeEmpty_13 : decode cX0_becomeEmpty 13 = .ok (.aload_n 0, 1) := by decide +kernel
theorem dX0_becomeEmpty_14 : decode cX0_becomeEmpty 14 = .ok (.getfield 18, 3) := by decide +kernel
theorem dX0_becomeEmpty_17 : decode cX0_becomeEmpty 17 = .ok (.arraylength, 1) := by decide +kernel
theorem dX0_becomeEmpty_18 : decode cX0_becomeEmpty 18 = .ok (.if_icmp .ge 16, 3) := by decide +kernel
theorem dX0_becomeEmpty_21 : decode cX0_becomeEmpty 21 = .ok (.aload_n 0, 1) := by decide +kernel
theorem dX0_becomeEmpty_22 : decode cX0_becomeEmpty 22 = .ok (.getfield 18, 3) := by decide +kernel
theorem dX0_becomeEmpty_25 : decode cX0_becomeEmpty 25 = .ok (.iload_n 2, 1) := by decide +kernel
theorem dX0_becomeEmpty_26 : decode cX0_becomeEmpty 26 = .ok (.iconst 0, 1) := by decide +kernel
theorem dX0_becomeEmpty_27 : decode cX0_becomeEmpty 27 = .ok (.bastore, 1) := by decide +kernel
theorem dX0_becomeEmpty_28 : decode cX0_becomeEmpty 28 = .ok (.iinc 2 1, 3) := by decide +kernel
theorem dX0_becomeEmpty_31 : decode cX0_becomeEmpty 31 = .ok (.goto (-19), 3) := by decide +kernel
theorem dX0_becomeEmpty_34 : decode cX0_becomeEmpty 34 = .ok (.return_, 1) := by decide +kernel
theorem dX0_copyFrom_0 : decode cX0_copyFrom 0 = .ok (.aload_n 0, 1) := by decide +kernel
theorem dX0_copyFrom_1 : decode cX0_copyFrom 1 = .ok (.aload_n 1, 1) := by decide +kernel
theorem dX0_copyFrom_2 : decode cX0_copyFrom 2 = .ok (.getfield 9, 3) := by decide +kernel
theorem dX0_copyFrom_5 : decode cX0_copyFrom 5 = .ok (.putfield 9, 3) := by decide +kernel
theorem dX0_copyFrom_8 : decode cX0_copyFrom 8 = .ok (.aload_n 0, 1) := by decide +kernel
theorem dX0_copyFrom_9 : decode cX0_copyFrom 9 = .ok (.aload_n 1, 1) := by decide +kernel
theorem dX0_copyFrom_10 : decode cX0_copyFrom 10 = .ok (.getfield 15, 3) := by decide +kernel
theorem dX0_copyFrom_13 : decode cX0_copyFrom 13 = .ok (.putfield 15, 3) := by decide +kernel
theorem dX0_copyFrom_16 : decode cX0_copyFrom 16 = .ok (.iconst 0, 1) := by decide +kernel
theorem dX0_copyFrom_17 : decode cX0_copyFrom 17 = .ok (.istore_n 2, 1) := by decide +kernel
theorem dX0_copyFrom_18 : decode cX0_copyFrom 18 = .ok (.iload_n 2, 1) := by decide +kernel
theorem dX0_copyFrom_19 : decode cX0_copyFrom 19 = .ok (.aload_n 0, 1) := by decide +kernel
theorem dX0_copyFrom_20 : decode cX0_copyFrom 20 = .ok (.getfield 18, 3) := by decide +kernel
theorem dX0_copyFrom_23 : decode cX0_copyFrom 23 = .ok (.arraylength, 1) := by decide +kernel
theorem dX0_copyFrom_24 : decode cX0_copyFrom 24 = .ok (.if_icmp .ge 20, 3) := by decide +kernel
theorem dX0_copyFrom_27 : decode cX0_copyFrom 27 = .ok (.aload_n 0, 1) := by decide +kernel
theorem dX0_copyFrom_28 : decode cX0_copyFrom 28 = .ok (.getfield 18, 3) := by decide +kernel
theorem dX0_copyFrom_31 : decode cX0_copyFrom 31 = .ok (.iload_n 2, 1) := by decide +kernel
theorem dX0_copyFrom_32 : decode cX0_copyFrom 32 = .ok (.aload_n 1, 1) := by decide +kernel
theorem dX0_copyFrom_33 : decode cX0_copyFrom 33 = .ok (.iload_n 2, 1) := by decide +kernel
theorem dX0_copyFrom_34 : decode cX0_copyFrom 34 = .ok (.invokevirtual 22, 3) := by decide +kernel
theorem dX0_copyFrom_37 : decode cX0_copyFrom 37 = .ok (.bastore, 1) := by decide +kernel
theorem dX0_copyFrom_38 : decode cX0_copyFrom 38 = .ok (.iinc 2 1, 3) := by decide +kernel
theorem dX0_copyFrom_41 : decode cX0_copyFrom 41 = .ok (.goto (-23), 3) := by decide +kernel
theorem dX0_copyFrom_44 : decode cX0_copyFrom 44 = .ok (.return_, 1) := by decide +kernel
theorem dX0_becomeChoice_0 : decode cX0_becomeChoice 0 = .ok (.aload_n 0, 1) := by decide +kernel
theorem dX0_becomeChoice_1 : decode cX0_becomeChoice 1 = .ok (.iload_n 2, 1) := by decide +kernel
theorem dX0_becomeChoice_2 : decode cX0_becomeChoice 2 = .ok (.invokevirtual 26, 3) := by decide +kernel
theorem dX0_becomeChoice_5 : decode cX0_becomeChoice 5 = .ok (.iconst 0, 1) := by decide +kernel
theorem dX0_becomeChoice_6 : decode cX0_becomeChoice 6 = .ok (.istore 4, 2) := by decide +kernel
theorem dX0_becomeChoice_8 : decode cX0_becomeChoice 8 = .ok (.iload 4, 2) := by decide +kernel
theorem dX0_becomeChoice_10 : decode cX0_becomeChoice 10 = .ok (.aload_n 0, 1) := by decide +kernel
theorem dX0_becomeChoice_11 : decode cX0_becomeChoice 11 = .ok (.getfield 18, 3) := by decide +kernel
theorem dX0_becomeChoice_14 : decode cX0_becomeChoice 14 = .ok (.arraylength, 1) := by decide +kernel
theorem dX0_becomeChoice_15 : decode cX0_becomeChoice 15 = .ok (.if_icmp .ge 67, 3) := by decide +kernel
theorem dX0_becomeChoice_18 : decode cX0_becomeChoice 18 = .ok (.aload_n 1, 1) := by decide +kernel
theorem dX0_becomeChoice_19 : decode cX0_becomeChoice 19 = .ok (.iload 4, 2) := by decide +kernel
theorem dX0_becomeChoice_21 : decode cX0_becomeChoice 21 = .ok (.invokevirtual 30, 3) := by decide +kernel
theorem dX0_becomeChoice_24 : decode cX0_becomeChoice 24 = .ok (.istore 5, 2) := by decide +kernel
theorem dX0_becomeChoice_26 : decode cX0_becomeChoice 26 = .ok (.iload 5, 2) := by decide +kernel
theorem dX0_becomeChoice_28 : decode cX0_becomeChoice 28 = .ok (.ifCond .lt 24, 3) := by decide +kernel
theorem dX0_becomeChoice_31 : decode cX0_becomeChoice 31 = .ok (.iload 5, 2) := by decide +kernel
theorem dX0_becomeChoice_33 : decode cX0_becomeChoice 33 = .ok (.bipush 31, 2) := by decide +kernel
theorem dX0_becomeChoice_35 : decode cX0_becomeChoice 35 = .ok (.if_icmp .ge 17, 3) := by decide +kernel
theorem dX0_becomeChoice_38 : decode cX0_becomeChoice 38 = .ok (.iload_n 3, 1) := by decide +kernel
theorem dX0_becomeChoice_39 : decode cX0_becomeChoice 39 = .ok (.iload 5, 2) := by decide +kernel
theorem dX0_becomeChoice_41 : decode cX0_becomeChoice 41 = .ok (.ishr, 1) := by decide +kernel
theorem dX0_becomeChoice_42 : decode cX0_becomeChoice 42 = .ok (.iconst 1, 1) := by decide +kernel
theorem dX0_becomeChoice_43 : decode cX0_becomeChoice 43 = .ok (.iand, 1) := by decide +kernel
theorem dX0_becomeChoice_44 : decode cX0_becomeChoice 44 = .ok (.iconst 1, 1) := by decide +kernel
theorem dX0_becomeChoice_45 : decode cX0_becomeChoice 45 = .ok (.if_icmp .ne 7, 3) := by decide +kernel
theorem dX0_becomeChoice_48 : decode cX0_becomeChoice 48 = .ok (.iconst 1, 1) := by decide +kernel
theorem dX0_becomeChoice_49 : decode cX0_becomeChoice 49 = .ok (.goto 4, 3) := by decide +kernel
theorem dX0_becomeChoice_52 : decode cX0_becomeChoice 52 = .ok (.iconst 0, 1) := by decide +kernel
theorem dX0_becomeChoice_53 : decode cX0_becomeChoice 53 = .ok (.istore 6, 2) := by decide +kernel
theorem dX0_becomeChoice_55 : decode cX0_becomeChoice 55 = .ok (.iload 6, 2) := by decide +kernel
theorem dX0_becomeChoice_57 : decode cX0_becomeChoice 57 = .ok (.ifCond .eq 19, 3) := by decide +kernel
theorem dX0_becomeChoice_60 : decode cX0_becomeChoice 60 = .ok (.iload 4, 2) := by decide +kernel
theorem dX0_becomeChoice_62 : decode cX0_becomeChoice 62 = .ok (.invokestatic 36, 3) := by decide +kernel
theorem dX0_becomeChoice_65 : decode cX0_becomeChoice 65 = .ok (.iload_n 2, 1) := by decide +kernel
theorem dX0_becomeChoice_66 : decode cX0_becomeChoice 66 = .ok (.if_icmp .ne 10, 3) := by decide +kernel
theorem dX0_becomeChoice_69 : decode cX0_becomeChoice 69 = .ok (.aload_n 0, 1) := by decide +kernel
theorem dX0_becomeChoice_70 : decode cX0_becomeChoice 70 = .ok (.iload 4, 2) := by decide +kernel
theorem dX0_becomeChoice_72 : decode cX0_becomeChoice 72 = .ok (.iconst 1, 1) := by decide +kernel
theorem dX0_becomeChoice_73 : decode cX0_becomeChoice 73 = .ok (.invokevirtual 41, 3) := by decide +kernel
theorem dX0_becomeChoice_76 : decode cX0_becomeChoice 76 = .ok (.iinc 4 1, 3) := by decide +kernel
theorem dX0_becomeChoice_79 : decode cX0_becomeChoice 79 = .ok (.goto (-71), 3) := by decide +kernel
theorem dX0_becomeChoice_82 : decode cX0_becomeChoice 82 = .ok (.return_, 1) := by decide +kernel
theorem dX0_becomePart_0 : decode cX0_becomePart 0 = .ok (.aload_n 0, 1) := by decide +kernel
theorem dX0_becomePart_1 : decode cX0_becomePart 1 = .ok (.iload_n 3, 1) := by decide +kernel
theorem dX0_becomePart_2 : decode cX0_becomePart 2 = .ok (.ifCond .eq 12, 3) := by decide +kernel
theorem dX0_becomePart_5 : decode cX0_becomePart 5 = .ok (.aload_n 1, 1) := by decide +kernel
theorem dX0_becomePart_6 : decode cX0_becomePart 6 = .ok (.getfield 9, 3) := by decide +kernel
theorem dX0_becomePart_9 : decode cX0_becomePart 9 = .ok (.iconst 1, 1) := by decide +kernel
theorem dX0_becomePart_10 : decode cX0_becomePart 10 = .ok (.isub, 1) := by decide +kernel
theorem dX0_becomePart_11 : decode cX0_becomePart 11 = .ok (.goto 7, 3) := by decide +kernel
theorem dX0_becomePart_14 : decode cX0_becomePart 14 = .ok (.aload_n 1, 1) := by decide +kernel
theorem dX0_becomePart_15 : decode cX0_becomePart 15 = .ok (.getfield 9, 3) := by decide +kernel
theorem dX0_becomePart_18 : decode cX0_becomePart 18 = .ok (.invokevirtual 26, 3) := by decide +kernel
theorem dX0_becomePart_21 : decode cX0_becomePart 21 = .ok (.iconst 0, 1) := by decide +kernel
theorem dX0_becomePart_22 : decode cX0_becomePart 22 = .ok (.istore 4, 2) := by decide +kernel
theorem dX0_becomePart_24 : decode cX0_becomePart 24 = .ok (.iload 4, 2) := by decide +kernel
theorem dX0_becomePart_26 : decode cX0_becomePart 26 = .ok (.aload_n 0, 1) := by decide +kernel
theorem dX0_becomePart_27 : decode cX0_becomePart 27 = .ok (.getfield 18, 3) := by decide +kernel
theorem dX0_becomePart_30 : decode cX0_becomePart 30 = .ok (.arraylength, 1) := by decide +kernel
theorem dX0_becomePart_31 : decode cX0_becomePart 31 = .ok (.if_icmp .ge 49, 3) := by decide +kernel
theorem dX0_becomePart_34 : decode cX0_becomePart 34 = .ok (.iload 4, 2) := by decide +kernel
theorem dX0_becomePart_36 : decode cX0_becomePart 36 = .ok (.iload_n 2, 1) := by decide +kernel
theorem dX0_becomePart_37 : decode cX0_becomePart 37 = .ok (.iand, 1) := by decide +kernel
theorem dX0_becomePart_38 : decode cX0_becomePart 38 = .ok (.ifCond .eq 7, 3) := by decide +kernel
theorem dX0_becomePart_41 : decode cX0_becomePart 41 = .ok (.iconst 1, 1) := by decide +kernel
theorem dX0_becomePart_42 : decode cX0_becomePart 42 = .ok (.goto 4, 3) := by decide +kernel
theorem dX0_becomePart_45 : decode cX0_becomePart 45 = .ok (.iconst 0, 1) := by decide +kernel
theorem dX0_becomePart_46 : decode cX0_becomePart 46 = .ok (.istore 5, 2) := by decide +kernel
theorem dX0_becomePart_48 : decode cX0_becomePart 48 = .ok (.aload_n 1, 1) := by decide +kernel
theorem dX0_becomePart_49 : decode cX0_becomePart 49 = .ok (.iload 4, 2) := by decide +kernel
theorem dX0_becomePart_51 : decode cX0_becomePart 51 = .ok (.invokevirtual 22, 3) := by decide +kernel
theorem dX0_becomePart_54 : decode cX0_becomePart 54 = .ok (.ifCond .eq 20, 3) := by decide +kernel
theorem dX0_becomePart_57 : decode cX0_becomePart 57 = .ok (.iload 5, 2) := by decide +kernel
theorem dX0_becomePart_59 : decode cX0_becomePart 59 = .ok (.iload_n 3, 1) := by decide +kernel
theorem dX0_becomePart_60 : decode cX0_becomePart 60 = .ok (.if_icmp .ne 14, 3) := by decide +kernel
theorem dX0_becomePart_63 : decode cX0_becomePart 63 = .ok (.aload_n 0, 1) := by decide +kernel
theorem dX0_becomePart_64 : decode cX0_becomePart 64 = .ok (.iload 4, 2) := by decide +kernel
theorem dX0_becomePart_66 : decode cX0_becomePart 66 = .ok (.iload_n 2, 1) := by decide +kernel
theorem dX0_becomePart_67 : decode cX0_becomePart 67 = .ok (.iconst (-1), 1) := by decide +kernel
theorem dX0_becomePart_68 : decode cX0_becomePart 68 = .ok (.ixor, 1) := by decide +kernel
theorem dX0_becomePart_69 : decode cX0_becomePart 69 = .ok (.iand, 1) := by decide +kernel
theorem dX0_becomePart_70 : decode cX0_becomePart 70 = .ok (.iconst 1, 1) := by decide +kernel
theorem dX0_becomePart_71 : decode cX0_becomePart 71 = .ok (.invokevirtual 41, 3) := by decide +kernel
theorem dX0_becomePart_74 : decode cX0_becomePart 74 = .ok (.iinc 4 1, 3) := by decide +kernel
theorem dX0_becomePart_77 : decode cX0_becomePart 77 = .ok (.goto (-53), 3) := by decide +kernel
theorem dX0_becomePart_80 : decode cX0_becomePart 80 = .ok (.return_, 1) := by decide +kernel
theorem dX0_has_0 : decode cX0_has 0 = .ok (.iload_n 1, 1) := by decide +kernel
theorem dX0_has_1 : decode cX0_has 1 = .ok (.ifCond .lt 25, 3) := by decide +kernel
theorem dX0_has_4 : decode cX0_has 4 = .ok (.iload_n 1, 1) := by decide +kernel
theorem dX0_has_5 : decode cX0_has 5 = .ok (.aload_n 0, 1) := by decide +kernel
theorem dX0_has_6 : decode cX0_has 6 = .ok (.getfield 18, 3) := by decide +kernel
theorem dX0_has_9 : decode cX0_has 9 = .ok (.arraylength, 1) := by decide +kernel
theorem dX0_has_10 : decode cX0_has 10 = .ok (.if_icmp .ge 16, 3) := by decide +kernel
theorem dX0_has_13 : decode cX0_has 13 = .ok (.aload_n 0, 1) := by decide +kernel
theorem dX0_has_14 : decode cX0_has 14 = .ok (.getfield 18, 3) := by decide +kernel
theorem dX0_has_17 : decode cX0_has 17 = .ok (.iload_n 1, 1) := by decide +kernel
theorem dX0_has_18 : decode cX0_has 18 = .ok (.baload, 1) := by decide +kernel
theorem dX0_has_19 : decode cX0_has 19 = .ok (.ifCond .eq 7, 3) := by decide +kernel
theorem dX0_has_22 : decode cX0_has 22 = .ok (.iconst 1, 1) := by decide +kernel
theorem dX0_has_23 : decode cX0_has 23 = .ok (.goto 4, 3) := by decide +kernel
theorem dX0_has_26 : decode cX0_has 26 = .ok (.iconst 0, 1) := by decide +kernel
theorem dX0_has_27 : decode cX0_has 27 = .ok (.ireturn, 1) := by decide +kernel
theorem dX0_put_0 : decode cX0_put 0 = .ok (.iload_n 1, 1) := by decide +kernel
theorem dX0_put_1 : decode cX0_put 1 = .ok (.ifCond .lt 22, 3) := by decide +kernel
theorem dX0_put_4 : decode cX0_put 4 = .ok (.iload_n 1, 1) := by decide +kernel
theorem dX0_put_5 : decode cX0_put 5 = .ok (.aload_n 0, 1) := by decide +kernel
theorem dX0_put_6 : decode cX0_put 6 = .ok (.getfield 18, 3) := by decide +kernel
theorem dX0_put_9 : decode cX0_put 9 = .ok (.arraylength, 1) := by decide +kernel
theorem dX0_put_10 : decode cX0_put 10 = .ok (.if_icmp .ge 13, 3) := by decide +kernel
theorem dX0_put_13 : decode cX0_put 13 = .ok (.aload_n 0, 1) := by decide +kernel
theorem dX0_put_14 : decode cX0_put 14 = .ok (.getfield 18, 3) := by decide +kernel
theorem dX0_put_17 : decode cX0_put 17 = .ok (.iload_n 1, 1) := by decide +kernel
theorem dX0_put_18 : decode cX0_put 18 = .ok (.baload, 1) := by decide +kernel
theorem dX0_put_19 : decode cX0_put 19 = .ok (.iload_n 2, 1) := by decide +kernel
theorem dX0_put_20 : decode cX0_put 20 = .ok (.if_icmp .ne 4, 3) := by decide +kernel
theorem dX0_put_23 : decode cX0_put 23 = .ok (.return_, 1) := by decide +kernel
theorem dX0_put_24 : decode cX0_put 24 = .ok (.aload_n 0, 1) := by decide +kernel
theorem dX0_put_25 : decode cX0_put 25 = .ok (.getfield 18, 3) := by decide +kernel
theorem dX0_put_28 : decode cX0_put 28 = .ok (.iload_n 1, 1) := by decide +kernel
theorem dX0_put_29 : decode cX0_put 29 = .ok (.iload_n 2, 1) := by decide +kernel
theorem dX0_put_30 : decode cX0_put 30 = .ok (.bastore, 1) := by decide +kernel
theorem dX0_put_31 : decode cX0_put 31 = .ok (.aload_n 0, 1) := by decide +kernel
theorem dX0_put_32 : decode cX0_put 32 = .ok (.dup, 1) := by decide +kernel
theorem dX0_put_33 : decode cX0_put 33 = .ok (.getfield 15, 3) := by decide +kernel
theorem dX0_put_36 : decode cX0_put 36 = .ok (.iload_n 2, 1) := by decide +kernel
theorem dX0_put_37 : decode cX0_put 37 = .ok (.ifCond .eq 7, 3) := by decide +kernel
theorem dX0_put_40 : decode cX0_put 40 = .ok (.iconst 1, 1) := by decide +kernel
theorem dX0_put_41 : decode cX0_put 41 = .ok (.goto 4, 3) := by decide +kernel
theorem dX0_put_44 : decode cX0_put 44 = .ok (.iconst (-1), 1) := by decide +kernel
theorem dX0_put_45 : decode cX0_put 45 = .ok (.iadd, 1) := by decide +kernel
theorem dX0_put_46 : decode cX0_put 46 = .ok (.putfield 15, 3) := by decide +kernel
theorem dX0_put_49 : decode cX0_put 49 = .ok (.return_, 1) := by decide +kernel
theorem dX0_setAt_0 : decode cX0_setAt 0 = .ok (.iconst 0, 1) := by decide +kernel
theorem dX0_setAt_1 : decode cX0_setAt 1 = .ok (.istore_n 2, 1) := by decide +kernel
theorem dX0_setAt_2 : decode cX0_setAt 2 = .ok (.iconst 0, 1) := by decide +kernel
theorem dX0_setAt_3 : decode cX0_setAt 3 = .ok (.istore_n 3, 1) := by decide +kernel
theorem dX0_setAt_4 : decode cX0_setAt 4 = .ok (.iload_n 3, 1) := by decide +kernel
theorem dX0_setAt_5 : decode cX0_setAt 5 = .ok (.aload_n 0, 1) := by decide +kernel
theorem dX0_setAt_6 : decode cX0_setAt 6 = .ok (.getfield 18, 3) := by decide +kernel
theorem dX0_setAt_9 : decode cX0_setAt 9 = .ok (.arraylength, 1) := by decide +kernel
theorem dX0_setAt_10 : decode cX0_setAt 10 = .ok (.if_icmp .ge 28, 3) := by decide +kernel
theorem dX0_setAt_13 : decode cX0_setAt 13 = .ok (.aload_n 0, 1) := by decide +kernel
theorem dX0_setAt_14 : decode cX0_setAt 14 = .ok (.getfield 18, 3) := by decide +kernel
theorem dX0_setAt_17 : decode cX0_setAt 17 = .ok (.iload_n 3, 1) := by decide +kernel
theorem dX0_setAt_18 : decode cX0_setAt 18 = .ok (.baload, 1) := by decide +kernel
theorem dX0_setAt_19 : decode cX0_setAt 19 = .ok (.ifCond .eq 13, 3) := by decide +kernel
theorem dX0_setAt_22 : decode cX0_setAt 22 = .ok (.iload_n 2, 1) := by decide +kernel
theorem dX0_setAt_23 : decode cX0_setAt 23 = .ok (.iinc 2 1, 3) := by decide +kernel
theorem dX0_setAt_26 : decode cX0_setAt 26 = .ok (.iload_n 1, 1) := by decide +kernel
theorem dX0_setAt_27 : decode cX0_setAt 27 = .ok (.if_icmp .ne 5, 3) := by decide +kernel
theorem dX0_setAt_30 : decode cX0_setAt 30 = .ok (.iload_n 3, 1) := by decide +kernel
theorem dX0_setAt_31 : decode cX0_setAt 31 = .ok (.ireturn, 1) := by decide +kernel
theorem dX0_setAt_32 : decode cX0_setAt 32 = .ok (.iinc 3 1, 3) := by decide +kernel
theorem dX0_setAt_35 : decode cX0_setAt 35 = .ok (.goto (-31), 3) := by decide +kernel
theorem dX0_setAt_38 : decode cX0_setAt 38 = .ok (.bipush (-5), 2) := by decide +kernel
theorem dX0_setAt_40 : decode cX0_setAt 40 = .ok (.ireturn, 1) := by decide +kernel
theorem dX0_union_0 : decode cX0_union 0 = .ok (.iconst 0, 1) := by decide +kernel
theorem dX0_union_1 : decode cX0_union 1 = .ok (.istore_n 1, 1) := by decide +kernel
theorem dX0_union_2 : decode cX0_union 2 = .ok (.iconst 0, 1) := by decide +kernel
theorem dX0_union_3 : decode cX0_union 3 = .ok (.istore_n 2, 1) := by decide +kernel
theorem dX0_union_4 : decode cX0_union 4 = .ok (.iload_n 2, 1) := by decide +kernel
theorem dX0_union_5 : decode cX0_union 5 = .ok (.aload_n 0, 1) := by decide +kernel
theorem dX0_union_6 : decode cX0_union 6 = .ok (.getfield 18, 3) := by decide +kernel
theorem dX0_union_9 : decode cX0_union 9 = .ok (.arraylength, 1) := by decide +kernel
theorem dX0_union_10 : decode cX0_union 10 = .ok (.if_icmp .ge 22, 3) := by decide +kernel
theorem dX0_union_13 : decode cX0_union 13 = .ok (.aload_n 0, 1) := by decide +kernel
theorem dX0_union_14 : decode cX0_union 14 = .ok (.getfield 18, 3) := by decide +kernel
theorem dX0_union_17 : decode cX0_union 17 = .ok (.iload_n 2, 1) := by decide +kernel
theorem dX0_union_18 : decode cX0_union 18 = .ok (.baload, 1) := by decide +kernel
theorem dX0_union_19 : decode cX0_union 19 = .ok (.ifCond .eq 7, 3) := by decide +kernel
theorem dX0_union_22 : decode cX0_union 22 = .ok (.iload_n 1, 1) := by decide +kernel
theorem dX0_union_23 : decode cX0_union 23 = .ok (.iload_n 2, 1) := by decide +kernel
theorem dX0_union_24 : decode cX0_union 24 = .ok (.ior, 1) := by decide +kernel
theorem dX0_union_25 : decode cX0_union 25 = .ok (.istore_n 1, 1) := by decide +kernel
theorem dX0_union_26 : decode cX0_union 26 = .ok (.iinc 2 1, 3) := by decide +kernel
theorem dX0_union_29 : decode cX0_union 29 = .ok (.goto (-25), 3) := by decide +kernel
theorem dX0_union_32 : decode cX0_union 32 = .ok (.iload_n 1, 1) := by decide +kernel
theorem dX0_union_33 : decode cX0_union 33 = .ok (.ireturn, 1) := by decide +kernel
theorem dX0_areKeptBy_0 : decode cX0_areKeptBy 0 = .ok (.iconst 0, 1) := by decide +kernel
theorem dX0_areKeptBy_1 : decode cX0_areKeptBy 1 = .ok (.istore_n 2, 1) := by decide +kernel
theorem dX0_areKeptBy_2 : decode cX0_areKeptBy 2 = .ok (.iload_n 2, 1) := by decide +kernel
theorem dX0_areKeptBy_3 : decode cX0_areKeptBy 3 = .ok (.aload_n 0, 1) := by decide +kernel
theorem dX0_areKeptBy_4 : decode cX0_areKeptBy 4 = .ok (.getfield 18, 3) := by decide +kernel
theorem dX0_areKeptBy_7 : decode cX0_areKeptBy 7 = .ok (.arraylength, 1) := by decide +kernel
theorem dX0_areKeptBy_8 : decode cX0_areKeptBy 8 = .ok (.if_icmp .ge 32, 3) := by decide +kernel
theorem dX0_areKeptBy_11 : decode cX0_areKeptBy 11 = .ok (.aload_n 0, 1) := by decide +kernel
theorem dX0_areKeptBy_12 : decode cX0_areKeptBy 12 = .ok (.getfield 18, 3) := by decide +kernel
theorem dX0_areKeptBy_15 : decode cX0_areKeptBy 15 = .ok (.iload_n 2, 1) := by decide +kernel
theorem dX0_areKeptBy_16 : decode cX0_areKeptBy 16 = .ok (.baload, 1) := by decide +kernel
theorem dX0_areKeptBy_17 : decode cX0_areKeptBy 17 = .ok (.ifCond .eq 17, 3) := by decide +kernel
theorem dX0_areKeptBy_20 : decode cX0_areKeptBy 20 = .ok (.aload_n 0, 1) := by decide +kernel
theorem dX0_areKeptBy_21 : decode cX0_areKeptBy 21 = .ok (.aload_n 1, 1) := by decide +kernel
theorem dX0_areKeptBy_22 : decode cX0_areKeptBy 22 = .ok (.iload_n 2, 1) := by decide +kernel
theorem dX0_areKeptBy_23 : decode cX0_areKeptBy 23 = .ok (.invokevirtual 45, 3) := by decide +kernel
theorem dX0_areKeptBy_26 : decode cX0_areKeptBy 26 = .ok (.invokevirtual 22, 3) := by decide +kernel
theorem dX0_areKeptBy_29 : decode cX0_areKeptBy 29 = .ok (.ifCond .ne 5, 3) := by decide +kernel
theorem dX0_areKeptBy_32 : decode cX0_areKeptBy 32 = .ok (.iconst 0, 1) := by decide +kernel
theorem dX0_areKeptBy_33 : decode cX0_areKeptBy 33 = .ok (.ireturn, 1) := by decide +kernel
theorem dX0_areKeptBy_34 : decode cX0_areKeptBy 34 = .ok (.iinc 2 1, 3) := by decide +kernel
theorem dX0_areKeptBy_37 : decode cX0_areKeptBy 37 = .ok (.goto (-35), 3) := by decide +kernel
theorem dX0_areKeptBy_40 : decode cX0_areKeptBy 40 = .ok (.iconst 1, 1) := by decide +kernel
theorem dX0_areKeptBy_41 : decode cX0_areKeptBy 41 = .ok (.ireturn, 1) := by decide +kernel
theorem dX0_meeting_0 : decode cX0_meeting 0 = .ok (.iconst 0, 1) := by decide +kernel
theorem dX0_meeting_1 : decode cX0_meeting 1 = .ok (.istore_n 3, 1) := by decide +kernel
theorem dX0_meeting_2 : decode cX0_meeting 2 = .ok (.iconst 0, 1) := by decide +kernel
theorem dX0_meeting_3 : decode cX0_meeting 3 = .ok (.istore 4, 2) := by decide +kernel
theorem dX0_meeting_5 : decode cX0_meeting 5 = .ok (.iload 4, 2) := by decide +kernel
theorem dX0_meeting_7 : decode cX0_meeting 7 = .ok (.aload_n 0, 1) := by decide +kernel
theorem dX0_meeting_8 : decode cX0_meeting 8 = .ok (.getfield 18, 3) := by decide +kernel
theorem dX0_meeting_11 : decode cX0_meeting 11 = .ok (.arraylength, 1) := by decide +kernel
theorem dX0_meeting_12 : decode cX0_meeting 12 = .ok (.if_icmp .ge 33, 3) := by decide +kernel
theorem dX0_meeting_15 : decode cX0_meeting 15 = .ok (.aload_n 0, 1) := by decide +kernel
theorem dX0_meeting_16 : decode cX0_meeting 16 = .ok (.getfield 18, 3) := by decide +kernel
theorem dX0_meeting_19 : decode cX0_meeting 19 = .ok (.iload 4, 2) := by decide +kernel
theorem dX0_meeting_21 : decode cX0_meeting 21 = .ok (.baload, 1) := by decide +kernel
theorem dX0_meeting_22 : decode cX0_meeting 22 = .ok (.ifCond .eq 17, 3) := by decide +kernel
theorem dX0_meeting_25 : decode cX0_meeting 25 = .ok (.iload 4, 2) := by decide +kernel
theorem dX0_meeting_27 : decode cX0_meeting 27 = .ok (.iload_n 1, 1) := by decide +kernel
theorem dX0_meeting_28 : decode cX0_meeting 28 = .ok (.iand, 1) := by decide +kernel
theorem dX0_meeting_29 : decode cX0_meeting 29 = .ok (.invokestatic 36, 3) := by decide +kernel
theorem dX0_meeting_32 : decode cX0_meeting 32 = .ok (.iload_n 2, 1) := by decide +kernel
theorem dX0_meeting_33 : decode cX0_meeting 33 = .ok (.if_icmp .ne 6, 3) := by decide +kernel
theorem dX0_meeting_36 : decode cX0_meeting 36 = .ok (.iinc 3 1, 3) := by decide +kernel
theorem dX0_meeting_39 : decode cX0_meeting 39 = .ok (.iinc 4 1, 3) := by decide +kernel
theorem dX0_meeting_42 : decode cX0_meeting 42 = .ok (.goto (-37), 3) := by decide +kernel
theorem dX0_meeting_45 : decode cX0_meeting 45 = .ok (.iload_n 3, 1) := by decide +kernel
theorem dX0_meeting_46 : decode cX0_meeting 46 = .ok (.ireturn, 1) := by decide +kernel
theorem dX0_around_0 : decode cX0_around 0 = .ok (.iconst 0, 1) := by decide +kernel
theorem dX0_around_1 : decode cX0_around 1 = .ok (.istore_n 2, 1) := by decide +kernel
theorem dX0_around_2 : decode cX0_around 2 = .ok (.iload_n 1, 1) := by decide +kernel
theorem dX0_around_3 : decode cX0_around 3 = .ok (.istore_n 3, 1) := by decide +kernel
theorem dX0_around_4 : decode cX0_around 4 = .ok (.iload_n 3, 1) := by decide +kernel
theorem dX0_around_5 : decode cX0_around 5 = .ok (.ifCond .lt 37, 3) := by decide +kernel
theorem dX0_around_8 : decode cX0_around 8 = .ok (.iload_n 3, 1) := by decide +kernel
theorem dX0_around_9 : decode cX0_around 9 = .ok (.aload_n 0, 1) := by decide +kernel
theorem dX0_around_10 : decode cX0_around 10 = .ok (.getfield 18, 3) := by decide +kernel
theorem dX0_around_13 : decode cX0_around 13 = .ok (.arraylength, 1) := by decide +kernel
theorem dX0_around_14 : decode cX0_around 14 = .ok (.if_icmp .ge 28, 3) := by decide +kernel
theorem dX0_around_17 : decode cX0_around 17 = .ok (.aload_n 0, 1) := by decide +kernel
theorem dX0_around_18 : decode cX0_around 18 = .ok (.getfield 18, 3) := by decide +kernel
theorem dX0_around_21 : decode cX0_around 21 = .ok (.iload_n 3, 1) := by decide +kernel
theorem dX0_around_22 : decode cX0_around 22 = .ok (.baload, 1) := by decide +kernel
theorem dX0_around_23 : decode cX0_around 23 = .ok (.ifCond .eq 13, 3) := by decide +kernel
theorem dX0_around_26 : decode cX0_around 26 = .ok (.iload_n 3, 1) := by decide +kernel
theorem dX0_around_27 : decode cX0_around 27 = .ok (.iload_n 1, 1) := by decide +kernel
theorem dX0_around_28 : decode cX0_around 28 = .ok (.iand, 1) := by decide +kernel
theorem dX0_around_29 : decode cX0_around 29 = .ok (.iload_n 1, 1) := by decide +kernel
theorem dX0_around_30 : decode cX0_around 30 = .ok (.if_icmp .ne 6, 3) := by decide +kernel
theorem dX0_around_33 : decode cX0_around 33 = .ok (.iinc 2 1, 3) := by decide +kernel
theorem dX0_around_36 : decode cX0_around 36 = .ok (.iinc 3 1, 3) := by decide +kernel
theorem dX0_around_39 : decode cX0_around 39 = .ok (.goto (-35), 3) := by decide +kernel
theorem dX0_around_42 : decode cX0_around 42 = .ok (.iload_n 2, 1) := by decide +kernel
theorem dX0_around_43 : decode cX0_around 43 = .ok (.ireturn, 1) := by decide +kernel
theorem dX0_shareOn_0 : decode cX0_shareOn 0 = .ok (.bipush (-5), 2) := by decide +kernel
theorem dX0_shareOn_2 : decode cX0_shareOn 2 = .ok (.istore_n 3, 1) := by decide +kernel
theorem dX0_shareOn_3 : decode cX0_shareOn 3 = .ok (.iconst 0, 1) := by decide +kernel
theorem dX0_shareOn_4 : decode cX0_shareOn 4 = .ok (.istore 4, 2) := by decide +kernel
theorem dX0_shareOn_6 : decode cX0_shareOn 6 = .ok (.iload 4, 2) := by decide +kernel
theorem dX0_shareOn_8 : decode cX0_shareOn 8 = .ok (.sipush 256, 3) := by decide +kernel
theorem dX0_shareOn_11 : decode cX0_shareOn 11 = .ok (.if_icmp .ge 53, 3) := by decide +kernel
theorem dX0_shareOn_14 : decode cX0_shareOn 14 = .ok (.iload 4, 2) := by decide +kernel
theorem dX0_shareOn_16 : decode cX0_shareOn 16 = .ok (.iload_n 1, 1) := by decide +kernel
theorem dX0_shareOn_17 : decode cX0_shareOn 17 = .ok (.iconst (-1), 1) := by decide +kernel
theorem dX0_shareOn_18 : decode cX0_shareOn 18 = .ok (.ixor, 1) := by decide +kernel
theorem dX0_shareOn_19 : decode cX0_shareOn 19 = .ok (.iand, 1) := by decide +kernel
theorem dX0_shareOn_20 : decode cX0_shareOn 20 = .ok (.ifCond .ne 38, 3) := by decide +kernel
theorem dX0_shareOn_23 : decode cX0_shareOn 23 = .ok (.iload 4, 2) := by decide +kernel
theorem dX0_shareOn_25 : decode cX0_shareOn 25 = .ok (.invokestatic 36, 3) := by decide +kernel
theorem dX0_shareOn_28 : decode cX0_shareOn 28 = .ok (.iload_n 2, 1) := by decide +kernel
theorem dX0_shareOn_29 : decode cX0_shareOn 29 = .ok (.if_icmp .ne 29, 3) := by decide +kernel
theorem dX0_shareOn_32 : decode cX0_shareOn 32 = .ok (.aload_n 0, 1) := by decide +kernel
theorem dX0_shareOn_33 : decode cX0_shareOn 33 = .ok (.iload 4, 2) := by decide +kernel
theorem dX0_shareOn_35 : decode cX0_shareOn 35 = .ok (.invokevirtual 50, 3) := by decide +kernel
theorem dX0_shareOn_38 : decode cX0_shareOn 38 = .ok (.istore 5, 2) := by decide +kernel
theorem dX0_shareOn_40 : decode cX0_shareOn 40 = .ok (.iload_n 3, 1) := by decide +kernel
theorem dX0_shareOn_41 : decode cX0_shareOn 41 = .ok (.bipush (-5), 2) := by decide +kernel
theorem dX0_shareOn_43 : decode cX0_shareOn 43 = .ok (.if_icmp .eq 12, 3) := by decide +kernel
theorem dX0_shareOn_46 : decode cX0_shareOn 46 = .ok (.iload_n 3, 1) := by decide +kernel
theorem dX0_shareOn_47 : decode cX0_shareOn 47 = .ok (.iload 5, 2) := by decide +kernel
theorem dX0_shareOn_49 : decode cX0_shareOn 49 = .ok (.if_icmp .eq 6, 3) := by decide +kernel
theorem dX0_shareOn_52 : decode cX0_shareOn 52 = .ok (.bipush (-5), 2) := by decide +kernel
theorem dX0_shareOn_54 : decode cX0_shareOn 54 = .ok (.ireturn, 1) := by decide +kernel
theorem dX0_shareOn_55 : decode cX0_shareOn 55 = .ok (.iload 5, 2) := by decide +kernel
theorem dX0_shareOn_57 : decode cX0_shareOn 57 = .ok (.istore_n 3, 1) := by decide +kernel
theorem dX0_shareOn_58 : decode cX0_shareOn 58 = .ok (.iinc 4 1, 3) := by decide +kernel
theorem dX0_shareOn_61 : decode cX0_shareOn 61 = .ok (.goto (-55), 3) := by decide +kernel
theorem dX0_shareOn_64 : decode cX0_shareOn 64 = .ok (.iload_n 3, 1) := by decide +kernel
theorem dX0_shareOn_65 : decode cX0_shareOn 65 = .ok (.ireturn, 1) := by decide +kernel
theorem dX0_strengthOn_0 : decode cX0_strengthOn 0 = .ok (.iconst 1, 1) := by decide +kernel
theorem dX0_strengthOn_1 : decode cX0_strengthOn 1 = .ok (.istore_n 2, 1) := by decide +kernel
theorem dX0_strengthOn_2 : decode cX0_strengthOn 2 = .ok (.iload_n 2, 1) := by decide +kernel
theorem dX0_strengthOn_3 : decode cX0_strengthOn 3 = .ok (.aload_n 0, 1) := by decide +kernel
theorem dX0_strengthOn_4 : decode cX0_strengthOn 4 = .ok (.getfield 9, 3) := by decide +kernel
theorem dX0_strengthOn_7 : decode cX0_strengthOn 7 = .ok (.if_icmp .gt 24, 3) := by decide +kernel
theorem dX0_strengthOn_10 : decode cX0_strengthOn 10 = .ok (.aload_n 0, 1) := by decide +kernel
theorem dX0_strengthOn_11 : decode cX0_strengthOn 11 = .ok (.iload_n 1, 1) := by decide +kernel
theorem dX0_strengthOn_12 : decode cX0_strengthOn 12 = .ok (.iload_n 2, 1) := by decide +kernel
theorem dX0_strengthOn_13 : decode cX0_strengthOn 13 = .ok (.invokevirtual 53, 3) := by decide +kernel
theorem dX0_strengthOn_16 : decode cX0_strengthOn 16 = .ok (.bipush (-5), 2) := by decide +kernel
theorem dX0_strengthOn_18 : decode cX0_strengthOn 18 = .ok (.if_icmp .ne 7, 3) := by decide +kernel
theorem dX0_strengthOn_21 : decode cX0_strengthOn 21 = .ok (.iload_n 2, 1) := by decide +kernel
theorem dX0_strengthOn_22 : decode cX0_strengthOn 22 = .ok (.iconst 1, 1) := by decide +kernel
theorem dX0_strengthOn_23 : decode cX0_strengthOn 23 = .ok (.isub, 1) := by decide +kernel
theorem dX0_strengthOn_24 : decode cX0_strengthOn 24 = .ok (.ireturn, 1) := by decide +kernel
theorem dX0_strengthOn_25 : decode cX0_strengthOn 25 = .ok (.iinc 2 1, 3) := by decide +kernel
theorem dX0_strengthOn_28 : decode cX0_strengthOn 28 = .ok (.goto (-26), 3) := by decide +kernel
theorem dX0_strengthOn_31 : decode cX0_strengthOn 31 = .ok (.aload_n 0, 1) := by decide +kernel
theorem dX0_strengthOn_32 : decode cX0_strengthOn 32 = .ok (.getfield 9, 3) := by decide +kernel
theorem dX0_strengthOn_35 : decode cX0_strengthOn 35 = .ok (.ireturn, 1) := by decide +kernel
theorem dX0_turn_0 : decode cX0_turn 0 = .ok (.iconst 1, 1) := by decide +kernel
theorem dX0_turn_1 : decode cX0_turn 1 = .ok (.iload_n 1, 1) := by decide +kernel
theorem dX0_turn_2 : decode cX0_turn 2 = .ok (.ishl, 1) := by decide +kernel
theorem dX0_turn_3 : decode cX0_turn 3 = .ok (.iconst 1, 1) := by decide +kernel
theorem dX0_turn_4 : decode cX0_turn 4 = .ok (.isub, 1) := by decide +kernel
theorem dX0_turn_5 : decode cX0_turn 5 = .ok (.istore_n 2, 1) := by decide +kernel
theorem dX0_turn_6 : decode cX0_turn 6 = .ok (.aload_n 0, 1) := by decide +kernel
theorem dX0_turn_7 : decode cX0_turn 7 = .ok (.iload_n 1, 1) := by decide +kernel
theorem dX0_turn_8 : decode cX0_turn 8 = .ok (.aload_n 0, 1) := by decide +kernel
theorem dX0_turn_9 : decode cX0_turn 9 = .ok (.getfield 9, 3) := by decide +kernel
theorem dX0_turn_12 : decode cX0_turn 12 = .ok (.isub, 1) := by decide +kernel
theorem dX0_turn_13 : decode cX0_turn 13 = .ok (.putfield 9, 3) := by decide +kernel
theorem dX0_turn_16 : decode cX0_turn 16 = .ok (.iconst 0, 1) := by decide +kernel
theorem dX0_turn_17 : decode cX0_turn 17 = .ok (.istore_n 3, 1) := by decide +kernel
theorem dX0_turn_18 : decode cX0_turn 18 = .ok (.iload_n 3, 1) := by decide +kernel
theorem dX0_turn_19 : decode cX0_turn 19 = .ok (.aload_n 0, 1) := by decide +kernel
theorem dX0_turn_20 : decode cX0_turn 20 = .ok (.getfield 18, 3) := by decide +kernel
theorem dX0_turn_23 : decode cX0_turn 23 = .ok (.arraylength, 1) := by decide +kernel
theorem dX0_turn_24 : decode cX0_turn 24 = .ok (.if_icmp .ge 60, 3) := by decide +kernel
theorem dX0_turn_27 : decode cX0_turn 27 = .ok (.iload_n 2, 1) := by decide +kernel
theorem dX0_turn_28 : decode cX0_turn 28 = .ok (.iload_n 3, 1) := by decide +kernel
theorem dX0_turn_29 : decode cX0_turn 29 = .ok (.isub, 1) := by decide +kernel
theorem dX0_turn_30 : decode cX0_turn 30 = .ok (.istore 4, 2) := by decide +kernel
theorem dX0_turn_32 : decode cX0_turn 32 = .ok (.iload 4, 2) := by decide +kernel
theorem dX0_turn_34 : decode cX0_turn 34 = .ok (.iload_n 3, 1) := by decide +kernel
theorem dX0_turn_35 : decode cX0_turn 35 = .ok (.if_icmp .le 43, 3) := by decide +kernel
theorem dX0_turn_38 : decode cX0_turn 38 = .ok (.iload 4, 2) := by decide +kernel
theorem dX0_turn_40 : decode cX0_turn 40 = .ok (.aload_n 0, 1) := by decide +kernel
theorem dX0_turn_41 : decode cX0_turn 41 = .ok (.getfield 18, 3) := by decide +kernel
theorem dX0_turn_44 : decode cX0_turn 44 = .ok (.arraylength, 1) := by decide +kernel
theorem dX0_turn_45 : decode cX0_turn 45 = .ok (.if_icmp .ge 33, 3) := by decide +kernel
theorem dX0_turn_48 : decode cX0_turn 48 = .ok (.aload_n 0, 1) := by decide +kernel
theorem dX0_turn_49 : decode cX0_turn 49 = .ok (.getfield 18, 3) := by decide +kernel
theorem dX0_turn_52 : decode cX0_turn 52 = .ok (.iload_n 3, 1) := by decide +kernel
theorem dX0_turn_53 : decode cX0_turn 53 = .ok (.baload, 1) := by decide +kernel
theorem dX0_turn_54 : decode cX0_turn 54 = .ok (.istore 5, 2) := by decide +kernel
theorem dX0_turn_56 : decode cX0_turn 56 = .ok (.aload_n 0, 1) := by decide +kernel
theorem dX0_turn_57 : decode cX0_turn 57 = .ok (.getfield 18, 3) := by decide +kernel
theorem dX0_turn_60 : decode cX0_turn 60 = .ok (.iload_n 3, 1) := by decide +kernel
theorem dX0_turn_61 : decode cX0_turn 61 = .ok (.aload_n 0, 1) := by decide +kernel
theorem dX0_turn_62 : decode cX0_turn 62 = .ok (.getfield 18, 3) := by decide +kernel
theorem dX0_turn_65 : decode cX0_turn 65 = .ok (.iload 4, 2) := by decide +kernel
theorem dX0_turn_67 : decode cX0_turn 67 = .ok (.baload, 1) := by decide +kernel
theorem dX0_turn_68 : decode cX0_turn 68 = .ok (.bastore, 1) := by decide +kernel
theorem dX0_turn_69 : decode cX0_turn 69 = .ok (.aload_n 0, 1) := by decide +kernel
theorem dX0_turn_70 : decode cX0_turn 70 = .ok (.getfield 18, 3) := by decide +kernel
theorem dX0_turn_73 : decode cX0_turn 73 = .ok (.iload 4, 2) := by decide +kernel
theorem dX0_turn_75 : decode cX0_turn 75 = .ok (.iload 5, 2) := by decide +kernel
theorem dX0_turn_77 : decode cX0_turn 77 = .ok (.bastore, 1) := by decide +kernel
theorem dX0_turn_78 : decode cX0_turn 78 = .ok (.iinc 3 1, 3) := by decide +kernel
theorem dX0_turn_81 : decode cX0_turn 81 = .ok (.goto (-63), 3) := by decide +kernel
theorem dX0_turn_84 : decode cX0_turn 84 = .ok (.return_, 1) := by decide +kernel
theorem dX1_init_0 : decode cX1_init 0 = .ok (.aload_n 0, 1) := by decide +kernel
theorem dX1_init_1 : decode cX1_init 1 = .ok (.invokespecial 3, 3) := by decide +kernel
theorem dX1_init_4 : decode cX1_init 4 = .ok (.aload_n 0, 1) := by decide +kernel
theorem dX1_init_5 : decode cX1_init 5 = .ok (.sipush 980, 3) := by decide +kernel
theorem dX1_init_8 : decode cX1_init 8 = .ok (.newarray .int, 2) := by decide +kernel
theorem dX1_init_10 : decode cX1_init 10 = .ok (.putfield 9, 3) := by decide +kernel
theorem dX1_init_13 : decode cX1_init 13 = .ok (.aload_n 0, 1) := by decide +kernel
theorem dX1_init_14 : decode cX1_init 14 = .ok (.bipush 70, 2) := by decide +kernel
theorem dX1_init_16 : decode cX1_init 16 = .ok (.newarray .int, 2) := by decide +kernel
theorem dX1_init_18 : decode cX1_init 18 = .ok (.putfield 15, 3) := by decide +kernel
theorem dX1_init_21 : decode cX1_init 21 = .ok (.aload_n 0, 1) := by decide +kernel
theorem dX1_init_22 : decode cX1_init 22 = .ok (.bipush 70, 2) := by decide +kernel
theorem dX1_init_24 : decode cX1_init 24 = .ok (.newarray .int, 2) := by decide +kernel
theorem dX1_init_26 : decode cX1_init 26 = .ok (.putfield 18, 3) := by decide +kernel
theorem dX1_init_29 : decode cX1_init 29 = .ok (.aload_n 0, 1) := by decide +kernel
theorem dX1_init_30 : decode cX1_init 30 = .ok (.bipush 70, 2) := by decide +kernel
theorem dX1_init_32 : decode cX1_init 32 = .ok (.newarray .int, 2) := by decide +kernel
theorem dX1_init_34 : decode cX1_init 34 = .ok (.putfield 21, 3) := by decide +kernel
theorem dX1_init_37 : decode cX1_init 37 = .ok (.aload_n 0, 1) := by decide +kernel
theorem dX1_init_38 : decode cX1_init 38 = .ok (.bipush 14, 2) := by decide +kernel
theorem dX1_init_40 : decode cX1_init 40 = .ok (.newarray .int, 2) := by decide +kernel
theorem dX1_init_42 : decode cX1_init 42 = .ok (.putfield 24, 3) := by decide +kernel
theorem dX1_init_45 : decode cX1_init 45 = .ok (.aload_n 0, 1) := by decide +kernel
theorem dX1_init_46 : decode cX1_init 46 = .ok (.bipush 24, 2) := by decide +kernel
theorem dX1_init_48 : decode cX1_init 48 = .ok (.newarray .int, 2) := by decide +kernel
theorem dX1_init_50 : decode cX1_init 50 = .ok (.putfield 27, 3) := by decide +kernel
theorem dX1_init_53 : decode cX1_init 53 = .ok (.return_, 1) := by decide +kernel
theorem dX1_load_0 : decode cX1_load 0 = .ok (.aload_n 0, 1) := by decide +kernel
theorem dX1_load_1 : decode cX1_load 1 = .ok (.aload_n 1, 1) := by decide +kernel
theorem dX1_load_2 : decode cX1_load 2 = .ok (.iload_n 2, 1) := by decide +kernel
theorem dX1_load_3 : decode cX1_load 3 = .ok (.invokevirtual 30, 3) := by decide +kernel
theorem dX1_load_6 : decode cX1_load 6 = .ok (.bipush 70, 2) := by decide +kernel
theorem dX1_load_8 : decode cX1_load 8 = .ok (.invokestatic 36, 3) := by decide +kernel
theorem dX1_load_11 : decode cX1_load 11 = .ok (.putfield 42, 3) := by decide +kernel
theorem dX1_load_14 : decode cX1_load 14 = .ok (.aload_n 0, 1) := by decide +kernel
theorem dX1_load_15 : decode cX1_load 15 = .ok (.aload_n 1, 1) := by decide +kernel
theorem dX1_load_16 : decode cX1_load 16 = .ok (.iload_n 3, 1) := by decide +kernel
theorem dX1_load_17 : decode cX1_load 17 = .ok (.invokevirtual 30, 3) := by decide +kernel
theorem dX1_load_20 : decode cX1_load 20 = .ok (.bipush 14, 2) := by decide +kernel
theorem dX1_load_22 : decode cX1_load 22 = .ok (.invokestatic 36, 3) := by decide +kernel
theorem dX1_load_25 : decode cX1_load 25 = .ok (.putfield 46, 3) := by decide +kernel
theorem dX1_load_28 : decode cX1_load 28 = .ok (.aload_n 0, 1) := by decide +kernel
theorem dX1_load_29 : decode cX1_load 29 = .ok (.getfield 9, 3) := by decide +kernel
theorem dX1_load_32 : decode cX1_load 32 = .ok (.iconst 0, 1) := by decide +kernel
theorem dX1_load_33 : decode cX1_load 33 = .ok (.invokestatic 49, 3) := by decide +kernel
theorem dX1_load_36 : decode cX1_load 36 = .ok (.aload_n 0, 1) := by decide +kernel
theorem dX1_load_37 : decode cX1_load 37 = .ok (.getfield 15, 3) := by decide +kernel
theorem dX1_load_40 : decode cX1_load 40 = .ok (.iconst 0, 1) := by decide +kernel
theorem dX1_load_41 : decode cX1_load 41 = .ok (.invokestatic 49, 3) := by decide +kernel
theorem dX1_load_44 : decode cX1_load 44 = .ok (.iconst 0, 1) := by decide +kernel
theorem dX1_load_45 : decode cX1_load 45 = .ok (.istore 4, 2) := by decide +kernel
theorem dX1_load_47 : decode cX1_load 47 = .ok (.iload 4, 2) := by decide +kernel
theorem dX1_load_49 : decode cX1_load 49 = .ok (.aload_n 0, 1) := by decide +kernel
theorem dX1_load_50 : decode cX1_load 50 = .ok (.getfield 46, 3) := by decide +kernel
theorem dX1_load_53 : decode cX1_load 53 = .ok (.if_icmp .ge 33, 3) := by decide +kernel
theorem dX1_load_56 : decode cX1_load 56 = .ok (.iload 4, 2) := by decide +kernel
theorem dX1_load_58 : decode cX1_load 58 = .ok (.aload_n 0, 1) := by decide +kernel
theorem dX1_load_59 : decode cX1_load 59 = .ok (.getfield 24, 3) := by decide +kernel
theorem dX1_load_62 : decode cX1_load 62 = .ok (.arraylength, 1) := by decide +kernel
theorem dX1_load_63 : decode cX1_load 63 = .ok (.if_icmp .ge 23, 3) := by decide +kernel
theorem dX1_load_66 : decode cX1_load 66 = .ok (.aload_n 0, 1) := by decide +kernel
theorem dX1_load_67 : decode cX1_load 67 = .ok (.getfield 24, 3) := by decide +kernel
theorem dX1_load_70 : decode cX1_load 70 = .ok (.iload 4, 2) := by decide +kernel
theorem dX1_load_72 : decode cX1_load 72 = .ok (.aload_n 1, 1) := by decide +kernel
theorem dX1_load_73 : decode cX1_load 73 = .ok (.iload_n 3, 1) := by decide +kernel
theorem dX1_load_74 : decode cX1_load 74 = .ok (.iload 4, 2) := by decide +kernel
theorem dX1_load_76 : decode cX1_load 76 = .ok (.invokevirtual 55, 3) := by decide +kernel
theorem dX1_load_79 : decode cX1_load 79 = .ok (.iastore, 1) := by decide +kernel
theorem dX1_load_80 : decode cX1_load 80 = .ok (.iinc 4 1, 3) := by decide +kernel
theorem dX1_load_83 : decode cX1_load 83 = .ok (.goto (-36), 3) := by decide +kernel
theorem dX1_load_86 : decode cX1_load 86 = .ok (.iconst 0, 1) := by decide +kernel
theorem dX1_load_87 : decode cX1_load 87 = .ok (.istore 4, 2) := by decide +kernel
theorem dX1_load_89 : decode cX1_load 89 = .ok (.iload 4, 2) := by decide +kernel
theorem dX1_load_91 : decode cX1_load 91 = .ok (.aload_n 0, 1) := by decide +kernel
theorem dX1_load_92 : decode cX1_load 92 = .ok (.getfield 42, 3) := by decide +kernel
theorem dX1_load_95 : decode cX1_load 95 = .ok (.if_icmp .ge 25, 3) := by decide +kernel
theorem dX1_load_98 : decode cX1_load 98 = .ok (.aload_n 0, 1) := by decide +kernel
theorem dX1_load_99 : decode cX1_load 99 = .ok (.aload_n 1, 1) := by decide +kernel
theorem dX1_load_100 : decode cX1_load 100 = .ok (.iload_n 3, 1) := by decide +kernel
theorem dX1_load_101 : decode cX1_load 101 = .ok (.iload 4, 2) := by decide +kernel
theorem dX1_load_103 : decode cX1_load 103 = .ok (.aload_n 1, 1) := by decide +kernel
theorem dX1_load_104 : decode cX1_load 104 = .ok (.iload_n 2, 1) := by decide +kernel
theorem dX1_load_105 : decode cX1_load 105 = .ok (.iload 4, 2) := by decide +kernel
theorem dX1_load_107 : decode cX1_load 107 = .ok (.iconst 0, 1) := by decide +kernel
theorem dX1_load_108 : decode cX1_load 108 = .ok (.invokevirtual 58, 3) := by decide +kernel
theorem dX1_load_111 : decode cX1_load 111 = .ok (.invokevirtual 62, 3) := by decide +kernel
theorem dX1_load_114 : decode cX1_load 114 = .ok (.iinc 4 1, 3) := by decide +kernel
theorem dX1_load_117 : decode cX1_load 117 = .ok (.goto (-28), 3) := by decide +kernel
theorem dX1_load_120 : decode cX1_load 120 = .ok (.return_, 1) := by decide +kernel
theorem dX1_loadRow_0 : decode cX1_loadRow 0 = .ok (.iconst 0, 1) := by decide +kernel
theorem dX1_loadRow_1 : decode cX1_loadRow 1 = .ok (.istore 5, 2) := by decide +kernel
theorem dX1_loadRow_3 : decode cX1_loadRow 3 = .ok (.iload 5, 2) := by decide +kernel
theorem dX1_loadRow_5 : decode cX1_loadRow 5 = .ok (.sipush 256, 3) := by decide +kernel
theorem dX1_loadRow_8 : decode cX1_loadRow 8 = .ok (.if_icmp .ge 39, 3) := by decide +kernel
theorem dX1_loadRow_11 : decode cX1_loadRow 11 = .ok (.iload 5, 2) := by decide +kernel
theorem dX1_loadRow_13 : decode cX1_loadRow 13 = .ok (.iload 4, 2) := by decide +kernel
theorem dX1_loadRow_15 : decode cX1_loadRow 15 = .ok (.iand, 1) := by decide +kernel
theorem dX1_loadRow_16 : decode cX1_loadRow 16 = .ok (.iload 4, 2) := by decide +kernel
theorem dX1_loadRow_18 : decode cX1_loadRow 18 = .ok (.if_icmp .ne 23, 3) := by decide +kernel
theorem dX1_loadRow_21 : decode cX1_loadRow 21 = .ok (.iload 5, 2) := by decide +kernel
theorem dX1_loadRow_23 : decode cX1_loadRow 23 = .ok (.invokestatic 66, 3) := by decide +kernel
theorem dX1_loadRow_26 : decode cX1_loadRow 26 = .ok (.iload_n 2, 1) := by decide +kernel
theorem dX1_loadRow_27 : decode cX1_loadRow 27 = .ok (.if_icmp .ne 14, 3) := by decide +kernel
theorem dX1_loadRow_30 : decode cX1_loadRow 30 = .ok (.aload_n 0, 1) := by decide +kernel
theorem dX1_loadRow_31 : decode cX1_loadRow 31 = .ok (.iload_n 3, 1) := by decide +kernel
theorem dX1_loadRow_32 : decode cX1_loadRow 32 = .ok (.aload_n 1, 1) := by decide +kernel
theorem dX1_loadRow_33 : decode cX1_loadRow 33 = .ok (.iload 5, 2) := by decide +kernel
theorem dX1_loadRow_35 : decode cX1_loadRow 35 = .ok (.invokevirtual 71, 3) := by decide +kernel
theorem dX1_loadRow_38 : decode cX1_loadRow 38 = .ok (.invokevirtual 74, 3) := by decide +kernel
theorem dX1_loadRow_41 : decode cX1_loadRow 41 = .ok (.iinc 5 1, 3) := by decide +kernel
theorem dX1_loadRow_44 : decode cX1_loadRow 44 = .ok (.goto (-41), 3) := by decide +kernel
theorem dX1_loadRow_47 : decode cX1_loadRow 47 = .ok (.return_, 1) := by decide +kernel
theorem dX1_countSet_0 : decode cX1_countSet 0 = .ok (.iload_n 1, 1) := by decide +kernel
theorem dX1_countSet_1 : decode cX1_countSet 1 = .ok (.ifCond .lt 24, 3) := by decide +kernel
theorem dX1_countSet_4 : decode cX1_countSet 4 = .ok (.iload_n 1, 1) := by decide +kernel
theorem dX1_countSet_5 : decode cX1_countSet 5 = .ok (.aload_n 0, 1) := by decide +kernel
theorem dX1_countSet_6 : decode cX1_countSet 6 = .ok (.getfield 15, 3) := by decide +kernel
theorem dX1_countSet_9 : decode cX1_countSet 9 = .ok (.arraylength, 1) := by decide +kernel
theorem dX1_countSet_10 : decode cX1_countSet 10 = .ok (.if_icmp .ge 15, 3) := by decide +kernel
theorem dX1_countSet_13 : decode cX1_countSet 13 = .ok (.iload_n 2, 1) := by decide +kernel
theorem dX1_countSet_14 : decode cX1_countSet 14 = .ok (.ifCond .lt 11, 3) := by decide +kernel
theorem dX1_countSet_17 : decode cX1_countSet 17 = .ok (.iload_n 2, 1) := by decide +kernel
theorem dX1_countSet_18 : decode cX1_countSet 18 = .ok (.aload_n 0, 1) := by decide +kernel
theorem dX1_countSet_19 : decode cX1_countSet 19 = .ok (.getfield 46, 3) := by decide +kernel
theorem dX1_countSet_22 : decode cX1_countSet 22 = .ok (.if_icmp .lt 4, 3) := by decide +kernel
theorem dX1_countSet_25 : decode cX1_countSet 25 = .ok (.return_, 1) := by decide +kernel
theorem dX1_countSet_26 : decode cX1_countSet 26 = .ok (.iload_n 1, 1) := by decide +kernel
theorem dX1_countSet_27 : decode cX1_countSet 27 = .ok (.bipush 14, 2) := by decide +kernel
theorem dX1_countSet_29 : decode cX1_countSet 29 = .ok (.imul, 1) := by decide +kernel
theorem dX1_countSet_30 : decode cX1_countSet 30 = .ok (.iload_n 2, 1) := by decide +kernel
theorem dX1_countSet_31 : decode cX1_countSet 31 = .ok (.iadd, 1) := by decide +kernel
theorem dX1_countSet_32 : decode cX1_countSet 32 = .ok (.istore_n 3, 1) := by decide +kernel
theorem dX1_countSet_33 : decode cX1_countSet 33 = .ok (.iload_n 3, 1) := by decide +kernel
theorem dX1_countSet_34 : decode cX1_countSet 34 = .ok (.aload_n 0, 1) := by decide +kernel
theorem dX1_countSet_35 : decode cX1_countSet 35 = .ok (.getfield 9, 3) := by decide +kernel
theorem dX1_countSet_38 : decode cX1_countSet 38 = .ok (.arraylength, 1) := by decide +kernel
theorem dX1_countSet_39 : decode cX1_countSet 39 = .ok (.if_icmp .ge 13, 3) := by decide +kernel
theorem dX1_countSet_42 : decode cX1_countSet 42 = .ok (.aload_n 0, 1) := by decide +kernel
theorem dX1_countSet_43 : decode cX1_countSet 43 = .ok (.getfield 9, 3) := by decide +kernel
theorem dX1_countSet_46 : decode cX1_countSet 46 = .ok (.iload_n 3, 1) := by decide +kernel
theorem dX1_countSet_47 : decode cX1_countSet 47 = .ok (.dup2, 1) := by decide +kernel
theorem dX1_countSet_48 : decode cX1_countSet 48 = .ok (.iaload, 1) := by decide +kernel
theorem dX1_countSet_49 : decode cX1_countSet 49 = .ok (.iconst 1, 1) := by decide +kernel
theorem dX1_countSet_50 : decode cX1_countSet 50 = .ok (.iadd, 1) := by decide +kernel
theorem dX1_countSet_51 : decode cX1_countSet 51 = .ok (.iastore, 1) := by decide +kernel
theorem dX1_countSet_52 : decode cX1_countSet 52 = .ok (.aload_n 0, 1) := by decide +kernel
theorem dX1_countSet_53 : decode cX1_countSet 53 = .ok (.getfield 15, 3) := by decide +kernel
theorem dX1_countSet_56 : decode cX1_countSet 56 = .ok (.iload_n 1, 1) := by decide +kernel
theorem dX1_countSet_57 : decode cX1_countSet 57 = .ok (.dup2, 1) := by decide +kernel
theorem dX1_countSet_58 : decode cX1_countSet 58 = .ok (.iaload, 1) := by decide +kernel
theorem dX1_countSet_59 : decode cX1_countSet 59 = .ok (.iconst 1, 1) := by decide +kernel
theorem dX1_countSet_60 : decode cX1_countSet 60 = .ok (.iload_n 2, 1) := by decide +kernel
theorem dX1_countSet_61 : decode cX1_countSet 61 = .ok (.ishl, 1) := by decide +kernel
theorem dX1_countSet_62 : decode cX1_countSet 62 = .ok (.ior, 1) := by decide +kernel
theorem dX1_countSet_63 : decode cX1_countSet 63 = .ok (.iastore, 1) := by decide +kernel
theorem dX1_countSet_64 : decode cX1_countSet 64 = .ok (.return_, 1) := by decide +kernel
theorem dX1_numberAt_0 : decode cX1_numberAt 0 = .ok (.iload_n 1, 1) := by decide +kernel
theorem dX1_numberAt_1 : decode cX1_numberAt 1 = .ok (.bipush 14, 2) := by decide +kernel
theorem dX1_numberAt_3 : decode cX1_numberAt 3 = .ok (.imul, 1) := by decide +kernel
theorem dX1_numberAt_4 : decode cX1_numberAt 4 = .ok (.iload_n 2, 1) := by decide +kernel
theorem dX1_numberAt_5 : decode cX1_numberAt 5 = .ok (.iadd, 1) := by decide +kernel
theorem dX1_numberAt_6 : decode cX1_numberAt 6 = .ok (.istore_n 3, 1) := by decide +kernel
theorem dX1_numberAt_7 : decode cX1_numberAt 7 = .ok (.iload_n 3, 1) := by decide +kernel
theorem dX1_numberAt_8 : decode cX1_numberAt 8 = .ok (.ifCond .lt 21, 3) := by decide +kernel
theorem dX1_numberAt_11 : decode cX1_numberAt 11 = .ok (.iload_n 3, 1) := by decide +kernel
theorem dX1_numberAt_12 : decode cX1_numberAt 12 = .ok (.aload_n 0, 1) := by decide +kernel
theorem dX1_numberAt_13 : decode cX1_numberAt 13 = .ok (.getfield 9, 3) := by decide +kernel
theorem dX1_numberAt_16 : decode cX1_numberAt 16 = .ok (.arraylength, 1) := by decide +kernel
theorem dX1_numberAt_17 : decode cX1_numberAt 17 = .ok (.if_icmp .ge 12, 3) := by decide +kernel
theorem dX1_numberAt_20 : decode cX1_numberAt 20 = .ok (.aload_n 0, 1) := by decide +kernel
theorem dX1_numberAt_21 : decode cX1_numberAt 21 = .ok (.getfield 9, 3) := by decide +kernel
theorem dX1_numberAt_24 : decode cX1_numberAt 24 = .ok (.iload_n 3, 1) := by decide +kernel
theorem dX1_numberAt_25 : decode cX1_numberAt 25 = .ok (.iaload, 1) := by decide +kernel
theorem dX1_numberAt_26 : decode cX1_numberAt 26 = .ok (.goto 4, 3) := by decide +kernel
theorem dX1_numberAt_29 : decode cX1_numberAt 29 = .ok (.iconst 0, 1) := by decide +kernel
theorem dX1_numberAt_30 : decode cX1_numberAt 30 = .ok (.ireturn, 1) := by decide +kernel
theorem dX1_solve_0 : decode cX1_solve 0 = .ok (.aload_n 0, 1) := by decide +kernel
theorem dX1_solve_1 : decode cX1_solve 1 = .ok (.iload_n 2, 1) := by decide +kernel
theorem dX1_solve_2 : decode cX1_solve 2 = .ok (.putfield 78, 3) := by decide +kernel
theorem dX1_solve_5 : decode cX1_solve 5 = .ok (.aload_n 0, 1) := by decide +kernel
theorem dX1_solve_6 : decode cX1_solve 6 = .ok (.iconst 0, 1) := by decide +kernel
theorem dX1_solve_7 : decode cX1_solve 7 = .ok (.putfield 81, 3) := by decide +kernel
theorem dX1_solve_10 : decode cX1_solve 10 = .ok (.aload_n 0, 1) := by decide +kernel
theorem dX1_solve_11 : decode cX1_solve 11 = .ok (.bipush (-5), 2) := by decide +kernel
theorem dX1_solve_13 : decode cX1_solve 13 = .ok (.putfield 84, 3) := by decide +kernel
theorem dX1_solve_16 : decode cX1_solve 16 = .ok (.iconst 0, 1) := by decide +kernel
theorem dX1_solve_17 : decode cX1_solve 17 = .ok (.istore_n 3, 1) := by decide +kernel
theorem dX1_solve_18 : decode cX1_solve 18 = .ok (.iload_n 3, 1) := by decide +kernel
theorem dX1_solve_19 : decode cX1_solve 19 = .ok (.aload_n 0, 1) := by decide +kernel
theorem dX1_solve_20 : decode cX1_solve 20 = .ok (.getfield 42, 3) := by decide +kernel
theorem dX1_solve_23 : decode cX1_solve 23 = .ok (.if_icmp .ge 75, 3) := by decide +kernel
theorem dX1_solve_26 : decode cX1_solve 26 = .ok (.iload_n 3, 1) := by decide +kernel
theorem dX1_solve_27 : decode cX1_solve 27 = .ok (.aload_n 0, 1) := by decide +kernel
theorem dX1_solve_28 : decode cX1_solve 28 = .ok (.getfield 18, 3) := by decide +kernel
theorem dX1_solve_31 : decode cX1_solve 31 = .ok (.arraylength, 1) := by decide +kernel
theorem dX1_solve_32 : decode cX1_solve 32 = .ok (.if_icmp .ge 66, 3) := by decide +kernel
theorem dX1_solve_35 : decode cX1_solve 35 = .ok (.iload_n 3, 1) := by decide +kernel
theorem dX1_solve_36 : decode cX1_solve 36 = .ok (.aload_n 0, 1) := by decide +kernel
theorem dX1_solve_37 : decode cX1_solve 37 = .ok (.getfield 21, 3) := by decide +kernel
theorem dX1_solve_40 : decode cX1_solve 40 = .ok (.arraylength, 1) := by decide +kernel
theorem dX1_solve_41 : decode cX1_solve 41 = .ok (.if_icmp .ge 57, 3) := by decide +kernel
theorem dX1_solve_44 : decode cX1_solve 44 = .ok (.aload_n 0, 1) := by decide +kernel
theorem dX1_solve_45 : decode cX1_solve 45 = .ok (.getfield 18, 3) := by decide +kernel
theorem dX1_solve_48 : decode cX1_solve 48 = .ok (.iload_n 3, 1) := by decide +kernel
theorem dX1_solve_49 : decode cX1_solve 49 = .ok (.iload_n 1, 1) := by decide +kernel
theorem dX1_solve_50 : decode cX1_solve 50 = .ok (.iastore, 1) := by decide +kernel
theorem dX1_solve_51 : decode cX1_solve 51 = .ok (.aload_n 0, 1) := by decide +kernel
theorem dX1_solve_52 : decode cX1_solve 52 = .ok (.getfield 21, 3) := by decide +kernel
theorem dX1_solve_55 : decode cX1_solve 55 = .ok (.iload_n 3, 1) := by decide +kernel
theorem dX1_solve_56 : decode cX1_solve 56 = .ok (.iconst 0, 1) := by decide +kernel
theorem dX1_solve_57 : decode cX1_solve 57 = .ok (.iastore, 1) := by decide +kernel
theorem dX1_solve_58 : decode cX1_solve 58 = .ok (.iconst 0, 1) := by decide +kernel
theorem dX1_solve_59 : decode cX1_solve 59 = .ok (.istore 4, 2) := by decide +kernel
theorem dX1_solve_61 : decode cX1_solve 61 = .ok (.iload 4, 2) := by decide +kernel
theorem dX1_solve_63 : decode cX1_solve 63 = .ok (.aload_n 0, 1) := by decide +kernel
theorem dX1_solve_64 : decode cX1_solve 64 = .ok (.getfield 46, 3) := by decide +kernel
theorem dX1_solve_67 : decode cX1_solve 67 = .ok (.if_icmp .ge 25, 3) := by decide +kernel
theorem dX1_solve_70 : decode cX1_solve 70 = .ok (.aload_n 0, 1) := by decide +kernel
theorem dX1_solve_71 : decode cX1_solve 71 = .ok (.getfield 21, 3) := by decide +kernel
theorem dX1_solve_74 : decode cX1_solve 74 = .ok (.iload_n 3, 1) := by decide +kernel
theorem dX1_solve_75 : decode cX1_solve 75 = .ok (.dup2, 1) := by decide +kernel
theorem dX1_solve_76 : decode cX1_solve 76 = .ok (.iaload, 1) := by decide +kernel
theorem dX1_solve_77 : decode cX1_solve 77 = .ok (.aload_n 0, 1) := by decide +kernel
theorem dX1_solve_78 : decode cX1_solve 78 = .ok (.iload_n 3, 1) := by decide +kernel
theorem dX1_solve_79 : decode cX1_solve 79 = .ok (.iload 4, 2) := by decide +kernel
theorem dX1_solve_81 : decode cX1_solve 81 = .ok (.invokevirtual 87, 3) := by decide +kernel
theorem dX1_solve_84 : decode cX1_solve 84 = .ok (.iadd, 1) := by decide +kernel
theorem dX1_solve_85 : decode cX1_solve 85 = .ok (.iastore, 1) := by decide +kernel
theorem dX1_solve_86 : decode cX1_solve 86 = .ok (.iinc 4 1, 3) := by decide +kernel
theorem dX1_solve_89 : decode cX1_solve 89 = .ok (.goto (-28), 3) := by decide +kernel
theorem dX1_solve_92 : decode cX1_solve 92 = .ok (.iinc 3 1, 3) := by decide +kernel
theorem dX1_solve_95 : decode cX1_solve 95 = .ok (.goto (-77), 3) := by decide +kernel
theorem dX1_solve_98 : decode cX1_solve 98 = .ok (.aload_n 0, 1) := by decide +kernel
theorem dX1_solve_99 : decode cX1_solve 99 = .ok (.aload_n 0, 1) := by decide +kernel
theorem dX1_solve_100 : decode cX1_solve 100 = .ok (.getfield 46, 3) := by decide +kernel
theorem dX1_solve_103 : decode cX1_solve 103 = .ok (.iconst 1, 1) := by decide +kernel
theorem dX1_solve_104 : decode cX1_solve 104 = .ok (.isub, 1) := by decide +kernel
theorem dX1_solve_105 : decode cX1_solve 105 = .ok (.iconst 0, 1) := by decide +kernel
theorem dX1_solve_106 : decode cX1_solve 106 = .ok (.invokevirtual 90, 3) := by decide +kernel
theorem dX1_solve_109 : decode cX1_solve 109 = .ok (.return_, 1) := by decide +kernel
theorem dX1_searchSolutions_0 : decode cX1_searchSolutions 0 = .ok (.iload_n 1, 1) := by decide +kernel
theorem dX1_searchSolutions_1 : decode cX1_searchSolutions 1 = .ok (.bipush 14, 2) := by decide +kernel
theorem dX1_searchSolutions_3 : decode cX1_searchSolutions 3 = .ok (.if_icmp .lt 4, 3) := by decide +kernel
theorem dX1_searchSolutions_6 : decode cX1_searchSolutions 6 = .ok (.return_, 1) := by decide +kernel
theorem dX1_searchSolutions_7 : decode cX1_searchSolutions 7 = .ok (.iload_n 1, 1) := by decide +kernel
theorem dX1_searchSolutions_8 : decode cX1_searchSolutions 8 = .ok (.ifCond .ge 9, 3) := by decide +kernel
theorem dX1_searchSolutions_11 : decode cX1_searchSolutions 11 = .ok (.aload_n 0, 1) := by decide +kernel
theorem dX1_searchSolutions_12 : decode cX1_searchSolutions 12 = .ok (.iload_n 2, 1) := by decide +kernel
theorem dX1_searchSolutions_13 : decode cX1_searchSolutions 13 = .ok (.invokevirtual 93, 3) := by decide +kernel
theorem dX1_searchSolutions_16 : decode cX1_searchSolutions 16 = .ok (.return_, 1) := by decide +kernel
theorem dX1_searchSolutions_17 : decode cX1_searchSolutions 17 = .ok (.aload_n 0, 1) := by decide +kernel
theorem dX1_searchSolutions_18 : decode cX1_searchSolutions 18 = .ok (.iload_n 1, 1) := by decide +kernel
theorem dX1_searchSolutions_19 : decode cX1_searchSolutions 19 = .ok (.iconst 0, 1) := by decide +kernel
theorem dX1_searchSolutions_20 : decode cX1_searchSolutions 20 = .ok (.iconst (-1), 1) := by decide +kernel
theorem dX1_searchSolutions_21 : decode cX1_searchSolutions 21 = .ok (.invokevirtual 97, 3) := by decide +kernel
theorem dX1_searchSolutions_24 : decode cX1_searchSolutions 24 = .ok (.aload_n 0, 1) := by decide +kernel
theorem dX1_searchSolutions_25 : decode cX1_searchSolutions 25 = .ok (.invokevirtual 101, 3) := by decide +kernel
theorem dX1_searchSolutions_28 : decode cX1_searchSolutions 28 = .ok (.ifCond .eq 11, 3) := by decide +kernel
theorem dX1_searchSolutions_31 : decode cX1_searchSolutions 31 = .ok (.aload_n 0, 1) := by decide +kernel
theorem dX1_searchSolutions_32 : decode cX1_searchSolutions 32 = .ok (.iload_n 1, 1) := by decide +kernel
theorem dX1_searchSolutions_33 : decode cX1_searchSolutions 33 = .ok (.iconst 1, 1) := by decide +kernel
theorem dX1_searchSolutions_34 : decode cX1_searchSolutions 34 = .ok (.isub, 1) := by decide +kernel
theorem dX1_searchSolutions_35 : decode cX1_searchSolutions 35 = .ok (.iload_n 2, 1) := by decide +kernel
theorem dX1_searchSolutions_36 : decode cX1_searchSolutions 36 = .ok (.invokevirtual 90, 3) := by decide +kernel
theorem dX1_searchSolutions_39 : decode cX1_searchSolutions 39 = .ok (.aload_n 0, 1) := by decide +kernel
theorem dX1_searchSolutions_40 : decode cX1_searchSolutions 40 = .ok (.iload_n 1, 1) := by decide +kernel
theorem dX1_searchSolutions_41 : decode cX1_searchSolutions 41 = .ok (.iconst (-1), 1) := by decide +kernel
theorem dX1_searchSolutions_42 : decode cX1_searchSolutions 42 = .ok (.iconst 0, 1) := by decide +kernel
theorem dX1_searchSolutions_43 : decode cX1_searchSolutions 43 = .ok (.invokevirtual 97, 3) := by decide +kernel
theorem dX1_searchSolutions_46 : decode cX1_searchSolutions 46 = .ok (.aload_n 0, 1) := by decide +kernel
theorem dX1_searchSolutions_47 : decode cX1_searchSolutions 47 = .ok (.invokevirtual 101, 3) := by decide +kernel
theorem dX1_searchSolutions_50 : decode cX1_searchSolutions 50 = .ok (.ifCond .eq 15, 3) := by decide +kernel
theorem dX1_searchSolutions_53 : decode cX1_searchSolutions 53 = .ok (.aload_n 0, 1) := by decide +kernel
theorem dX1_searchSolutions_54 : decode cX1_searchSolutions 54 = .ok (.iload_n 1, 1) := by decide +kernel
theorem dX1_searchSolutions_55 : decode cX1_searchSolutions 55 = .ok (.iconst 1, 1) := by decide +kernel
theorem dX1_searchSolutions_56 : decode cX1_searchSolutions 56 = .ok (.isub, 1) := by decide +kernel
theorem dX1_searchSolutions_57 : decode cX1_searchSolutions 57 = .ok (.iload_n 2, 1) := by decide +kernel
theorem dX1_searchSolutions_58 : decode cX1_searchSolutions 58 = .ok (.iconst 1, 1) := by decide +kernel
theorem dX1_searchSolutions_59 : decode cX1_searchSolutions 59 = .ok (.iload_n 1, 1) := by decide +kernel
theorem dX1_searchSolutions_60 : decode cX1_searchSolutions 60 = .ok (.ishl, 1) := by decide +kernel
theorem dX1_searchSolutions_61 : decode cX1_searchSolutions 61 = .ok (.ior, 1) := by decide +kernel
theorem dX1_searchSolutions_62 : decode cX1_searchSolutions 62 = .ok (.invokevirtual 90, 3) := by decide +kernel
theorem dX1_searchSolutions_65 : decode cX1_searchSolutions 65 = .ok (.aload_n 0, 1) := by decide +kernel
theorem dX1_searchSolutions_66 : decode cX1_searchSolutions 66 = .ok (.iload_n 1, 1) := by decide +kernel
theorem dX1_searchSolutions_67 : decode cX1_searchSolutions 67 = .ok (.iconst 1, 1) := by decide +kernel
theorem dX1_searchSolutions_68 : decode cX1_searchSolutions 68 = .ok (.iconst 1, 1) := by decide +kernel
theorem dX1_searchSolutions_69 : decode cX1_searchSolutions 69 = .ok (.invokevirtual 97, 3) := by decide +kernel
theorem dX1_searchSolutions_72 : decode cX1_searchSolutions 72 = .ok (.return_, 1) := by decide +kernel
theorem dX1_change_0 : decode cX1_change 0 = .ok (.iconst 0, 1) := by decide +kernel
theorem dX1_change_1 : decode cX1_change 1 = .ok (.istore 4, 2) := by decide +kernel
theorem dX1_change_3 : decode cX1_change 3 = .ok (.iload 4, 2) := by decide +kernel
theorem dX1_change_5 : decode cX1_change 5 = .ok (.aload_n 0, 1) := by decide +kernel
theorem dX1_change_6 : decode cX1_change 6 = .ok (.getfield 42, 3) := by decide +kernel
theorem dX1_change_9 : decode cX1_change 9 = .ok (.if_icmp .ge 66, 3) := by decide +kernel
theorem dX1_change_12 : decode cX1_change 12 = .ok (.iload 4, 2) := by decide +kernel
theorem dX1_change_14 : decode cX1_change 14 = .ok (.aload_n 0, 1) := by decide +kernel
theorem dX1_change_15 : decode cX1_change 15 = .ok (.getfield 18, 3) := by decide +kernel
theorem dX1_change_18 : decode cX1_change 18 = .ok (.arraylength, 1) := by decide +kernel
theorem dX1_change_19 : decode cX1_change 19 = .ok (.if_icmp .ge 56, 3) := by decide +kernel
theorem dX1_change_22 : decode cX1_change 22 = .ok (.iload 4, 2) := by decide +kernel
theorem dX1_change_24 : decode cX1_change 24 = .ok (.aload_n 0, 1) := by decide +kernel
theorem dX1_change_25 : decode cX1_change 25 = .ok (.getfield 21, 3) := by decide +kernel
theorem dX1_change_28 : decode cX1_change 28 = .ok (.arraylength, 1) := by decide +kernel
theorem dX1_change_29 : decode cX1_change 29 = .ok (.if_icmp .ge 46, 3) := by decide +kernel
theorem dX1_change_32 : decode cX1_change 32 = .ok (.aload_n 0, 1) := by decide +kernel
theorem dX1_change_33 : decode cX1_change 33 = .ok (.iload 4, 2) := by decide +kernel
theorem dX1_change_35 : decode cX1_change 35 = .ok (.iload_n 1, 1) := by decide +kernel
theorem dX1_change_36 : decode cX1_change 36 = .ok (.invokevirtual 87, 3) := by decide +kernel
theorem dX1_change_39 : decode cX1_change 39 = .ok (.istore 5, 2) := by decide +kernel
theorem dX1_change_41 : decode cX1_change 41 = .ok (.aload_n 0, 1) := by decide +kernel
theorem dX1_change_42 : decode cX1_change 42 = .ok (.getfield 18, 3) := by decide +kernel
theorem dX1_change_45 : decode cX1_change 45 = .ok (.iload 4, 2) := by decide +kernel
theorem dX1_change_47 : decode cX1_change 47 = .ok (.dup2, 1) := by decide +kernel
theorem dX1_change_48 : decode cX1_change 48 = .ok (.iaload, 1) := by decide +kernel
theorem dX1_change_49 : decode cX1_change 49 = .ok (.iload_n 2, 1) := by decide +kernel
theorem dX1_change_50 : decode cX1_change 50 = .ok (.iload 5, 2) := by decide +kernel
theorem dX1_change_52 : decode cX1_change 52 = .ok (.imul, 1) := by decide +kernel
theorem dX1_change_53 : decode cX1_change 53 = .ok (.iadd, 1) := by decide +kernel
theorem dX1_change_54 : decode cX1_change 54 = .ok (.iastore, 1) := by decide +kernel
theorem dX1_change_55 : decode cX1_change 55 = .ok (.aload_n 0, 1) := by decide +kernel
theorem dX1_change_56 : decode cX1_change 56 = .ok (.getfield 21, 3) := by decide +kernel
theorem dX1_change_59 : decode cX1_change 59 = .ok (.iload 4, 2) := by decide +kernel
theorem dX1_change_61 : decode cX1_change 61 = .ok (.dup2, 1) := by decide +kernel
theorem dX1_change_62 : decode cX1_change 62 = .ok (.iaload, 1) := by decide +kernel
theorem dX1_change_63 : decode cX1_change 63 = .ok (.iload_n 3, 1) := by decide +kernel
theorem dX1_change_64 : decode cX1_change 64 = .ok (.iload 5, 2) := by decide +kernel
theorem dX1_change_66 : decode cX1_change 66 = .ok (.imul, 1) := by decide +kernel
theorem dX1_change_67 : decode cX1_change 67 = .ok (.iadd, 1) := by decide +kernel
theorem dX1_change_68 : decode cX1_change 68 = .ok (.iastore, 1) := by decide +kernel
theorem dX1_change_69 : decode cX1_change 69 = .ok (.iinc 4 1, 3) := by decide +kernel
theorem dX1_change_72 : decode cX1_change 72 = .ok (.goto (-69), 3) := by decide +kernel
theorem dX1_change_75 : decode cX1_change 75 = .ok (.return_, 1) := by decide +kernel
theorem dX1_canSolve_0 : decode cX1_canSolve 0 = .ok (.iconst 0, 1) := by decide +kernel
theorem dX1_canSolve_1 : decode cX1_canSolve 1 = .ok (.istore_n 1, 1) := by decide +kernel
theorem dX1_canSolve_2 : decode cX1_canSolve 2 = .ok (.iload_n 1, 1) := by decide +kernel
theorem dX1_canSolve_3 : decode cX1_canSolve 3 = .ok (.aload_n 0, 1) := by decide +kernel
theorem dX1_canSolve_4 : decode cX1_canSolve 4 = .ok (.getfield 42, 3) := by decide +kernel
theorem dX1_canSolve_7 : decode cX1_canSolve 7 = .ok (.if_icmp .ge 53, 3) := by decide +kernel
theorem dX1_canSolve_10 : decode cX1_canSolve 10 = .ok (.iload_n 1, 1) := by decide +kernel
theorem dX1_canSolve_11 : decode cX1_canSolve 11 = .ok (.aload_n 0, 1) := by decide +kernel
theorem dX1_canSolve_12 : decode cX1_canSolve 12 = .ok (.getfield 18, 3) := by decide +kernel
theorem dX1_canSolve_15 : decode cX1_canSolve 15 = .ok (.arraylength, 1) := by decide +kernel
theorem dX1_canSolve_16 : decode cX1_canSolve 16 = .ok (.if_icmp .ge 44, 3) := by decide +kernel
theorem dX1_canSolve_19 : decode cX1_canSolve 19 = .ok (.iload_n 1, 1) := by decide +kernel
theorem dX1_canSolve_20 : decode cX1_canSolve 20 = .ok (.aload_n 0, 1) := by decide +kernel
theorem dX1_canSolve_21 : decode cX1_canSolve 21 = .ok (.getfield 21, 3) := by decide +kernel
theorem dX1_canSolve_24 : decode cX1_canSolve 24 = .ok (.arraylength, 1) := by decide +kernel
theorem dX1_canSolve_25 : decode cX1_canSolve 25 = .ok (.if_icmp .ge 35, 3) := by decide +kernel
theorem dX1_canSolve_28 : decode cX1_canSolve 28 = .ok (.aload_n 0, 1) := by decide +kernel
theorem dX1_canSolve_29 : decode cX1_canSolve 29 = .ok (.getfield 18, 3) := by decide +kernel
theorem dX1_canSolve_32 : decode cX1_canSolve 32 = .ok (.iload_n 1, 1) := by decide +kernel
theorem dX1_canSolve_33 : decode cX1_canSolve 33 = .ok (.iaload, 1) := by decide +kernel
theorem dX1_canSolve_34 : decode cX1_canSolve 34 = .ok (.ifCond .lt 18, 3) := by decide +kernel
theorem dX1_canSolve_37 : decode cX1_canSolve 37 = .ok (.aload_n 0, 1) := by decide +kernel
theorem dX1_canSolve_38 : decode cX1_canSolve 38 = .ok (.getfield 18, 3) := by decide +kernel
theorem dX1_canSolve_41 : decode cX1_canSolve 41 = .ok (.iload_n 1, 1) := by decide +kernel
theorem dX1_canSolve_42 : decode cX1_canSolve 42 = .ok (.iaload, 1) := by decide +kernel
theorem dX1_canSolve_43 : decode cX1_canSolve 43 = .ok (.aload_n 0, 1) := by decide +kernel
theorem dX1_canSolve_44 : decode cX1_canSolve 44 = .ok (.getfield 21, 3) := by decide +kernel
theorem dX1_canSolve_47 : decode cX1_canSolve 47 = .ok (.iload_n 1, 1) := by decide +kernel
theorem dX1_canSolve_48 : decode cX1_canSolve 48 = .ok (.iaload, 1) := by decide +kernel
theorem dX1_canSolve_49 : decode cX1_canSolve 49 = .ok (.if_icmp .le 5, 3) := by decide +kernel
theorem dX1_canSolve_52 : decode cX1_canSolve 52 = .ok (.iconst 0, 1) := by decide +kernel
theorem dX1_canSolve_53 : decode cX1_canSolve 53 = .ok (.ireturn, 1) := by decide +kernel
theorem dX1_canSolve_54 : decode cX1_canSolve 54 = .ok (.iinc 1 1, 3) := by decide +kernel
theorem dX1_canSolve_57 : decode cX1_canSolve 57 = .ok (.goto (-55), 3) := by decide +kernel
theorem dX1_canSolve_60 : decode cX1_canSolve 60 = .ok (.iconst 1, 1) := by decide +kernel
theorem dX1_canSolve_61 : decode cX1_canSolve 61 = .ok (.ireturn, 1) := by decide +kernel
theorem dX1_noteSolution_0 : decode cX1_noteSolution 0 = .ok (.aload_n 0, 1) := by decide +kernel
theorem dX1_noteSolution_1 : decode cX1_noteSolution 1 = .ok (.getfield 81, 3) := by decide +kernel
theorem dX1_noteSolution_4 : decode cX1_noteSolution 4 = .ok (.aload_n 0, 1) := by decide +kernel
theorem dX1_noteSolution_5 : decode cX1_noteSolution 5 = .ok (.getfield 78, 3) := by decide +kernel
theorem dX1_noteSolution_8 : decode cX1_noteSolution 8 = .ok (.if_icmp .ne 8, 3) := by decide +kernel
theorem dX1_noteSolution_11 : decode cX1_noteSolution 11 = .ok (.aload_n 0, 1) := by decide +kernel
theorem dX1_noteSolution_12 : decode cX1_noteSolution 12 = .ok (.iload_n 1, 1) := by decide +kernel
theorem dX1_noteSolution_13 : decode cX1_noteSolution 13 = .ok (.putfield 84, 3) := by decide +kernel
theorem dX1_noteSolution_16 : decode cX1_noteSolution 16 = .ok (.aload_n 0, 1) := by decide +kernel
theorem dX1_noteSolution_17 : decode cX1_noteSolution 17 = .ok (.getfield 81, 3) := by decide +kernel
theorem dX1_noteSolution_20 : decode cX1_noteSolution 20 = .ok (.ifCond .lt 25, 3) := by decide +kernel
theorem dX1_noteSolution_23 : decode cX1_noteSolution 23 = .ok (.aload_n 0, 1) := by decide +kernel
theorem dX1_noteSolution_24 : decode cX1_noteSolution 24 = .ok (.getfield 81, 3) := by decide +kernel
theorem dX1_noteSolution_27 : decode cX1_noteSolution 27 = .ok (.aload_n 0, 1) := by decide +kernel
theorem dX1_noteSolution_28 : decode cX1_noteSolution 28 = .ok (.getfield 27, 3) := by decide +kernel
theorem dX1_noteSolution_31 : decode cX1_noteSolution 31 = .ok (.arraylength, 1) := by decide +kernel
theorem dX1_noteSolution_32 : decode cX1_noteSolution 32 = .ok (.if_icmp .ge 13, 3) := by decide +kernel
theorem dX1_noteSolution_35 : decode cX1_noteSolution 35 = .ok (.aload_n 0, 1) := by decide +kernel
theorem dX1_noteSolution_36 : decode cX1_noteSolution 36 = .ok (.getfield 27, 3) := by decide +kernel
theorem dX1_noteSolution_39 : decode cX1_noteSolution 39 = .ok (.aload_n 0, 1) := by decide +kernel
theorem dX1_noteSolution_40 : decode cX1_noteSolution 40 = .ok (.getfield 81, 3) := by decide +kernel
theorem dX1_noteSolution_43 : decode cX1_noteSolution 43 = .ok (.iload_n 1, 1) := by decide +kernel
theorem dX1_noteSolution_44 : decode cX1_noteSolution 44 = .ok (.iastore, 1) := by decide +kernel
theorem dX1_noteSolution_45 : decode cX1_noteSolution 45 = .ok (.aload_n 0, 1) := by decide +kernel
theorem dX1_noteSolution_46 : decode cX1_noteSolution 46 = .ok (.dup, 1) := by decide +kernel
theorem dX1_noteSolution_47 : decode cX1_noteSolution 47 = .ok (.getfield 81, 3) := by decide +kernel
theorem dX1_noteSolution_50 : decode cX1_noteSolution 50 = .ok (.iconst 1, 1) := by decide +kernel
theorem dX1_noteSolution_51 : decode cX1_noteSolution 51 = .ok (.iadd, 1) := by decide +kernel
theorem dX1_noteSolution_52 : decode cX1_noteSolution 52 = .ok (.putfield 81, 3) := by decide +kernel
theorem dX1_noteSolution_55 : decode cX1_noteSolution 55 = .ok (.return_, 1) := by decide +kernel
theorem dX1_earlySolution_0 : decode cX1_earlySolution 0 = .ok (.iload_n 1, 1) := by decide +kernel
theorem dX1_earlySolution_1 : decode cX1_earlySolution 1 = .ok (.ifCond .lt 21, 3) := by decide +kernel
theorem dX1_earlySolution_4 : decode cX1_earlySolution 4 = .ok (.iload_n 1, 1) := by decide +kernel
theorem dX1_earlySolution_5 : decode cX1_earlySolution 5 = .ok (.aload_n 0, 1) := by decide +kernel
theorem dX1_earlySolution_6 : decode cX1_earlySolution 6 = .ok (.getfield 27, 3) := by decide +kernel
theorem dX1_earlySolution_9 : decode cX1_earlySolution 9 = .ok (.arraylength, 1) := by decide +kernel
theorem dX1_earlySolution_10 : decode cX1_earlySolution 10 = .ok (.if_icmp .ge 12, 3) := by decide +kernel
theorem dX1_earlySolution_13 : decode cX1_earlySolution 13 = .ok (.aload_n 0, 1) := by decide +kernel
theorem dX1_earlySolution_14 : decode cX1_earlySolution 14 = .ok (.getfield 27, 3) := by decide +kernel
theorem dX1_earlySolution_17 : decode cX1_earlySolution 17 = .ok (.iload_n 1, 1) := by decide +kernel
theorem dX1_earlySolution_18 : decode cX1_earlySolution 18 = .ok (.iaload, 1) := by decide +kernel
theorem dX1_earlySolution_19 : decode cX1_earlySolution 19 = .ok (.goto 4, 3) := by decide +kernel
theorem dX1_earlySolution_22 : decode cX1_earlySolution 22 = .ok (.iconst 0, 1) := by decide +kernel
theorem dX1_earlySolution_23 : decode cX1_earlySolution 23 = .ok (.ireturn, 1) := by decide +kernel
theorem dX1_findFewest_0 : decode cX1_findFewest 0 = .ok (.aload_n 0, 1) := by decide +kernel
theorem dX1_findFewest_1 : decode cX1_findFewest 1 = .ok (.ldc 105, 2) := by decide +kernel
theorem dX1_findFewest_3 : decode cX1_findFewest 3 = .ok (.putfield 106, 3) := by decide +kernel
theorem dX1_findFewest_6 : decode cX1_findFewest 6 = .ok (.aload_n 0, 1) := by decide +kernel
theorem dX1_findFewest_7 : decode cX1_findFewest 7 = .ok (.bipush (-5), 2) := by decide +kernel
theorem dX1_findFewest_9 : decode cX1_findFewest 9 = .ok (.putfield 84, 3) := by decide +kernel
theorem dX1_findFewest_12 : decode cX1_findFewest 12 = .ok (.aload_n 0, 1) := by decide +kernel
theorem dX1_findFewest_13 : decode cX1_findFewest 13 = .ok (.aload_n 0, 1) := by decide +kernel
theorem dX1_findFewest_14 : decode cX1_findFewest 14 = .ok (.getfield 46, 3) := by decide +kernel
theorem dX1_findFewest_17 : decode cX1_findFewest 17 = .ok (.iconst 1, 1) := by decide +kernel
theorem dX1_findFewest_18 : decode cX1_findFewest 18 = .ok (.isub, 1) := by decide +kernel
theorem dX1_findFewest_19 : decode cX1_findFewest 19 = .ok (.iconst 0, 1) := by decide +kernel
theorem dX1_findFewest_20 : decode cX1_findFewest 20 = .ok (.iconst 0, 1) := by decide +kernel
theorem dX1_findFewest_21 : decode cX1_findFewest 21 = .ok (.invokevirtual 109, 3) := by decide +kernel
theorem dX1_findFewest_24 : decode cX1_findFewest 24 = .ok (.return_, 1) := by decide +kernel
theorem dX1_searchCovers_0 : decode cX1_searchCovers 0 = .ok (.iload_n 1, 1) := by decide +kernel
theorem dX1_searchCovers_1 : decode cX1_searchCovers 1 = .ok (.bipush 14, 2) := by decide +kernel
theorem dX1_searchCovers_3 : decode cX1_searchCovers 3 = .ok (.if_icmp .ge 11, 3) := by decide +kernel
theorem dX1_searchCovers_6 : decode cX1_searchCovers 6 = .ok (.iload_n 3, 1) := by decide +kernel
theorem dX1_searchCovers_7 : decode cX1_searchCovers 7 = .ok (.aload_n 0, 1) := by decide +kernel
theorem dX1_searchCovers_8 : decode cX1_searchCovers 8 = .ok (.getfield 106, 3) := by decide +kernel
theorem dX1_searchCovers_11 : decode cX1_searchCovers 11 = .ok (.if_icmp .lt 4, 3) := by decide +kernel
theorem dX1_searchCovers_14 : decode cX1_searchCovers 14 = .ok (.return_, 1) := by decide +kernel
theorem dX1_searchCovers_15 : decode cX1_searchCovers 15 = .ok (.aload_n 0, 1) := by decide +kernel
theorem dX1_searchCovers_16 : decode cX1_searchCovers 16 = .ok (.iload_n 2, 1) := by decide +kernel
theorem dX1_searchCovers_17 : decode cX1_searchCovers 17 = .ok (.iconst 1, 1) := by decide +kernel
theorem dX1_searchCovers_18 : decode cX1_searchCovers 18 = .ok (.iload_n 1, 1) := by decide +kernel
theorem dX1_searchCovers_19 : decode cX1_searchCovers 19 = .ok (.iconst 1, 1) := by decide +kernel
theorem dX1_searchCovers_20 : decode cX1_searchCovers 20 = .ok (.iadd, 1) := by decide +kernel
theorem dX1_searchCovers_21 : decode cX1_searchCovers 21 = .ok (.ishl, 1) := by decide +kernel
theorem dX1_searchCovers_22 : decode cX1_searchCovers 22 = .ok (.iconst 1, 1) := by decide +kernel
theorem dX1_searchCovers_23 : decode cX1_searchCovers 23 = .ok (.isub, 1) := by decide +kernel
theorem dX1_searchCovers_24 : decode cX1_searchCovers 24 = .ok (.ior, 1) := by decide +kernel
theorem dX1_searchCovers_25 : decode cX1_searchCovers 25 = .ok (.invokevirtual 112, 3) := by decide +kernel
theorem dX1_searchCovers_28 : decode cX1_searchCovers 28 = .ok (.ifCond .ne 4, 3) := by decide +kernel
theorem dX1_searchCovers_31 : decode cX1_searchCovers 31 = .ok (.return_, 1) := by decide +kernel
theorem dX1_searchCovers_32 : decode cX1_searchCovers 32 = .ok (.iload_n 1, 1) := by decide +kernel
theorem dX1_searchCovers_33 : decode cX1_searchCovers 33 = .ok (.ifCond .lt 12, 3) := by decide +kernel
theorem dX1_searchCovers_36 : decode cX1_searchCovers 36 = .ok (.iload_n 1, 1) := by decide +kernel
theorem dX1_searchCovers_37 : decode cX1_searchCovers 37 = .ok (.aload_n 0, 1) := by decide +kernel
theorem dX1_searchCovers_38 : decode cX1_searchCovers 38 = .ok (.getfield 24, 3) := by decide +kernel
theorem dX1_searchCovers_41 : decode cX1_searchCovers 41 = .ok (.arraylength, 1) := by decide +kernel
theorem dX1_searchCovers_42 : decode cX1_searchCovers 42 = .ok (.if_icmp .lt 14, 3) := by decide +kernel
theorem dX1_searchCovers_45 : decode cX1_searchCovers 45 = .ok (.aload_n 0, 1) := by decide +kernel
theorem dX1_searchCovers_46 : decode cX1_searchCovers 46 = .ok (.iload_n 3, 1) := by decide +kernel
theorem dX1_searchCovers_47 : decode cX1_searchCovers 47 = .ok (.putfield 106, 3) := by decide +kernel
theorem dX1_searchCovers_50 : decode cX1_searchCovers 50 = .ok (.aload_n 0, 1) := by decide +kernel
theorem dX1_searchCovers_51 : decode cX1_searchCovers 51 = .ok (.iload_n 2, 1) := by decide +kernel
theorem dX1_searchCovers_52 : decode cX1_searchCovers 52 = .ok (.putfield 84, 3) := by decide +kernel
theorem dX1_searchCovers_55 : decode cX1_searchCovers 55 = .ok (.return_, 1) := by decide +kernel
theorem dX1_searchCovers_56 : decode cX1_searchCovers 56 = .ok (.aload_n 0, 1) := by decide +kernel
theorem dX1_searchCovers_57 : decode cX1_searchCovers 57 = .ok (.iload_n 1, 1) := by decide +kernel
theorem dX1_searchCovers_58 : decode cX1_searchCovers 58 = .ok (.iconst 1, 1) := by decide +kernel
theorem dX1_searchCovers_59 : decode cX1_searchCovers 59 = .ok (.isub, 1) := by decide +kernel
theorem dX1_searchCovers_60 : decode cX1_searchCovers 60 = .ok (.iload_n 2, 1) := by decide +kernel
theorem dX1_searchCovers_61 : decode cX1_searchCovers 61 = .ok (.iload_n 3, 1) := by decide +kernel
theorem dX1_searchCovers_62 : decode cX1_searchCovers 62 = .ok (.invokevirtual 109, 3) := by decide +kernel
theorem dX1_searchCovers_65 : decode cX1_searchCovers 65 = .ok (.aload_n 0, 1) := by decide +kernel
theorem dX1_searchCovers_66 : decode cX1_searchCovers 66 = .ok (.iload_n 1, 1) := by decide +kernel
theorem dX1_searchCovers_67 : decode cX1_searchCovers 67 = .ok (.iconst 1, 1) := by decide +kernel
theorem dX1_searchCovers_68 : decode cX1_searchCovers 68 = .ok (.isub, 1) := by decide +kernel
theorem dX1_searchCovers_69 : decode cX1_searchCovers 69 = .ok (.iload_n 2, 1) := by decide +kernel
theorem dX1_searchCovers_70 : decode cX1_searchCovers 70 = .ok (.iconst 1, 1) := by decide +kernel
theorem dX1_searchCovers_71 : decode cX1_searchCovers 71 = .ok (.iload_n 1, 1) := by decide +kernel
theorem dX1_searchCovers_72 : decode cX1_searchCovers 72 = .ok (.ishl, 1) := by decide +kernel
theorem dX1_searchCovers_73 : decode cX1_searchCovers 73 = .ok (.ior, 1) := by decide +kernel
theorem dX1_searchCovers_74 : decode cX1_searchCovers 74 = .ok (.iload_n 3, 1) := by decide +kernel
theorem dX1_searchCovers_75 : decode cX1_searchCovers 75 = .ok (.aload_n 0, 1) := by decide +kernel
theorem dX1_searchCovers_76 : decode cX1_searchCovers 76 = .ok (.getfield 24, 3) := by decide +kernel
theorem dX1_searchCovers_79 : decode cX1_searchCovers 79 = .ok (.iload_n 1, 1) := by decide +kernel
theorem dX1_searchCovers_80 : decode cX1_searchCovers 80 = .ok (.iaload, 1) := by decide +kernel
theorem dX1_searchCovers_81 : decode cX1_searchCovers 81 = .ok (.iadd, 1) := by decide +kernel
theorem dX1_searchCovers_82 : decode cX1_searchCovers 82 = .ok (.invokevirtual 109, 3) := by decide +kernel
theorem dX1_searchCovers_85 : decode cX1_searchCovers 85 = .ok (.return_, 1) := by decide +kernel
theorem dX1_covers_0 : decode cX1_covers 0 = .ok (.iconst 0, 1) := by decide +kernel
theorem dX1_covers_1 : decode cX1_covers 1 = .ok (.istore_n 2, 1) := by decide +kernel
theorem dX1_covers_2 : decode cX1_covers 2 = .ok (.iload_n 2, 1) := by decide +kernel
theorem dX1_covers_3 : decode cX1_covers 3 = .ok (.aload_n 0, 1) := by decide +kernel
theorem dX1_covers_4 : decode cX1_covers 4 = .ok (.getfield 42, 3) := by decide +kernel
theorem dX1_covers_7 : decode cX1_covers 7 = .ok (.if_icmp .ge 31, 3) := by decide +kernel
theorem dX1_covers_10 : decode cX1_covers 10 = .ok (.iload_n 2, 1) := by decide +kernel
theorem dX1_covers_11 : decode cX1_covers 11 = .ok (.aload_n 0, 1) := by decide +kernel
theorem dX1_covers_12 : decode cX1_covers 12 = .ok (.getfield 15, 3) := by decide +kernel
theorem dX1_covers_15 : decode cX1_covers 15 = .ok (.arraylength, 1) := by decide +kernel
theorem dX1_covers_16 : decode cX1_covers 16 = .ok (.if_icmp .ge 22, 3) := by decide +kernel
theorem dX1_covers_19 : decode cX1_covers 19 = .ok (.iload_n 1, 1) := by decide +kernel
theorem dX1_covers_20 : decode cX1_covers 20 = .ok (.aload_n 0, 1) := by decide +kernel
theorem dX1_covers_21 : decode cX1_covers 21 = .ok (.getfield 15, 3) := by decide +kernel
theorem dX1_covers_24 : decode cX1_covers 24 = .ok (.iload_n 2, 1) := by decide +kernel
theorem dX1_covers_25 : decode cX1_covers 25 = .ok (.iaload, 1) := by decide +kernel
theorem dX1_covers_26 : decode cX1_covers 26 = .ok (.iand, 1) := by decide +kernel
theorem dX1_covers_27 : decode cX1_covers 27 = .ok (.ifCond .ne 5, 3) := by decide +kernel
theorem dX1_covers_30 : decode cX1_covers 30 = .ok (.iconst 0, 1) := by decide +kernel
theorem dX1_covers_31 : decode cX1_covers 31 = .ok (.ireturn, 1) := by decide +kernel
theorem dX1_covers_32 : decode cX1_covers 32 = .ok (.iinc 2 1, 3) := by decide +kernel
theorem dX1_covers_35 : decode cX1_covers 35 = .ok (.goto (-33), 3) := by decide +kernel
theorem dX1_covers_38 : decode cX1_covers 38 = .ok (.iconst 1, 1) := by decide +kernel
theorem dX1_covers_39 : decode cX1_covers 39 = .ok (.ireturn, 1) := by decide +kernel
theorem dX2_init_0 : decode cX2_init 0 = .ok (.aload_n 0, 1) := by decide +kernel
theorem dX2_init_1 : decode cX2_init 1 = .ok (.invokespecial 3, 3) := by decide +kernel
theorem dX2_init_4 : decode cX2_init 4 = .ok (.aload_n 0, 1) := by decide +kernel
theorem dX2_init_5 : decode cX2_init 5 = .ok (.sipush 500, 3) := by decide +kernel
theorem dX2_init_8 : decode cX2_init 8 = .ok (.newarray .int, 2) := by decide +kernel
theorem dX2_init_10 : decode cX2_init 10 = .ok (.putfield 9, 3) := by decide +kernel
theorem dX2_init_13 : decode cX2_init 13 = .ok (.aload_n 0, 1) := by decide +kernel
theorem dX2_init_14 : decode cX2_init 14 = .ok (.sipush 1024, 3) := by decide +kernel
theorem dX2_init_17 : decode cX2_init 17 = .ok (.newarray .int, 2) := by decide +kernel
theorem dX2_init_19 : decode cX2_init 19 = .ok (.putfield 15, 3) := by decide +kernel
theorem dX2_init_22 : decode cX2_init 22 = .ok (.return_, 1) := by decide +kernel
theorem dX2_orderOf_0 : decode cX2_orderOf 0 = .ok (.aload_n 0, 1) := by decide +kernel
theorem dX2_orderOf_1 : decode cX2_orderOf 1 = .ok (.getfield 15, 3) := by decide +kernel
theorem dX2_orderOf_4 : decode cX2_orderOf 4 = .ok (.iconst (-1), 1) := by decide +kernel
theorem dX2_orderOf_5 : decode cX2_orderOf 5 = .ok (.invokestatic 18, 3) := by decide +kernel
theorem dX2_orderOf_8 : decode cX2_orderOf 8 = .ok (.aload_n 0, 1) := by decide +kernel
theorem dX2_orderOf_9 : decode cX2_orderOf 9 = .ok (.iconst 0, 1) := by decide +kernel
theorem dX2_orderOf_10 : decode cX2_orderOf 10 = .ok (.putfield 24, 3) := by decide +kernel
theorem dX2_orderOf_13 : decode cX2_orderOf 13 = .ok (.aload_n 0, 1) := by decide +kernel
theorem dX2_orderOf_14 : decode cX2_orderOf 14 = .ok (.invokestatic 28, 3) := by decide +kernel
theorem dX2_orderOf_17 : decode cX2_orderOf 17 = .ok (.invokevirtual 32, 3) := by decide +kernel
theorem dX2_orderOf_20 : decode cX2_orderOf 20 = .ok (.iconst 0, 1) := by decide +kernel
theorem dX2_orderOf_21 : decode cX2_orderOf 21 = .ok (.istore_n 2, 1) := by decide +kernel
theorem dX2_orderOf_22 : decode cX2_orderOf 22 = .ok (.iload_n 2, 1) := by decide +kernel
theorem dX2_orderOf_23 : decode cX2_orderOf 23 = .ok (.aload_n 0, 1) := by decide +kernel
theorem dX2_orderOf_24 : decode cX2_orderOf 24 = .ok (.getfield 24, 3) := by decide +kernel
theorem dX2_orderOf_27 : decode cX2_orderOf 27 = .ok (.if_icmp .ge 61, 3) := by decide +kernel
theorem dX2_orderOf_30 : decode cX2_orderOf 30 = .ok (.iload_n 2, 1) := by decide +kernel
theorem dX2_orderOf_31 : decode cX2_orderOf 31 = .ok (.aload_n 0, 1) := by decide +kernel
theorem dX2_orderOf_32 : decode cX2_orderOf 32 = .ok (.getfield 9, 3) := by decide +kernel
theorem dX2_orderOf_35 : decode cX2_orderOf 35 = .ok (.arraylength, 1) := by decide +kernel
theorem dX2_orderOf_36 : decode cX2_orderOf 36 = .ok (.if_icmp .ge 52, 3) := by decide +kernel
theorem dX2_orderOf_39 : decode cX2_orderOf 39 = .ok (.iconst 0, 1) := by decide +kernel
theorem dX2_orderOf_40 : decode cX2_orderOf 40 = .ok (.istore_n 3, 1) := by decide +kernel
theorem dX2_orderOf_41 : decode cX2_orderOf 41 = .ok (.iload_n 3, 1) := by decide +kernel
theorem dX2_orderOf_42 : decode cX2_orderOf 42 = .ok (.aload_n 1, 1) := by decide +kernel
theorem dX2_orderOf_43 : decode cX2_orderOf 43 = .ok (.getfield 36, 3) := by decide +kernel
theorem dX2_orderOf_46 : decode cX2_orderOf 46 = .ok (.if_icmp .ge 36, 3) := by decide +kernel
theorem dX2_orderOf_49 : decode cX2_orderOf 49 = .ok (.aload_n 1, 1) := by decide +kernel
theorem dX2_orderOf_50 : decode cX2_orderOf 50 = .ok (.iload_n 3, 1) := by decide +kernel
theorem dX2_orderOf_51 : decode cX2_orderOf 51 = .ok (.invokevirtual 41, 3) := by decide +kernel
theorem dX2_orderOf_54 : decode cX2_orderOf 54 = .ok (.astore 4, 2) := by decide +kernel
theorem dX2_orderOf_56 : decode cX2_orderOf 56 = .ok (.aload 4, 2) := by decide +kernel
theorem dX2_orderOf_58 : decode cX2_orderOf 58 = .ok (.ifnull 18, 3) := by decide +kernel
theorem dX2_orderOf_61 : decode cX2_orderOf 61 = .ok (.aload_n 0, 1) := by decide +kernel
theorem dX2_orderOf_62 : decode cX2_orderOf 62 = .ok (.aload_n 0, 1) := by decide +kernel
theorem dX2_orderOf_63 : decode cX2_orderOf 63 = .ok (.getfield 9, 3) := by decide +kernel
theorem dX2_orderOf_66 : decode cX2_orderOf 66 = .ok (.iload_n 2, 1) := by decide +kernel
theorem dX2_orderOf_67 : decode cX2_orderOf 67 = .ok (.iaload, 1) := by decide +kernel
theorem dX2_orderOf_68 : decode cX2_orderOf 68 = .ok (.aload 4, 2) := by decide +kernel
theorem dX2_orderOf_70 : decode cX2_orderOf 70 = .ok (.invokestatic 45, 3) := by decide +kernel
theorem dX2_orderOf_73 : decode cX2_orderOf 73 = .ok (.invokevirtual 32, 3) := by decide +kernel
theorem dX2_orderOf_76 : decode cX2_orderOf 76 = .ok (.iinc 3 1, 3) := by decide +kernel
theorem dX2_orderOf_79 : decode cX2_orderOf 79 = .ok (.goto (-38), 3) := by decide +kernel
theorem dX2_orderOf_82 : decode cX2_orderOf 82 = .ok (.iinc 2 1, 3) := by decide +kernel
theorem dX2_orderOf_85 : decode cX2_orderOf 85 = .ok (.goto (-63), 3) := by decide +kernel
theorem dX2_orderOf_88 : decode cX2_orderOf 88 = .ok (.aload_n 0, 1) := by decide +kernel
theorem dX2_orderOf_89 : decode cX2_orderOf 89 = .ok (.getfield 24, 3) := by decide +kernel
theorem dX2_orderOf_92 : decode cX2_orderOf 92 = .ok (.ireturn, 1) := by decide +kernel
theorem dX2_stillness_0 : decode cX2_stillness 0 = .ok (.iconst 0, 1) := by decide +kernel
theorem dX2_stillness_1 : decode cX2_stillness 1 = .ok (.istore_n 0, 1) := by decide +kernel
theorem dX2_stillness_2 : decode cX2_stillness 2 = .ok (.iconst 0, 1) := by decide +kernel
theorem dX2_stillness_3 : decode cX2_stillness 3 = .ok (.istore_n 1, 1) := by decide +kernel
theorem dX2_stillness_4 : decode cX2_stillness 4 = .ok (.iload_n 1, 1) := by decide +kernel
theorem dX2_stillness_5 : decode cX2_stillness 5 = .ok (.bipush 8, 2) := by decide +kernel
theorem dX2_stillness_7 : decode cX2_stillness 7 = .ok (.if_icmp .ge 17, 3) := by decide +kernel
theorem dX2_stillness_10 : decode cX2_stillness 10 = .ok (.iload_n 0, 1) := by decide +kernel
theorem dX2_stillness_11 : decode cX2_stillness 11 = .ok (.iload_n 1, 1) := by decide +kernel
theorem dX2_stillness_12 : decode cX2_stillness 12 = .ok (.iconst 3, 1) := by decide +kernel
theorem dX2_stillness_13 : decode cX2_stillness 13 = .ok (.iload_n 1, 1) := by decide +kernel
theorem dX2_stillness_14 : decode cX2_stillness 14 = .ok (.imul, 1) := by decide +kernel
theorem dX2_stillness_15 : decode cX2_stillness 15 = .ok (.ishl, 1) := by decide +kernel
theorem dX2_stillness_16 : decode cX2_stillness 16 = .ok (.ior, 1) := by decide +kernel
theorem dX2_stillness_17 : decode cX2_stillness 17 = .ok (.istore_n 0, 1) := by decide +kernel
theorem dX2_stillness_18 : decode cX2_stillness 18 = .ok (.iinc 1 1, 3) := by decide +kernel
theorem dX2_stillness_21 : decode cX2_stillness 21 = .ok (.goto (-17), 3) := by decide +kernel
theorem dX2_stillness_24 : decode cX2_stillness 24 = .ok (.iload_n 0, 1) := by decide +kernel
theorem dX2_stillness_25 : decode cX2_stillness 25 = .ok (.ireturn, 1) := by decide +kernel
theorem dX2_followedBy_0 : decode cX2_followedBy 0 = .ok (.iconst 0, 1) := by decide +kernel
theorem dX2_followedBy_1 : decode cX2_followedBy 1 = .ok (.istore_n 2, 1) := by decide +kernel
theorem dX2_followedBy_2 : decode cX2_followedBy 2 = .ok (.iconst 0, 1) := by decide +kernel
theorem dX2_followedBy_3 : decode cX2_followedBy 3 = .ok (.istore_n 3, 1) := by decide +kernel
theorem dX2_followedBy_4 : decode cX2_followedBy 4 = .ok (.iload_n 3, 1) := by decide +kernel
theorem dX2_followedBy_5 : decode cX2_followedBy 5 = .ok (.bipush 8, 2) := by decide +kernel
theorem dX2_followedBy_7 : decode cX2_followedBy 7 = .ok (.if_icmp .ge 28, 3) := by decide +kernel
theorem dX2_followedBy_10 : decode cX2_followedBy 10 = .ok (.iload_n 2, 1) := by decide +kernel
theorem dX2_followedBy_11 : decode cX2_followedBy 11 = .ok (.aload_n 1, 1) := by decide +kernel
theorem dX2_followedBy_12 : decode cX2_followedBy 12 = .ok (.iload_n 0, 1) := by decide +kernel
theorem dX2_followedBy_13 : decode cX2_followedBy 13 = .ok (.iconst 3, 1) := by decide +kernel
theorem dX2_followedBy_14 : decode cX2_followedBy 14 = .ok (.iload_n 3, 1) := by decide +kernel
theorem dX2_followedBy_15 : decode cX2_followedBy 15 = .ok (.imul, 1) := by decide +kernel
theorem dX2_followedBy_16 : decode cX2_followedBy 16 = .ok (.ishr, 1) := by decide +kernel
theorem dX2_followedBy_17 : decode cX2_followedBy 17 = .ok (.bipush 7, 2) := by decide +kernel
theorem dX2_followedBy_19 : decode cX2_followedBy 19 = .ok (.iand, 1) := by decide +kernel
theorem dX2_followedBy_20 : decode cX2_followedBy 20 = .ok (.invokevirtual 49, 3) := by decide +kernel
theorem dX2_followedBy_23 : decode cX2_followedBy 23 = .ok (.iconst 3, 1) := by decide +kernel
theorem dX2_followedBy_24 : decode cX2_followedBy 24 = .ok (.iload_n 3, 1) := by decide +kernel
theorem dX2_followedBy_25 : decode cX2_followedBy 25 = .ok (.imul, 1) := by decide +kernel
theorem dX2_followedBy_26 : decode cX2_followedBy 26 = .ok (.ishl, 1) := by decide +kernel
theorem dX2_followedBy_27 : decode cX2_followedBy 27 = .ok (.ior, 1) := by decide +kernel
theorem dX2_followedBy_28 : decode cX2_followedBy 28 = .ok (.istore_n 2, 1) := by decide +kernel
theorem dX2_followedBy_29 : decode cX2_followedBy 29 = .ok (.iinc 3 1, 3) := by decide +kernel
theorem dX2_followedBy_32 : decode cX2_followedBy 32 = .ok (.goto (-28), 3) := by decide +kernel
theorem dX2_followedBy_35 : decode cX2_followedBy 35 = .ok (.iload_n 2, 1) := by decide +kernel
theorem dX2_followedBy_36 : decode cX2_followedBy 36 = .ok (.ireturn, 1) := by decide +kernel
theorem dX2_enter_0 : decode cX2_enter 0 = .ok (.iload_n 1, 1) := by decide +kernel
theorem dX2_enter_1 : decode cX2_enter 1 = .ok (.ldc 55, 2) := by decide +kernel
theorem dX2_enter_3 : decode cX2_enter 3 = .ok (.imul, 1) := by decide +kernel
theorem dX2_enter_4 : decode cX2_enter 4 = .ok (.bipush 22, 2) := by decide +kernel
theorem dX2_enter_6 : decode cX2_enter 6 = .ok (.iushr, 1) := by decide +kernel
theorem dX2_enter_7 : decode cX2_enter 7 = .ok (.istore_n 2, 1) := by decide +kernel
theorem dX2_enter_8 : decode cX2_enter 8 = .ok (.iconst 0, 1) := by decide +kernel
theorem dX2_enter_9 : decode cX2_enter 9 = .ok (.istore_n 3, 1) := by decide +kernel
theorem dX2_enter_10 : decode cX2_enter 10 = .ok (.iload_n 3, 1) := by decide +kernel
theorem dX2_enter_11 : decode cX2_enter 11 = .ok (.aload_n 0, 1) := by decide +kernel
theorem dX2_enter_12 : decode cX2_enter 12 = .ok (.getfield 15, 3) := by decide +kernel
theorem dX2_enter_15 : decode cX2_enter 15 = .ok (.arraylength, 1) := by decide +kernel
theorem dX2_enter_16 : decode cX2_enter 16 = .ok (.if_icmp .ge 55, 3) := by decide +kernel
theorem dX2_enter_19 : decode cX2_enter 19 = .ok (.iload_n 2, 1) := by decide +kernel
theorem dX2_enter_20 : decode cX2_enter 20 = .ok (.ifCond .lt 12, 3) := by decide +kernel
theorem dX2_enter_23 : decode cX2_enter 23 = .ok (.iload_n 2, 1) := by decide +kernel
theorem dX2_enter_24 : decode cX2_enter 24 = .ok (.aload_n 0, 1) := by decide +kernel
theorem dX2_enter_25 : decode cX2_enter 25 = .ok (.getfield 15, 3) := by decide +kernel
theorem dX2_enter_28 : decode cX2_enter 28 = .ok (.arraylength, 1) := by decide +kernel
theorem dX2_enter_29 : decode cX2_enter 29 = .ok (.if_icmp .lt 5, 3) := by decide +kernel
theorem dX2_enter_32 : decode cX2_enter 32 = .ok (.iconst 0, 1) := by decide +kernel
theorem dX2_enter_33 : decode cX2_enter 33 = .ok (.istore_n 2, 1) := by decide +kernel
theorem dX2_enter_34 : decode cX2_enter 34 = .ok (.aload_n 0, 1) := by decide +kernel
theorem dX2_enter_35 : decode cX2_enter 35 = .ok (.getfield 15, 3) := by decide +kernel
theorem dX2_enter_38 : decode cX2_enter 38 = .ok (.iload_n 2, 1) := by decide +kernel
theorem dX2_enter_39 : decode cX2_enter 39 = .ok (.iaload, 1) := by decide +kernel
theorem dX2_enter_40 : decode cX2_enter 40 = .ok (.iload_n 1, 1) := by decide +kernel
theorem dX2_enter_41 : decode cX2_enter 41 = .ok (.if_icmp .ne 4, 3) := by decide +kernel
theorem dX2_enter_44 : decode cX2_enter 44 = .ok (.return_, 1) := by decide +kernel
theorem dX2_enter_45 : decode cX2_enter 45 = .ok (.aload_n 0, 1) := by decide +kernel
theorem dX2_enter_46 : decode cX2_enter 46 = .ok (.getfield 15, 3) := by decide +kernel
theorem dX2_enter_49 : decode cX2_enter 49 = .ok (.iload_n 2, 1) := by decide +kernel
theorem dX2_enter_50 : decode cX2_enter 50 = .ok (.iaload, 1) := by decide +kernel
theorem dX2_enter_51 : decode cX2_enter 51 = .ok (.iconst (-1), 1) := by decide +kernel
theorem dX2_enter_52 : decode cX2_enter 52 = .ok (.if_icmp .ne 10, 3) := by decide +kernel
theorem dX2_enter_55 : decode cX2_enter 55 = .ok (.aload_n 0, 1) := by decide +kernel
theorem dX2_enter_56 : decode cX2_enter 56 = .ok (.iload_n 2, 1) := by decide +kernel
theorem dX2_enter_57 : decode cX2_enter 57 = .ok (.iload_n 1, 1) := by decide +kernel
theorem dX2_enter_58 : decode cX2_enter 58 = .ok (.invokevirtual 56, 3) := by decide +kernel
theorem dX2_enter_61 : decode cX2_enter 61 = .ok (.return_, 1) := by decide +kernel
theorem dX2_enter_62 : decode cX2_enter 62 = .ok (.iinc 2 1, 3) := by decide +kernel
theorem dX2_enter_65 : decode cX2_enter 65 = .ok (.iinc 3 1, 3) := by decide +kernel
theorem dX2_enter_68 : decode cX2_enter 68 = .ok (.goto (-58), 3) := by decide +kernel
theorem dX2_enter_71 : decode cX2_enter 71 = .ok (.return_, 1) := by decide +kernel
theorem dX2_append_0 : decode cX2_append 0 = .ok (.aload_n 0, 1) := by decide +kernel
theorem dX2_append_1 : decode cX2_append 1 = .ok (.getfield 24, 3) := by decide +kernel
theorem dX2_append_4 : decode cX2_append 4 = .ok (.aload_n 0, 1) := by decide +kernel
theorem dX2_append_5 : decode cX2_append 5 = .ok (.getfield 9, 3) := by decide +kernel
theorem dX2_append_8 : decode cX2_append 8 = .ok (.arraylength, 1) := by decide +kernel
theorem dX2_append_9 : decode cX2_append 9 = .ok (.if_icmp .ge 10, 3) := by decide +kernel
theorem dX2_append_12 : decode cX2_append 12 = .ok (.aload_n 0, 1) := by decide +kernel
theorem dX2_append_13 : decode cX2_append 13 = .ok (.getfield 24, 3) := by decide +kernel
theorem dX2_append_16 : decode cX2_append 16 = .ok (.ifCond .ge 4, 3) := by decide +kernel
theorem dX2_append_19 : decode cX2_append 19 = .ok (.return_, 1) := by decide +kernel
theorem dX2_append_20 : decode cX2_append 20 = .ok (.iload_n 1, 1) := by decide +kernel
theorem dX2_append_21 : decode cX2_append 21 = .ok (.ifCond .lt 12, 3) := by decide +kernel
theorem dX2_append_24 : decode cX2_append 24 = .ok (.iload_n 1, 1) := by decide +kernel
theorem dX2_append_25 : decode cX2_append 25 = .ok (.aload_n 0, 1) := by decide +kernel
theorem dX2_append_26 : decode cX2_append 26 = .ok (.getfield 15, 3) := by decide +kernel
theorem dX2_append_29 : decode cX2_append 29 = .ok (.arraylength, 1) := by decide +kernel
theorem dX2_append_30 : decode cX2_append 30 = .ok (.if_icmp .lt 4, 3) := by decide +kernel
theorem dX2_append_33 : decode cX2_append 33 = .ok (.return_, 1) := by decide +kernel
theorem dX2_append_34 : decode cX2_append 34 = .ok (.aload_n 0, 1) := by decide +kernel
theorem dX2_append_35 : decode cX2_append 35 = .ok (.getfield 15, 3) := by decide +kernel
theorem dX2_append_38 : decode cX2_append 38 = .ok (.iload_n 1, 1) := by decide +kernel
theorem dX2_append_39 : decode cX2_append 39 = .ok (.iload_n 2, 1) := by decide +kernel
theorem dX2_append_40 : decode cX2_append 40 = .ok (.iastore, 1) := by decide +kernel
theorem dX2_append_41 : decode cX2_append 41 = .ok (.aload_n 0, 1) := by decide +kernel
theorem dX2_append_42 : decode cX2_append 42 = .ok (.getfield 9, 3) := by decide +kernel
theorem dX2_append_45 : decode cX2_append 45 = .ok (.aload_n 0, 1) := by decide +kernel
theorem dX2_append_46 : decode cX2_append 46 = .ok (.getfield 24, 3) := by decide +kernel
theorem dX2_append_49 : decode cX2_append 49 = .ok (.iload_n 2, 1) := by decide +kernel
theorem dX2_append_50 : decode cX2_append 50 = .ok (.iastore, 1) := by decide +kernel
theorem dX2_append_51 : decode cX2_append 51 = .ok (.aload_n 0, 1) := by decide +kernel
theorem dX2_append_52 : decode cX2_append 52 = .ok (.dup, 1) := by decide +kernel
theorem dX2_append_53 : decode cX2_append 53 = .ok (.getfield 24, 3) := by decide +kernel
theorem dX2_append_56 : decode cX2_append 56 = .ok (.iconst 1, 1) := by decide +kernel
theorem dX2_append_57 : decode cX2_append 57 = .ok (.iadd, 1) := by decide +kernel
theorem dX2_append_58 : decode cX2_append 58 = .ok (.putfield 24, 3) := by decide +kernel
theorem dX2_append_61 : decode cX2_append 61 = .ok (.return_, 1) := by decide +kernel
theorem dX3_init_0 : decode cX3_init 0 = .ok (.aload_n 0, 1) := by decide +kernel
theorem dX3_init_1 : decode cX3_init 1 = .ok (.invokespecial 3, 3) := by decide +kernel
theorem dX3_init_4 : decode cX3_init 4 = .ok (.aload_n 0, 1) := by decide +kernel
theorem dX3_init_5 : decode cX3_init 5 = .ok (.bipush 70, 2) := by decide +kernel
theorem dX3_init_7 : decode cX3_init 7 = .ok (.newarray .boolean, 2) := by decide +kernel
theorem dX3_init_9 : decode cX3_init 9 = .ok (.putfield 9, 3) := by decide +kernel
theorem dX3_init_12 : decode cX3_init 12 = .ok (.aload_n 0, 1) := by decide +kernel
theorem dX3_init_13 : decode cX3_init 13 = .ok (.bipush 8, 2) := by decide +kernel
theorem dX3_init_15 : decode cX3_init 15 = .ok (.newarray .int, 2) := by decide +kernel
theorem dX3_init_17 : decode cX3_init 17 = .ok (.putfield 15, 3) := by decide +kernel
theorem dX3_init_20 : decode cX3_init 20 = .ok (.return_, 1) := by decide +kernel
theorem dX3_play_0 : decode cX3_play 0 = .ok (.aload_n 0, 1) := by decide +kernel
theorem dX3_play_1 : decode cX3_play 1 = .ok (.iload 5, 2) := by decide +kernel
theorem dX3_play_3 : decode cX3_play 3 = .ok (.putfield 19, 3) := by decide +kernel
theorem dX3_play_6 : decode cX3_play 6 = .ok (.aload_n 0, 1) := by decide +kernel
theorem dX3_play_7 : decode cX3_play 7 = .ok (.iconst 0, 1) := by decide +kernel
theorem dX3_play_8 : decode cX3_play 8 = .ok (.putfield 23, 3) := by decide +kernel
theorem dX3_play_11 : decode cX3_play 11 = .ok (.aload_n 0, 1) := by decide +kernel
theorem dX3_play_12 : decode cX3_play 12 = .ok (.iconst 0, 1) := by decide +kernel
theorem dX3_play_13 : decode cX3_play 13 = .ok (.putfield 26, 3) := by decide +kernel
theorem dX3_play_16 : decode cX3_play 16 = .ok (.iconst 0, 1) := by decide +kernel
theorem dX3_play_17 : decode cX3_play 17 = .ok (.istore 6, 2) := by decide +kernel
theorem dX3_play_19 : decode cX3_play 19 = .ok (.iload 6, 2) := by decide +kernel
theorem dX3_play_21 : decode cX3_play 21 = .ok (.iload 4, 2) := by decide +kernel
theorem dX3_play_23 : decode cX3_play 23 = .ok (.if_icmp .ge 42, 3) := by decide +kernel
theorem dX3_play_26 : decode cX3_play 26 = .ok (.aload_n 0, 1) := by decide +kernel
theorem dX3_play_27 : decode cX3_play 27 = .ok (.aload_n 1, 1) := by decide +kernel
theorem dX3_play_28 : decode cX3_play 28 = .ok (.iload_n 3, 1) := by decide +kernel
theorem dX3_play_29 : decode cX3_play 29 = .ok (.invokevirtual 29, 3) := by decide +kernel
theorem dX3_play_32 : decode cX3_play 32 = .ok (.invokevirtual 35, 3) := by decide +kernel
theorem dX3_play_35 : decode cX3_play 35 = .ok (.aload_n 0, 1) := by decide +kernel
theorem dX3_play_36 : decode cX3_play 36 = .ok (.aload_n 1, 1) := by decide +kernel
theorem dX3_play_37 : decode cX3_play 37 = .ok (.iload_n 3, 1) := by decide +kernel
theorem dX3_play_38 : decode cX3_play 38 = .ok (.invokevirtual 39, 3) := by decide +kernel
theorem dX3_play_41 : decode cX3_play 41 = .ok (.aload_n 0, 1) := by decide +kernel
theorem dX3_play_42 : decode cX3_play 42 = .ok (.iload_n 2, 1) := by decide +kernel
theorem dX3_play_43 : decode cX3_play 43 = .ok (.invokevirtual 43, 3) := by decide +kernel
theorem dX3_play_46 : decode cX3_play 46 = .ok (.ifCond .eq 13, 3) := by decide +kernel
theorem dX3_play_49 : decode cX3_play 49 = .ok (.aload_n 0, 1) := by decide +kernel
theorem dX3_play_50 : decode cX3_play 50 = .ok (.dup, 1) := by decide +kernel
theorem dX3_play_51 : decode cX3_play 51 = .ok (.getfield 23, 3) := by decide +kernel
theorem dX3_play_54 : decode cX3_play 54 = .ok (.iconst 1, 1) := by decide +kernel
theorem dX3_play_55 : decode cX3_play 55 = .ok (.iadd, 1) := by decide +kernel
theorem dX3_play_56 : decode cX3_play 56 = .ok (.putfield 23, 3) := by decide +kernel
theorem dX3_play_59 : decode cX3_play 59 = .ok (.iinc 6 1, 3) := by decide +kernel
theorem dX3_play_62 : decode cX3_play 62 = .ok (.goto (-43), 3) := by decide +kernel
theorem dX3_play_65 : decode cX3_play 65 = .ok (.return_, 1) := by decide +kernel
theorem dX3_drawOrbits_0 : decode cX3_drawOrbits 0 = .ok (.iconst 0, 1) := by decide +kernel
theorem dX3_drawOrbits_1 : decode cX3_drawOrbits 1 = .ok (.istore_n 2, 1) := by decide +kernel
theorem dX3_drawOrbits_2 : decode cX3_drawOrbits 2 = .ok (.iload_n 2, 1) := by decide +kernel
theorem dX3_drawOrbits_3 : decode cX3_drawOrbits 3 = .ok (.iload_n 1, 1) := by decide +kernel
theorem dX3_drawOrbits_4 : decode cX3_drawOrbits 4 = .ok (.if_icmp .ge 37, 3) := by decide +kernel
theorem dX3_drawOrbits_7 : decode cX3_drawOrbits 7 = .ok (.iload_n 2, 1) := by decide +kernel
theorem dX3_drawOrbits_8 : decode cX3_drawOrbits 8 = .ok (.aload_n 0, 1) := by decide +kernel
theorem dX3_drawOrbits_9 : decode cX3_drawOrbits 9 = .ok (.getfield 9, 3) := by decide +kernel
theorem dX3_drawOrbits_12 : decode cX3_drawOrbits 12 = .ok (.arraylength, 1) := by decide +kernel
theorem dX3_drawOrbits_13 : decode cX3_drawOrbits 13 = .ok (.if_icmp .ge 28, 3) := by decide +kernel
theorem dX3_drawOrbits_16 : decode cX3_drawOrbits 16 = .ok (.aload_n 0, 1) := by decide +kernel
theorem dX3_drawOrbits_17 : decode cX3_drawOrbits 17 = .ok (.getfield 9, 3) := by decide +kernel
theorem dX3_drawOrbits_20 : decode cX3_drawOrbits 20 = .ok (.iload_n 2, 1) := by decide +kernel
theorem dX3_drawOrbits_21 : decode cX3_drawOrbits 21 = .ok (.aload_n 0, 1) := by decide +kernel
theorem dX3_drawOrbits_22 : decode cX3_drawOrbits 22 = .ok (.invokevirtual 47, 3) := by decide +kernel
theorem dX3_drawOrbits_25 : decode cX3_drawOrbits 25 = .ok (.iconst 1, 1) := by decide +kernel
theorem dX3_drawOrbits_26 : decode cX3_drawOrbits 26 = .ok (.if_icmp .ne 7, 3) := by decide +kernel
theorem dX3_drawOrbits_29 : decode cX3_drawOrbits 29 = .ok (.iconst 1, 1) := by decide +kernel
theorem dX3_drawOrbits_30 : decode cX3_drawOrbits 30 = .ok (.goto 4, 3) := by decide +kernel
theorem dX3_drawOrbits_33 : decode cX3_drawOrbits 33 = .ok (.iconst 0, 1) := by decide +kernel
theorem dX3_drawOrbits_34 : decode cX3_drawOrbits 34 = .ok (.bastore, 1) := by decide +kernel
theorem dX3_drawOrbits_35 : decode cX3_drawOrbits 35 = .ok (.iinc 2 1, 3) := by decide +kernel
theorem dX3_drawOrbits_38 : decode cX3_drawOrbits 38 = .ok (.goto (-36), 3) := by decide +kernel
theorem dX3_drawOrbits_41 : decode cX3_drawOrbits 41 = .ok (.return_, 1) := by decide +kernel
theorem dX3_drawBelowTwo_0 : decode cX3_drawBelowTwo 0 = .ok (.aload_n 0, 1) := by decide +kernel
theorem dX3_drawBelowTwo_1 : decode cX3_drawBelowTwo 1 = .ok (.aload_n 0, 1) := by decide +kernel
theorem dX3_drawBelowTwo_2 : decode cX3_drawBelowTwo 2 = .ok (.getfield 19, 3) := by decide +kernel
theorem dX3_drawBelowTwo_5 : decode cX3_drawBelowTwo 5 = .ok (.ldc 51, 2) := by decide +kernel
theorem dX3_drawBelowTwo_7 : decode cX3_drawBelowTwo 7 = .ok (.imul, 1) := by decide +kernel
theorem dX3_drawBelowTwo_8 : decode cX3_drawBelowTwo 8 = .ok (.sipush 12345, 3) := by decide +kernel
theorem dX3_drawBelowTwo_11 : decode cX3_drawBelowTwo 11 = .ok (.iadd, 1) := by decide +kernel
theorem dX3_drawBelowTwo_12 : decode cX3_drawBelowTwo 12 = .ok (.putfield 19, 3) := by decide +kernel
theorem dX3_drawBelowTwo_15 : decode cX3_drawBelowTwo 15 = .ok (.aload_n 0, 1) := by decide +kernel
theorem dX3_drawBelowTwo_16 : decode cX3_drawBelowTwo 16 = .ok (.getfield 19, 3) := by decide +kernel
theorem dX3_drawBelowTwo_19 : decode cX3_drawBelowTwo 19 = .ok (.ldc 54, 2) := by decide +kernel
theorem dX3_drawBelowTwo_21 : decode cX3_drawBelowTwo 21 = .ok (.iand, 1) := by decide +kernel
theorem dX3_drawBelowTwo_22 : decode cX3_drawBelowTwo 22 = .ok (.ldc 55, 2) := by decide +kernel
theorem dX3_drawBelowTwo_24 : decode cX3_drawBelowTwo 24 = .ok (.idiv, 1) := by decide +kernel
theorem dX3_drawBelowTwo_25 : decode cX3_drawBelowTwo 25 = .ok (.iconst 2, 1) := by decide +kernel
theorem dX3_drawBelowTwo_26 : decode cX3_drawBelowTwo 26 = .ok (.irem, 1) := by decide +kernel
theorem dX3_drawBelowTwo_27 : decode cX3_drawBelowTwo 27 = .ok (.ireturn, 1) := by decide +kernel
theorem dX3_countSets_0 : decode cX3_countSets 0 = .ok (.aload_n 0, 1) := by decide +kernel
theorem dX3_countSets_1 : decode cX3_countSets 1 = .ok (.getfield 15, 3) := by decide +kernel
theorem dX3_countSets_4 : decode cX3_countSets 4 = .ok (.iconst 0, 1) := by decide +kernel
theorem dX3_countSets_5 : decode cX3_countSets 5 = .ok (.invokestatic 56, 3) := by decide +kernel
theorem dX3_countSets_8 : decode cX3_countSets 8 = .ok (.iconst 0, 1) := by decide +kernel
theorem dX3_countSets_9 : decode cX3_countSets 9 = .ok (.istore_n 3, 1) := by decide +kernel
theorem dX3_countSets_10 : decode cX3_countSets 10 = .ok (.iload_n 3, 1) := by decide +kernel
theorem dX3_countSets_11 : decode cX3_countSets 11 = .ok (.sipush 256, 3) := by decide +kernel
theorem dX3_countSets_14 : decode cX3_countSets 14 = .ok (.if_icmp .ge 54, 3) := by decide +kernel
theorem dX3_countSets_17 : decode cX3_countSets 17 = .ok (.aload_n 1, 1) := by decide +kernel
theorem dX3_countSets_18 : decode cX3_countSets 18 = .ok (.iload_n 3, 1) := by decide +kernel
theorem dX3_countSets_19 : decode cX3_countSets 19 = .ok (.invokevirtual 62, 3) := by decide +kernel
theorem dX3_countSets_22 : decode cX3_countSets 22 = .ok (.istore 4, 2) := by decide +kernel
theorem dX3_countSets_24 : decode cX3_countSets 24 = .ok (.iload 4, 2) := by decide +kernel
theorem dX3_countSets_26 : decode cX3_countSets 26 = .ok (.ifCond .lt 36, 3) := by decide +kernel
theorem dX3_countSets_29 : decode cX3_countSets 29 = .ok (.iload 4, 2) := by decide +kernel
theorem dX3_countSets_31 : decode cX3_countSets 31 = .ok (.aload_n 0, 1) := by decide +kernel
theorem dX3_countSets_32 : decode cX3_countSets 32 = .ok (.getfield 9, 3) := by decide +kernel
theorem dX3_countSets_35 : decode cX3_countSets 35 = .ok (.arraylength, 1) := by decide +kernel
theorem dX3_countSets_36 : decode cX3_countSets 36 = .ok (.if_icmp .ge 26, 3) := by decide +kernel
theorem dX3_countSets_39 : decode cX3_countSets 39 = .ok (.aload_n 0, 1) := by decide +kernel
theorem dX3_countSets_40 : decode cX3_countSets 40 = .ok (.getfield 9, 3) := by decide +kernel
theorem dX3_countSets_43 : decode cX3_countSets 43 = .ok (.iload 4, 2) := by decide +kernel
theorem dX3_countSets_45 : decode cX3_countSets 45 = .ok (.baload, 1) := by decide +kernel
theorem dX3_countSets_46 : decode cX3_countSets 46 = .ok (.ifCond .eq 16, 3) := by decide +kernel
theorem dX3_countSets_49 : decode cX3_countSets 49 = .ok (.iload_n 3, 1) := by decide +kernel
theorem dX3_countSets_50 : decode cX3_countSets 50 = .ok (.invokestatic 65, 3) := by decide +kernel
theorem dX3_countSets_53 : decode cX3_countSets 53 = .ok (.iload_n 2, 1) := by decide +kernel
theorem dX3_countSets_54 : decode cX3_countSets 54 = .ok (.if_icmp .ne 8, 3) := by decide +kernel
theorem dX3_countSets_57 : decode cX3_countSets 57 = .ok (.aload_n 0, 1) := by decide +kernel
theorem dX3_countSets_58 : decode cX3_countSets 58 = .ok (.iload_n 3, 1) := by decide +kernel
theorem dX3_countSets_59 : decode cX3_countSets 59 = .ok (.invokevirtual 68, 3) := by decide +kernel
theorem dX3_countSets_62 : decode cX3_countSets 62 = .ok (.iinc 3 1, 3) := by decide +kernel
theorem dX3_countSets_65 : decode cX3_countSets 65 = .ok (.goto (-55), 3) := by decide +kernel
theorem dX3_countSets_68 : decode cX3_countSets 68 = .ok (.return_, 1) := by decide +kernel
theorem dX3_countSet_0 : decode cX3_countSet 0 = .ok (.aload_n 0, 1) := by decide +kernel
theorem dX3_countSet_1 : decode cX3_countSet 1 = .ok (.dup, 1) := by decide +kernel
theorem dX3_countSet_2 : decode cX3_countSet 2 = .ok (.getfield 26, 3) := by decide +kernel
theorem dX3_countSet_5 : decode cX3_countSet 5 = .ok (.iconst 1, 1) := by decide +kernel
theorem dX3_countSet_6 : decode cX3_countSet 6 = .ok (.iadd, 1) := by decide +kernel
theorem dX3_countSet_7 : decode cX3_countSet 7 = .ok (.putfield 26, 3) := by decide +kernel
theorem dX3_countSet_10 : decode cX3_countSet 10 = .ok (.iconst 0, 1) := by decide +kernel
theorem dX3_countSet_11 : decode cX3_countSet 11 = .ok (.istore_n 2, 1) := by decide +kernel
theorem dX3_countSet_12 : decode cX3_countSet 12 = .ok (.iload_n 2, 1) := by decide +kernel
theorem dX3_countSet_13 : decode cX3_countSet 13 = .ok (.aload_n 0, 1) := by decide +kernel
theorem dX3_countSet_14 : decode cX3_countSet 14 = .ok (.getfield 15, 3) := by decide +kernel
theorem dX3_countSet_17 : decode cX3_countSet 17 = .ok (.arraylength, 1) := by decide +kernel
theorem dX3_countSet_18 : decode cX3_countSet 18 = .ok (.if_icmp .ge 23, 3) := by decide +kernel
theorem dX3_countSet_21 : decode cX3_countSet 21 = .ok (.aload_n 0, 1) := by decide +kernel
theorem dX3_countSet_22 : decode cX3_countSet 22 = .ok (.getfield 15, 3) := by decide +kernel
theorem dX3_countSet_25 : decode cX3_countSet 25 = .ok (.iload_n 2, 1) := by decide +kernel
theorem dX3_countSet_26 : decode cX3_countSet 26 = .ok (.dup2, 1) := by decide +kernel
theorem dX3_countSet_27 : decode cX3_countSet 27 = .ok (.iaload, 1) := by decide +kernel
theorem dX3_countSet_28 : decode cX3_countSet 28 = .ok (.iload_n 1, 1) := by decide +kernel
theorem dX3_countSet_29 : decode cX3_countSet 29 = .ok (.iload_n 2, 1) := by decide +kernel
theorem dX3_countSet_30 : decode cX3_countSet 30 = .ok (.ishr, 1) := by decide +kernel
theorem dX3_countSet_31 : decode cX3_countSet 31 = .ok (.iconst 1, 1) := by decide +kernel
theorem dX3_countSet_32 : decode cX3_countSet 32 = .ok (.iand, 1) := by decide +kernel
theorem dX3_countSet_33 : decode cX3_countSet 33 = .ok (.iadd, 1) := by decide +kernel
theorem dX3_countSet_34 : decode cX3_countSet 34 = .ok (.iastore, 1) := by decide +kernel
theorem dX3_countSet_35 : decode cX3_countSet 35 = .ok (.iinc 2 1, 3) := by decide +kernel
theorem dX3_countSet_38 : decode cX3_countSet 38 = .ok (.goto (-26), 3) := by decide +kernel
theorem dX3_countSet_41 : decode cX3_countSet 41 = .ok (.return_, 1) := by decide +kernel
theorem dX3_isEven_0 : decode cX3_isEven 0 = .ok (.iconst 1, 1) := by decide +kernel
theorem dX3_isEven_1 : decode cX3_isEven 1 = .ok (.istore_n 2, 1) := by decide +kernel
theorem dX3_isEven_2 : decode cX3_isEven 2 = .ok (.iload_n 2, 1) := by decide +kernel
theorem dX3_isEven_3 : decode cX3_isEven 3 = .ok (.iload_n 1, 1) := by decide +kernel
theorem dX3_isEven_4 : decode cX3_isEven 4 = .ok (.if_icmp .ge 37, 3) := by decide +kernel
theorem dX3_isEven_7 : decode cX3_isEven 7 = .ok (.iload_n 2, 1) := by decide +kernel
theorem dX3_isEven_8 : decode cX3_isEven 8 = .ok (.aload_n 0, 1) := by decide +kernel
theorem dX3_isEven_9 : decode cX3_isEven 9 = .ok (.getfield 15, 3) := by decide +kernel
theorem dX3_isEven_12 : decode cX3_isEven 12 = .ok (.arraylength, 1) := by decide +kernel
theorem dX3_isEven_13 : decode cX3_isEven 13 = .ok (.if_icmp .ge 28, 3) := by decide +kernel
theorem dX3_isEven_16 : decode cX3_isEven 16 = .ok (.aload_n 0, 1) := by decide +kernel
theorem dX3_isEven_17 : decode cX3_isEven 17 = .ok (.getfield 15, 3) := by decide +kernel
theorem dX3_isEven_20 : decode cX3_isEven 20 = .ok (.iload_n 2, 1) := by decide +kernel
theorem dX3_isEven_21 : decode cX3_isEven 21 = .ok (.iaload, 1) := by decide +kernel
theorem dX3_isEven_22 : decode cX3_isEven 22 = .ok (.aload_n 0, 1) := by decide +kernel
theorem dX3_isEven_23 : decode cX3_isEven 23 = .ok (.getfield 15, 3) := by decide +kernel
theorem dX3_isEven_26 : decode cX3_isEven 26 = .ok (.iload_n 2, 1) := by decide +kernel
theorem dX3_isEven_27 : decode cX3_isEven 27 = .ok (.iconst 1, 1) := by decide +kernel
theorem dX3_isEven_28 : decode cX3_isEven 28 = .ok (.isub, 1) := by decide +kernel
theorem dX3_isEven_29 : decode cX3_isEven 29 = .ok (.iaload, 1) := by decide +kernel
theorem dX3_isEven_30 : decode cX3_isEven 30 = .ok (.if_icmp .eq 5, 3) := by decide +kernel
theorem dX3_isEven_33 : decode cX3_isEven 33 = .ok (.iconst 0, 1) := by decide +kernel
theorem dX3_isEven_34 : decode cX3_isEven 34 = .ok (.ireturn, 1) := by decide +kernel
theorem dX3_isEven_35 : decode cX3_isEven 35 = .ok (.iinc 2 1, 3) := by decide +kernel
theorem dX3_isEven_38 : decode cX3_isEven 38 = .ok (.goto (-36), 3) := by decide +kernel
theorem dX3_isEven_41 : decode cX3_isEven 41 = .ok (.iconst 1, 1) := by decide +kernel
theorem dX3_isEven_42 : decode cX3_isEven 42 = .ok (.ireturn, 1) := by decide +kernel
theorem dX4_init_0 : decode cX4_init 0 = .ok (.aload_n 0, 1) := by decide +kernel
theorem dX4_init_1 : decode cX4_init 1 = .ok (.invokespecial 3, 3) := by decide +kernel
theorem dX4_init_4 : decode cX4_init 4 = .ok (.aload_n 0, 1) := by decide +kernel
theorem dX4_init_5 : decode cX4_init 5 = .ok (.sipush 256, 3) := by decide +kernel
theorem dX4_init_8 : decode cX4_init 8 = .ok (.newarray .int, 2) := by decide +kernel
theorem dX4_init_10 : decode cX4_init 10 = .ok (.putfield 9, 3) := by decide +kernel
theorem dX4_init_13 : decode cX4_init 13 = .ok (.return_, 1) := by decide +kernel
theorem dX4_areAlike_0 : decode cX4_areAlike 0 = .ok (.aload_n 0, 1) := by decide +kernel
theorem dX4_areAlike_1 : decode cX4_areAlike 1 = .ok (.aload_n 1, 1) := by decide +kernel
theorem dX4_areAlike_2 : decode cX4_areAlike 2 = .ok (.aload_n 2, 1) := by decide +kernel
theorem dX4_areAlike_3 : decode cX4_areAlike 3 = .ok (.iload_n 3, 1) := by decide +kernel
theorem dX4_areAlike_4 : decode cX4_areAlike 4 = .ok (.iconst 0, 1) := by decide +kernel
theorem dX4_areAlike_5 : decode cX4_areAlike 5 = .ok (.iconst 0, 1) := by decide +kernel
theorem dX4_areAlike_6 : decode cX4_areAlike 6 = .ok (.invokevirtual 15, 3) := by decide +kernel
theorem dX4_areAlike_9 : decode cX4_areAlike 9 = .ok (.ireturn, 1) := by decide +kernel
theorem dX4_selvesOf_0 : decode cX4_selvesOf 0 = .ok (.iconst 1, 1) := by decide +kernel
theorem dX4_selvesOf_1 : decode cX4_selvesOf 1 = .ok (.istore_n 3, 1) := by decide +kernel
theorem dX4_selvesOf_2 : decode cX4_selvesOf 2 = .ok (.iconst 0, 1) := by decide +kernel
theorem dX4_selvesOf_3 : decode cX4_selvesOf 3 = .ok (.istore 4, 2) := by decide +kernel
theorem dX4_selvesOf_5 : decode cX4_selvesOf 5 = .ok (.iconst 0, 1) := by decide +kernel
theorem dX4_selvesOf_6 : decode cX4_selvesOf 6 = .ok (.istore 5, 2) := by decide +kernel
theorem dX4_selvesOf_8 : decode cX4_selvesOf 8 = .ok (.iload 5, 2) := by decide +kernel
theorem dX4_selvesOf_10 : decode cX4_selvesOf 10 = .ok (.iload_n 2, 1) := by decide +kernel
theorem dX4_selvesOf_11 : decode cX4_selvesOf 11 = .ok (.if_icmp .ge 109, 3) := by decide +kernel
theorem dX4_selvesOf_14 : decode cX4_selvesOf 14 = .ok (.iload 5, 2) := by decide +kernel
theorem dX4_selvesOf_16 : decode cX4_selvesOf 16 = .ok (.bipush 8, 2) := by decide +kernel
theorem dX4_selvesOf_18 : decode cX4_selvesOf 18 = .ok (.if_icmp .ge 102, 3) := by decide +kernel
theorem dX4_selvesOf_21 : decode cX4_selvesOf 21 = .ok (.iconst 0, 1) := by decide +kernel
theorem dX4_selvesOf_22 : decode cX4_selvesOf 22 = .ok (.istore 6, 2) := by decide +kernel
theorem dX4_selvesOf_24 : decode cX4_selvesOf 24 = .ok (.iload 5, 2) := by decide +kernel
theorem dX4_selvesOf_26 : decode cX4_selvesOf 26 = .ok (.istore 7, 2) := by decide +kernel
theorem dX4_selvesOf_28 : decode cX4_selvesOf 28 = .ok (.iload 7, 2) := by decide +kernel
theorem dX4_selvesOf_30 : decode cX4_selvesOf 30 = .ok (.iload_n 2, 1) := by decide +kernel
theorem dX4_selvesOf_31 : decode cX4_selvesOf 31 = .ok (.if_icmp .ge 58, 3) := by decide +kernel
theorem dX4_selvesOf_34 : decode cX4_selvesOf 34 = .ok (.aload_n 0, 1) := by decide +kernel
theorem dX4_selvesOf_35 : decode cX4_selvesOf 35 = .ok (.aload_n 1, 1) := by decide +kernel
theorem dX4_selvesOf_36 : decode cX4_selvesOf 36 = .ok (.aload_n 1, 1) := by decide +kernel
theorem dX4_selvesOf_37 : decode cX4_selvesOf 37 = .ok (.iload 5, 2) := by decide +kernel
theorem dX4_selvesOf_39 : decode cX4_selvesOf 39 = .ok (.iload 7, 2) := by decide +kernel
theorem dX4_selvesOf_41 : decode cX4_selvesOf 41 = .ok (.invokevirtual 19, 3) := by decide +kernel
theorem dX4_selvesOf_44 : decode cX4_selvesOf 44 = .ok (.ifCond .eq 28, 3) := by decide +kernel
theorem dX4_selvesOf_47 : decode cX4_selvesOf 47 = .ok (.aload_n 0, 1) := by decide +kernel
theorem dX4_selvesOf_48 : decode cX4_selvesOf 48 = .ok (.aload_n 1, 1) := by decide +kernel
theorem dX4_selvesOf_49 : decode cX4_selvesOf 49 = .ok (.aload_n 1, 1) := by decide +kernel
theorem dX4_selvesOf_50 : decode cX4_selvesOf 50 = .ok (.iload_n 2, 1) := by decide +kernel
theorem dX4_selvesOf_51 : decode cX4_selvesOf 51 = .ok (.iload 5, 2) := by decide +kernel
theorem dX4_selvesOf_53 : decode cX4_selvesOf 53 = .ok (.iconst 1, 1) := by decide +kernel
theorem dX4_selvesOf_54 : decode cX4_selvesOf 54 = .ok (.iadd, 1) := by decide +kernel
theorem dX4_selvesOf_55 : decode cX4_selvesOf 55 = .ok (.iload 4, 2) := by decide +kernel
theorem dX4_selvesOf_57 : decode cX4_selvesOf 57 = .ok (.iconst 1, 1) := by decide +kernel
theorem dX4_selvesOf_58 : decode cX4_selvesOf 58 = .ok (.iload 7, 2) := by decide +kernel
theorem dX4_selvesOf_60 : decode cX4_selvesOf 60 = .ok (.ishl, 1) := by decide +kernel
theorem dX4_selvesOf_61 : decode cX4_selvesOf 61 = .ok (.ior, 1) := by decide +kernel
theorem dX4_selvesOf_62 : decode cX4_selvesOf 62 = .ok (.invokevirtual 15, 3) := by decide +kernel
theorem dX4_selvesOf_65 : decode cX4_selvesOf 65 = .ok (.ifCond .eq 7, 3) := by decide +kernel
theorem dX4_selvesOf_68 : decode cX4_selvesOf 68 = .ok (.iconst 1, 1) := by decide +kernel
theorem dX4_selvesOf_69 : decode cX4_selvesOf 69 = .ok (.goto 4, 3) := by decide +kernel
theorem dX4_selvesOf_72 : decode cX4_selvesOf 72 = .ok (.iconst 0, 1) := by decide +kernel
theorem dX4_selvesOf_73 : decode cX4_selvesOf 73 = .ok (.istore 8, 2) := by decide +kernel
theorem dX4_selvesOf_75 : decode cX4_selvesOf 75 = .ok (.iload 8, 2) := by decide +kernel
theorem dX4_selvesOf_77 : decode cX4_selvesOf 77 = .ok (.ifCond .eq 6, 3) := by decide +kernel
theorem dX4_selvesOf_80 : decode cX4_selvesOf 80 = .ok (.iinc 6 1, 3) := by decide +kernel
theorem dX4_selvesOf_83 : decode cX4_selvesOf 83 = .ok (.iinc 7 1, 3) := by decide +kernel
theorem dX4_selvesOf_86 : decode cX4_selvesOf 86 = .ok (.goto (-58), 3) := by decide +kernel
theorem dX4_selvesOf_89 : decode cX4_selvesOf 89 = .ok (.iload_n 3, 1) := by decide +kernel
theorem dX4_selvesOf_90 : decode cX4_selvesOf 90 = .ok (.iload 6, 2) := by decide +kernel
theorem dX4_selvesOf_92 : decode cX4_selvesOf 92 = .ok (.imul, 1) := by decide +kernel
theorem dX4_selvesOf_93 : decode cX4_selvesOf 93 = .ok (.istore_n 3, 1) := by decide +kernel
theorem dX4_selvesOf_94 : decode cX4_selvesOf 94 = .ok (.aload_n 0, 1) := by decide +kernel
theorem dX4_selvesOf_95 : decode cX4_selvesOf 95 = .ok (.aload_n 1, 1) := by decide +kernel
theorem dX4_selvesOf_96 : decode cX4_selvesOf 96 = .ok (.aload_n 1, 1) := by decide +kernel
theorem dX4_selvesOf_97 : decode cX4_selvesOf 97 = .ok (.iload 5, 2) := by decide +kernel
theorem dX4_selvesOf_99 : decode cX4_selvesOf 99 = .ok (.iload 5, 2) := by decide +kernel
theorem dX4_selvesOf_101 : decode cX4_selvesOf 101 = .ok (.invokevirtual 19, 3) := by decide +kernel
theorem dX4_selvesOf_104 : decode cX4_selvesOf 104 = .ok (.pop, 1) := by decide +kernel
theorem dX4_selvesOf_105 : decode cX4_selvesOf 105 = .ok (.iload 4, 2) := by decide +kernel
theorem dX4_selvesOf_107 : decode cX4_selvesOf 107 = .ok (.iconst 1, 1) := by decide +kernel
theorem dX4_selvesOf_108 : decode cX4_selvesOf 108 = .ok (.iload 5, 2) := by decide +kernel
theorem dX4_selvesOf_110 : decode cX4_selvesOf 110 = .ok (.ishl, 1) := by decide +kernel
theorem dX4_selvesOf_111 : decode cX4_selvesOf 111 = .ok (.ior, 1) := by decide +kernel
theorem dX4_selvesOf_112 : decode cX4_selvesOf 112 = .ok (.istore 4, 2) := by decide +kernel
theorem dX4_selvesOf_114 : decode cX4_selvesOf 114 = .ok (.iinc 5 1, 3) := by decide +kernel
theorem dX4_selvesOf_117 : decode cX4_selvesOf 117 = .ok (.goto (-109), 3) := by decide +kernel
theorem dX4_selvesOf_120 : decode cX4_selvesOf 120 = .ok (.iload_n 3, 1) := by decide +kernel
theorem dX4_selvesOf_121 : decode cX4_selvesOf 121 = .ok (.ireturn, 1) := by decide +kernel
theorem dX4_canPlace_0 : decode cX4_canPlace 0 = .ok (.iload 4, 2) := by decide +kernel
theorem dX4_canPlace_2 : decode cX4_canPlace 2 = .ok (.iload_n 3, 1) := by decide +kernel
theorem dX4_canPlace_3 : decode cX4_canPlace 3 = .ok (.if_icmp .ge 10, 3) := by decide +kernel
theorem dX4_canPlace_6 : decode cX4_canPlace 6 = .ok (.iload 4, 2) := by decide +kernel
theorem dX4_canPlace_8 : decode cX4_canPlace 8 = .ok (.bipush 8, 2) := by decide +kernel
theorem dX4_canPlace_10 : decode cX4_canPlace 10 = .ok (.if_icmp .lt 5, 3) := by decide +kernel
theorem dX4_canPlace_13 : decode cX4_canPlace 13 = .ok (.iconst 1, 1) := by decide +kernel
theorem dX4_canPlace_14 : decode cX4_canPlace 14 = .ok (.ireturn, 1) := by decide +kernel
theorem dX4_canPlace_15 : decode cX4_canPlace 15 = .ok (.iconst 0, 1) := by decide +kernel
theorem dX4_canPlace_16 : decode cX4_canPlace 16 = .ok (.istore 6, 2) := by decide +kernel
theorem dX4_canPlace_18 : decode cX4_canPlace 18 = .ok (.iload 6, 2) := by decide +kernel
theorem dX4_canPlace_20 : decode cX4_canPlace 20 = .ok (.iload_n 3, 1) := by decide +kernel
theorem dX4_canPlace_21 : decode cX4_canPlace 21 = .ok (.if_icmp .ge 67, 3) := by decide +kernel
theorem dX4_canPlace_24 : decode cX4_canPlace 24 = .ok (.iload 5, 2) := by decide +kernel
theorem dX4_canPlace_26 : decode cX4_canPlace 26 = .ok (.iload 6, 2) := by decide +kernel
theorem dX4_canPlace_28 : decode cX4_canPlace 28 = .ok (.ishr, 1) := by decide +kernel
theorem dX4_canPlace_29 : decode cX4_canPlace 29 = .ok (.iconst 1, 1) := by decide +kernel
theorem dX4_canPlace_30 : decode cX4_canPlace 30 = .ok (.iand, 1) := by decide +kernel
theorem dX4_canPlace_31 : decode cX4_canPlace 31 = .ok (.ifCond .ne 7, 3) := by decide +kernel
theorem dX4_canPlace_34 : decode cX4_canPlace 34 = .ok (.iconst 1, 1) := by decide +kernel
theorem dX4_canPlace_35 : decode cX4_canPlace 35 = .ok (.goto 4, 3) := by decide +kernel
theorem dX4_canPlace_38 : decode cX4_canPlace 38 = .ok (.iconst 0, 1) := by decide +kernel
theorem dX4_canPlace_39 : decode cX4_canPlace 39 = .ok (.istore 7, 2) := by decide +kernel
theorem dX4_canPlace_41 : decode cX4_canPlace 41 = .ok (.iload 7, 2) := by decide +kernel
theorem dX4_canPlace_43 : decode cX4_canPlace 43 = .ok (.ifCond .eq 39, 3) := by decide +kernel
theorem dX4_canPlace_46 : decode cX4_canPlace 46 = .ok (.aload_n 0, 1) := by decide +kernel
theorem dX4_canPlace_47 : decode cX4_canPlace 47 = .ok (.aload_n 1, 1) := by decide +kernel
theorem dX4_canPlace_48 : decode cX4_canPlace 48 = .ok (.aload_n 2, 1) := by decide +kernel
theorem dX4_canPlace_49 : decode cX4_canPlace 49 = .ok (.iload 4, 2) := by decide +kernel
theorem dX4_canPlace_51 : decode cX4_canPlace 51 = .ok (.iload 6, 2) := by decide +kernel
theorem dX4_canPlace_53 : decode cX4_canPlace 53 = .ok (.invokevirtual 19, 3) := by decide +kernel
theorem dX4_canPlace_56 : decode cX4_canPlace 56 = .ok (.ifCond .eq 26, 3) := by decide +kernel
theorem dX4_canPlace_59 : decode cX4_canPlace 59 = .ok (.aload_n 0, 1) := by decide +kernel
theorem dX4_canPlace_60 : decode cX4_canPlace 60 = .ok (.aload_n 1, 1) := by decide +kernel
theorem dX4_canPlace_61 : decode cX4_canPlace 61 = .ok (.aload_n 2, 1) := by decide +kernel
theorem dX4_canPlace_62 : decode cX4_canPlace 62 = .ok (.iload_n 3, 1) := by decide +kernel
theorem dX4_canPlace_63 : decode cX4_canPlace 63 = .ok (.iload 4, 2) := by decide +kernel
theorem dX4_canPlace_65 : decode cX4_canPlace 65 = .ok (.iconst 1, 1) := by decide +kernel
theorem dX4_canPlace_66 : decode cX4_canPlace 66 = .ok (.iadd, 1) := by decide +kernel
theorem dX4_canPlace_67 : decode cX4_canPlace 67 = .ok (.iload 5, 2) := by decide +kernel
theorem dX4_canPlace_69 : decode cX4_canPlace 69 = .ok (.iconst 1, 1) := by decide +kernel
theorem dX4_canPlace_70 : decode cX4_canPlace 70 = .ok (.iload 6, 2) := by decide +kernel
theorem dX4_canPlace_72 : decode cX4_canPlace 72 = .ok (.ishl, 1) := by decide +kernel
theorem dX4_canPlace_73 : decode cX4_canPlace 73 = .ok (.ior, 1) := by decide +kernel
theorem dX4_canPlace_74 : decode cX4_canPlace 74 = .ok (.invokevirtual 15, 3) := by decide +kernel
theorem dX4_canPlace_77 : decode cX4_canPlace 77 = .ok (.ifCond .eq 5, 3) := by decide +kernel
theorem dX4_canPlace_80 : decode cX4_canPlace 80 = .ok (.iconst 1, 1) := by decide +kernel
theorem dX4_canPlace_81 : decode cX4_canPlace 81 = .ok (.ireturn, 1) := by decide +kernel
theorem dX4_canPlace_82 : decode cX4_canPlace 82 = .ok (.iinc 6 1, 3) := by decide +kernel
theorem dX4_canPlace_85 : decode cX4_canPlace 85 = .ok (.goto (-67), 3) := by decide +kernel
theorem dX4_canPlace_88 : decode cX4_canPlace 88 = .ok (.iconst 0, 1) := by decide +kernel
theorem dX4_canPlace_89 : decode cX4_canPlace 89 = .ok (.ireturn, 1) := by decide +kernel
theorem dX4_fits_0 : decode cX4_fits 0 = .ok (.iconst 1, 1) := by decide +kernel
theorem dX4_fits_1 : decode cX4_fits 1 = .ok (.iload_n 3, 1) := by decide +kernel
theorem dX4_fits_2 : decode cX4_fits 2 = .ok (.ishl, 1) := by decide +kernel
theorem dX4_fits_3 : decode cX4_fits 3 = .ok (.istore 5, 2) := by decide +kernel
theorem dX4_fits_5 : decode cX4_fits 5 = .ok (.iconst 0, 1) := by decide +kernel
theorem dX4_fits_6 : decode cX4_fits 6 = .ok (.istore 6, 2) := by decide +kernel
theorem dX4_fits_8 : decode cX4_fits 8 = .ok (.iload 6, 2) := by decide +kernel
theorem dX4_fits_10 : decode cX4_fits 10 = .ok (.iload 5, 2) := by decide +kernel
theorem dX4_fits_12 : decode cX4_fits 12 = .ok (.if_icmp .ge 77, 3) := by decide +kernel
theorem dX4_fits_15 : decode cX4_fits 15 = .ok (.iload 5, 2) := by decide +kernel
theorem dX4_fits_17 : decode cX4_fits 17 = .ok (.iload 6, 2) := by decide +kernel
theorem dX4_fits_19 : decode cX4_fits 19 = .ok (.iadd, 1) := by decide +kernel
theorem dX4_fits_20 : decode cX4_fits 20 = .ok (.aload_n 0, 1) := by decide +kernel
theorem dX4_fits_21 : decode cX4_fits 21 = .ok (.getfield 9, 3) := by decide +kernel
theorem dX4_fits_24 : decode cX4_fits 24 = .ok (.arraylength, 1) := by decide +kernel
theorem dX4_fits_25 : decode cX4_fits 25 = .ok (.if_icmp .ge 64, 3) := by decide +kernel
theorem dX4_fits_28 : decode cX4_fits 28 = .ok (.iload 6, 2) := by decide +kernel
theorem dX4_fits_30 : decode cX4_fits 30 = .ok (.ifCond .ne 7, 3) := by decide +kernel
theorem dX4_fits_33 : decode cX4_fits 33 = .ok (.iconst 0, 1) := by decide +kernel
theorem dX4_fits_34 : decode cX4_fits 34 = .ok (.goto 10, 3) := by decide +kernel
theorem dX4_fits_37 : decode cX4_fits 37 = .ok (.aload_n 0, 1) := by decide +kernel
theorem dX4_fits_38 : decode cX4_fits 38 = .ok (.getfield 9, 3) := by decide +kernel
theorem dX4_fits_41 : decode cX4_fits 41 = .ok (.iload 6, 2) := by decide +kernel
theorem dX4_fits_43 : decode cX4_fits 43 = .ok (.iaload, 1) := by decide +kernel
theorem dX4_fits_44 : decode cX4_fits 44 = .ok (.iconst 1, 1) := by decide +kernel
theorem dX4_fits_45 : decode cX4_fits 45 = .ok (.iload 4, 2) := by decide +kernel
theorem dX4_fits_47 : decode cX4_fits 47 = .ok (.ishl, 1) := by decide +kernel
theorem dX4_fits_48 : decode cX4_fits 48 = .ok (.ior, 1) := by decide +kernel
theorem dX4_fits_49 : decode cX4_fits 49 = .ok (.istore 7, 2) := by decide +kernel
theorem dX4_fits_51 : decode cX4_fits 51 = .ok (.aload_n 0, 1) := by decide +kernel
theorem dX4_fits_52 : decode cX4_fits 52 = .ok (.getfield 9, 3) := by decide +kernel
theorem dX4_fits_55 : decode cX4_fits 55 = .ok (.iload 5, 2) := by decide +kernel
theorem dX4_fits_57 : decode cX4_fits 57 = .ok (.iload 6, 2) := by decide +kernel
theorem dX4_fits_59 : decode cX4_fits 59 = .ok (.iadd, 1) := by decide +kernel
theorem dX4_fits_60 : decode cX4_fits 60 = .ok (.iload 7, 2) := by decide +kernel
theorem dX4_fits_62 : decode cX4_fits 62 = .ok (.iastore, 1) := by decide +kernel
theorem dX4_fits_63 : decode cX4_fits 63 = .ok (.aload_n 1, 1) := by decide +kernel
theorem dX4_fits_64 : decode cX4_fits 64 = .ok (.iload 5, 2) := by decide +kernel
theorem dX4_fits_66 : decode cX4_fits 66 = .ok (.iload 6, 2) := by decide +kernel
theorem dX4_fits_68 : decode cX4_fits 68 = .ok (.iadd, 1) := by decide +kernel
theorem dX4_fits_69 : decode cX4_fits 69 = .ok (.invokevirtual 23, 3) := by decide +kernel
theorem dX4_fits_72 : decode cX4_fits 72 = .ok (.aload_n 2, 1) := by decide +kernel
theorem dX4_fits_73 : decode cX4_fits 73 = .ok (.iload 7, 2) := by decide +kernel
theorem dX4_fits_75 : decode cX4_fits 75 = .ok (.invokevirtual 23, 3) := by decide +kernel
theorem dX4_fits_78 : decode cX4_fits 78 = .ok (.if_icmp .eq 5, 3) := by decide +kernel
theorem dX4_fits_81 : decode cX4_fits 81 = .ok (.iconst 0, 1) := by decide +kernel
theorem dX4_fits_82 : decode cX4_fits 82 = .ok (.ireturn, 1) := by decide +kernel
theorem dX4_fits_83 : decode cX4_fits 83 = .ok (.iinc 6 1, 3) := by decide +kernel
theorem dX4_fits_86 : decode cX4_fits 86 = .ok (.goto (-78), 3) := by decide +kernel
theorem dX4_fits_89 : decode cX4_fits 89 = .ok (.iconst 1, 1) := by decide +kernel
theorem dX4_fits_90 : decode cX4_fits 90 = .ok (.ireturn, 1) := by decide +kernel
theorem dX5_init_0 : decode cX5_init 0 = .ok (.aload_n 0, 1) := by decide +kernel
theorem dX5_init_1 : decode cX5_init 1 = .ok (.invokespecial 3, 3) := by decide +kernel
theorem dX5_init_4 : decode cX5_init 4 = .ok (.aload_n 0, 1) := by decide +kernel
theorem dX5_init_5 : decode cX5_init 5 = .ok (.sipush 256, 3) := by decide +kernel
theorem dX5_init_8 : decode cX5_init 8 = .ok (.newarray .int, 2) := by decide +kernel
theorem dX5_init_10 : decode cX5_init 10 = .ok (.putfield 9, 3) := by decide +kernel
theorem dX5_init_13 : decode cX5_init 13 = .ok (.aload_n 0, 1) := by decide +kernel
theorem dX5_init_14 : decode cX5_init 14 = .ok (.bipush 9, 2) := by decide +kernel
theorem dX5_init_16 : decode cX5_init 16 = .ok (.newarray .int, 2) := by decide +kernel
theorem dX5_init_18 : decode cX5_init 18 = .ok (.putfield 15, 3) := by decide +kernel
theorem dX5_init_21 : decode cX5_init 21 = .ok (.aload_n 0, 1) := by decide +kernel
theorem dX5_init_22 : decode cX5_init 22 = .ok (.sipush 256, 3) := by decide +kernel
theorem dX5_init_25 : decode cX5_init 25 = .ok (.newarray .int, 2) := by decide +kernel
theorem dX5_init_27 : decode cX5_init 27 = .ok (.putfield 18, 3) := by decide +kernel
theorem dX5_init_30 : decode cX5_init 30 = .ok (.return_, 1) := by decide +kernel
theorem dX5_find_0 : decode cX5_find 0 = .ok (.aload_n 0, 1) := by decide +kernel
theorem dX5_find_1 : decode cX5_find 1 = .ok (.getfield 9, 3) := by decide +kernel
theorem dX5_find_4 : decode cX5_find 4 = .ok (.iconst (-1), 1) := by decide +kernel
theorem dX5_find_5 : decode cX5_find 5 = .ok (.invokestatic 21, 3) := by decide +kernel
theorem dX5_find_8 : decode cX5_find 8 = .ok (.aload_n 0, 1) := by decide +kernel
theorem dX5_find_9 : decode cX5_find 9 = .ok (.getfield 15, 3) := by decide +kernel
theorem dX5_find_12 : decode cX5_find 12 = .ok (.iconst 0, 1) := by decide +kernel
theorem dX5_find_13 : decode cX5_find 13 = .ok (.invokestatic 21, 3) := by decide +kernel
theorem dX5_find_16 : decode cX5_find 16 = .ok (.iconst 0, 1) := by decide +kernel
theorem dX5_find_17 : decode cX5_find 17 = .ok (.istore_n 2, 1) := by decide +kernel
theorem dX5_find_18 : decode cX5_find 18 = .ok (.iload_n 2, 1) := by decide +kernel
theorem dX5_find_19 : decode cX5_find 19 = .ok (.aload_n 0, 1) := by decide +kernel
theorem dX5_find_20 : decode cX5_find 20 = .ok (.getfield 9, 3) := by decide +kernel
theorem dX5_find_23 : decode cX5_find 23 = .ok (.arraylength, 1) := by decide +kernel
theorem dX5_find_24 : decode cX5_find 24 = .ok (.if_icmp .ge 63, 3) := by decide +kernel
theorem dX5_find_27 : decode cX5_find 27 = .ok (.iload_n 2, 1) := by decide +kernel
theorem dX5_find_28 : decode cX5_find 28 = .ok (.aload_n 1, 1) := by decide +kernel
theorem dX5_find_29 : decode cX5_find 29 = .ok (.invokevirtual 27, 3) := by decide +kernel
theorem dX5_find_32 : decode cX5_find 32 = .ok (.if_icmp .gt 55, 3) := by decide +kernel
theorem dX5_find_35 : decode cX5_find 35 = .ok (.iload_n 2, 1) := by decide +kernel
theorem dX5_find_36 : decode cX5_find 36 = .ok (.invokestatic 33, 3) := by decide +kernel
theorem dX5_find_39 : decode cX5_find 39 = .ok (.istore_n 3, 1) := by decide +kernel
theorem dX5_find_40 : decode cX5_find 40 = .ok (.aload_n 0, 1) := by decide +kernel
theorem dX5_find_41 : decode cX5_find 41 = .ok (.getfield 9, 3) := by decide +kernel
theorem dX5_find_44 : decode cX5_find 44 = .ok (.iload_n 2, 1) := by decide +kernel
theorem dX5_find_45 : decode cX5_find 45 = .ok (.iaload, 1) := by decide +kernel
theorem dX5_find_46 : decode cX5_find 46 = .ok (.iconst (-1), 1) := by decide +kernel
theorem dX5_find_47 : decode cX5_find 47 = .ok (.if_icmp .ne 34, 3) := by decide +kernel
theorem dX5_find_50 : decode cX5_find 50 = .ok (.iload_n 3, 1) := by decide +kernel
theorem dX5_find_51 : decode cX5_find 51 = .ok (.aload_n 0, 1) := by decide +kernel
theorem dX5_find_52 : decode cX5_find 52 = .ok (.getfield 15, 3) := by decide +kernel
theorem dX5_find_55 : decode cX5_find 55 = .ok (.arraylength, 1) := by decide +kernel
theorem dX5_find_56 : decode cX5_find 56 = .ok (.if_icmp .ge 25, 3) := by decide +kernel
theorem dX5_find_59 : decode cX5_find 59 = .ok (.aload_n 0, 1) := by decide +kernel
theorem dX5_find_60 : decode cX5_find 60 = .ok (.aload_n 1, 1) := by decide +kernel
theorem dX5_find_61 : decode cX5_find 61 = .ok (.iload_n 2, 1) := by decide +kernel
theorem dX5_find_62 : decode cX5_find 62 = .ok (.aload_n 0, 1) := by decide +kernel
theorem dX5_find_63 : decode cX5_find 63 = .ok (.getfield 15, 3) := by decide +kernel
theorem dX5_find_66 : decode cX5_find 66 = .ok (.iload_n 3, 1) := by decide +kernel
theorem dX5_find_67 : decode cX5_find 67 = .ok (.iaload, 1) := by decide +kernel
theorem dX5_find_68 : decode cX5_find 68 = .ok (.invokevirtual 39, 3) := by decide +kernel
theorem dX5_find_71 : decode cX5_find 71 = .ok (.aload_n 0, 1) := by decide +kernel
theorem dX5_find_72 : decode cX5_find 72 = .ok (.getfield 15, 3) := by decide +kernel
theorem dX5_find_75 : decode cX5_find 75 = .ok (.iload_n 3, 1) := by decide +kernel
theorem dX5_find_76 : decode cX5_find 76 = .ok (.dup2, 1) := by decide +kernel
theorem dX5_find_77 : decode cX5_find 77 = .ok (.iaload, 1) := by decide +kernel
theorem dX5_find_78 : decode cX5_find 78 = .ok (.iconst 1, 1) := by decide +kernel
theorem dX5_find_79 : decode cX5_find 79 = .ok (.iadd, 1) := by decide +kernel
theorem dX5_find_80 : decode cX5_find 80 = .ok (.iastore, 1) := by decide +kernel
theorem dX5_find_81 : decode cX5_find 81 = .ok (.iinc 2 1, 3) := by decide +kernel
theorem dX5_find_84 : decode cX5_find 84 = .ok (.goto (-66), 3) := by decide +kernel
theorem dX5_find_87 : decode cX5_find 87 = .ok (.return_, 1) := by decide +kernel
theorem dX5_spread_0 : decode cX5_spread 0 = .ok (.aload_n 0, 1) := by decide +kernel
theorem dX5_spread_1 : decode cX5_spread 1 = .ok (.iload_n 2, 1) := by decide +kernel
theorem dX5_spread_2 : decode cX5_spread 2 = .ok (.iload_n 3, 1) := by decide +kernel
theorem dX5_spread_3 : decode cX5_spread 3 = .ok (.iconst 0, 1) := by decide +kernel
theorem dX5_spread_4 : decode cX5_spread 4 = .ok (.invokevirtual 43, 3) := by decide +kernel
theorem dX5_spread_7 : decode cX5_spread 7 = .ok (.istore 4, 2) := by decide +kernel
theorem dX5_spread_9 : decode cX5_spread 9 = .ok (.iconst 0, 1) := by decide +kernel
theorem dX5_spread_10 : decode cX5_spread 10 = .ok (.istore 5, 2) := by decide +kernel
theorem dX5_spread_12 : decode cX5_spread 12 = .ok (.iload 5, 2) := by decide +kernel
theorem dX5_spread_14 : decode cX5_spread 14 = .ok (.iload 4, 2) := by decide +kernel
theorem dX5_spread_16 : decode cX5_spread 16 = .ok (.if_icmp .ge 71, 3) := by decide +kernel
theorem dX5_spread_19 : decode cX5_spread 19 = .ok (.iload 5, 2) := by decide +kernel
theorem dX5_spread_21 : decode cX5_spread 21 = .ok (.aload_n 0, 1) := by decide +kernel
theorem dX5_spread_22 : decode cX5_spread 22 = .ok (.getfield 18, 3) := by decide +kernel
theorem dX5_spread_25 : decode cX5_spread 25 = .ok (.arraylength, 1) := by decide +kernel
theorem dX5_spread_26 : decode cX5_spread 26 = .ok (.if_icmp .ge 61, 3) := by decide +kernel
theorem dX5_spread_29 : decode cX5_spread 29 = .ok (.iconst 0, 1) := by decide +kernel
theorem dX5_spread_30 : decode cX5_spread 30 = .ok (.istore 6, 2) := by decide +kernel
theorem dX5_spread_32 : decode cX5_spread 32 = .ok (.iload 6, 2) := by decide +kernel
theorem dX5_spread_34 : decode cX5_spread 34 = .ok (.aload_n 1, 1) := by decide +kernel
theorem dX5_spread_35 : decode cX5_spread 35 = .ok (.getfield 47, 3) := by decide +kernel
theorem dX5_spread_38 : decode cX5_spread 38 = .ok (.if_icmp .ge 43, 3) := by decide +kernel
theorem dX5_spread_41 : decode cX5_spread 41 = .ok (.aload_n 1, 1) := by decide +kernel
theorem dX5_spread_42 : decode cX5_spread 42 = .ok (.iload 6, 2) := by decide +kernel
theorem dX5_spread_44 : decode cX5_spread 44 = .ok (.invokevirtual 51, 3) := by decide +kernel
theorem dX5_spread_47 : decode cX5_spread 47 = .ok (.astore 7, 2) := by decide +kernel
theorem dX5_spread_49 : decode cX5_spread 49 = .ok (.aload 7, 2) := by decide +kernel
theorem dX5_spread_51 : decode cX5_spread 51 = .ok (.ifnull 24, 3) := by decide +kernel
theorem dX5_spread_54 : decode cX5_spread 54 = .ok (.aload_n 0, 1) := by decide +kernel
theorem dX5_spread_55 : decode cX5_spread 55 = .ok (.aload 7, 2) := by decide +kernel
theorem dX5_spread_57 : decode cX5_spread 57 = .ok (.aload_n 0, 1) := by decide +kernel
theorem dX5_spread_58 : decode cX5_spread 58 = .ok (.getfield 18, 3) := by decide +kernel
theorem dX5_spread_61 : decode cX5_spread 61 = .ok (.iload 5, 2) := by decide +kernel
theorem dX5_spread_63 : decode cX5_spread 63 = .ok (.iaload, 1) := by decide +kernel
theorem dX5_spread_64 : decode cX5_spread 64 = .ok (.invokevirtual 55, 3) := by decide +kernel
theorem dX5_spread_67 : decode cX5_spread 67 = .ok (.iload_n 3, 1) := by decide +kernel
theorem dX5_spread_68 : decode cX5_spread 68 = .ok (.iload 4, 2) := by decide +kernel
theorem dX5_spread_70 : decode cX5_spread 70 = .ok (.invokevirtual 43, 3) := by decide +kernel
theorem dX5_spread_73 : decode cX5_spread 73 = .ok (.istore 4, 2) := by decide +kernel
theorem dX5_spread_75 : decode cX5_spread 75 = .ok (.iinc 6 1, 3) := by decide +kernel
theorem dX5_spread_78 : decode cX5_spread 78 = .ok (.goto (-46), 3) := by decide +kernel
theorem dX5_spread_81 : decode cX5_spread 81 = .ok (.iinc 5 1, 3) := by decide +kernel
theorem dX5_spread_84 : decode cX5_spread 84 = .ok (.goto (-72), 3) := by decide +kernel
theorem dX5_spread_87 : decode cX5_spread 87 = .ok (.return_, 1) := by decide +kernel
theorem dX5_enter_0 : decode cX5_enter 0 = .ok (.iload_n 1, 1) := by decide +kernel
theorem dX5_enter_1 : decode cX5_enter 1 = .ok (.ifCond .lt 22, 3) := by decide +kernel
theorem dX5_enter_4 : decode cX5_enter 4 = .ok (.iload_n 1, 1) := by decide +kernel
theorem dX5_enter_5 : decode cX5_enter 5 = .ok (.aload_n 0, 1) := by decide +kernel
theorem dX5_enter_6 : decode cX5_enter 6 = .ok (.getfield 9, 3) := by decide +kernel
theorem dX5_enter_9 : decode cX5_enter 9 = .ok (.arraylength, 1) := by decide +kernel
theorem dX5_enter_10 : decode cX5_enter 10 = .ok (.if_icmp .ge 13, 3) := by decide +kernel
theorem dX5_enter_13 : decode cX5_enter 13 = .ok (.aload_n 0, 1) := by decide +kernel
theorem dX5_enter_14 : decode cX5_enter 14 = .ok (.getfield 9, 3) := by decide +kernel
theorem dX5_enter_17 : decode cX5_enter 17 = .ok (.iload_n 1, 1) := by decide +kernel
theorem dX5_enter_18 : decode cX5_enter 18 = .ok (.iaload, 1) := by decide +kernel
theorem dX5_enter_19 : decode cX5_enter 19 = .ok (.iconst (-1), 1) := by decide +kernel
theorem dX5_enter_20 : decode cX5_enter 20 = .ok (.if_icmp .eq 5, 3) := by decide +kernel
theorem dX5_enter_23 : decode cX5_enter 23 = .ok (.iload_n 3, 1) := by decide +kernel
theorem dX5_enter_24 : decode cX5_enter 24 = .ok (.ireturn, 1) := by decide +kernel
theorem dX5_enter_25 : decode cX5_enter 25 = .ok (.iload_n 3, 1) := by decide +kernel
theorem dX5_enter_26 : decode cX5_enter 26 = .ok (.ifCond .lt 12, 3) := by decide +kernel
theorem dX5_enter_29 : decode cX5_enter 29 = .ok (.iload_n 3, 1) := by decide +kernel
theorem dX5_enter_30 : decode cX5_enter 30 = .ok (.aload_n 0, 1) := by decide +kernel
theorem dX5_enter_31 : decode cX5_enter 31 = .ok (.getfield 18, 3) := by decide +kernel
theorem dX5_enter_34 : decode cX5_enter 34 = .ok (.arraylength, 1) := by decide +kernel
theorem dX5_enter_35 : decode cX5_enter 35 = .ok (.if_icmp .lt 5, 3) := by decide +kernel
theorem dX5_enter_38 : decode cX5_enter 38 = .ok (.iload_n 3, 1) := by decide +kernel
theorem dX5_enter_39 : decode cX5_enter 39 = .ok (.ireturn, 1) := by decide +kernel
theorem dX5_enter_40 : decode cX5_enter 40 = .ok (.aload_n 0, 1) := by decide +kernel
theorem dX5_enter_41 : decode cX5_enter 41 = .ok (.getfield 9, 3) := by decide +kernel
theorem dX5_enter_44 : decode cX5_enter 44 = .ok (.iload_n 1, 1) := by decide +kernel
theorem dX5_enter_45 : decode cX5_enter 45 = .ok (.iload_n 2, 1) := by decide +kernel
theorem dX5_enter_46 : decode cX5_enter 46 = .ok (.iastore, 1) := by decide +kernel
theorem dX5_enter_47 : decode cX5_enter 47 = .ok (.aload_n 0, 1) := by decide +kernel
theorem dX5_enter_48 : decode cX5_enter 48 = .ok (.getfield 18, 3) := by decide +kernel
theorem dX5_enter_51 : decode cX5_enter 51 = .ok (.iload_n 3, 1) := by decide +kernel
theorem dX5_enter_52 : decode cX5_enter 52 = .ok (.iload_n 1, 1) := by decide +kernel
theorem dX5_enter_53 : decode cX5_enter 53 = .ok (.iastore, 1) := by decide +kernel
theorem dX5_enter_54 : decode cX5_enter 54 = .ok (.iload_n 3, 1) := by decide +kernel
theorem dX5_enter_55 : decode cX5_enter 55 = .ok (.iconst 1, 1) := by decide +kernel
theorem dX5_enter_56 : decode cX5_enter 56 = .ok (.iadd, 1) := by decide +kernel
theorem dX5_enter_57 : decode cX5_enter 57 = .ok (.ireturn, 1) := by decide +kernel
theorem dX5_amountOf_0 : decode cX5_amountOf 0 = .ok (.iload_n 1, 1) := by decide +kernel
theorem dX5_amountOf_1 : decode cX5_amountOf 1 = .ok (.ifCond .lt 21, 3) := by decide +kernel
theorem dX5_amountOf_4 : decode cX5_amountOf 4 = .ok (.iload_n 1, 1) := by decide +kernel
theorem dX5_amountOf_5 : decode cX5_amountOf 5 = .ok (.aload_n 0, 1) := by decide +kernel
theorem dX5_amountOf_6 : decode cX5_amountOf 6 = .ok (.getfield 15, 3) := by decide +kernel
theorem dX5_amountOf_9 : decode cX5_amountOf 9 = .ok (.arraylength, 1) := by decide +kernel
theorem dX5_amountOf_10 : decode cX5_amountOf 10 = .ok (.if_icmp .ge 12, 3) := by decide +kernel
theorem dX5_amountOf_13 : decode cX5_amountOf 13 = .ok (.aload_n 0, 1) := by decide +kernel
theorem dX5_amountOf_14 : decode cX5_amountOf 14 = .ok (.getfield 15, 3) := by decide +kernel
theorem dX5_amountOf_17 : decode cX5_amountOf 17 = .ok (.iload_n 1, 1) := by decide +kernel
theorem dX5_amountOf_18 : decode cX5_amountOf 18 = .ok (.iaload, 1) := by decide +kernel
theorem dX5_amountOf_19 : decode cX5_amountOf 19 = .ok (.goto 4, 3) := by decide +kernel
theorem dX5_amountOf_22 : decode cX5_amountOf 22 = .ok (.iconst 0, 1) := by decide +kernel
theorem dX5_amountOf_23 : decode cX5_amountOf 23 = .ok (.ireturn, 1) := by decide +kernel
theorem dX5_isOrbit_0 : decode cX5_isOrbit 0 = .ok (.iload_n 2, 1) := by decide +kernel
theorem dX5_isOrbit_1 : decode cX5_isOrbit 1 = .ok (.ifCond .lt 16, 3) := by decide +kernel
theorem dX5_isOrbit_4 : decode cX5_isOrbit 4 = .ok (.iload_n 2, 1) := by decide +kernel
theorem dX5_isOrbit_5 : decode cX5_isOrbit 5 = .ok (.aload_n 0, 1) := by decide +kernel
theorem dX5_isOrbit_6 : decode cX5_isOrbit 6 = .ok (.iload_n 1, 1) := by decide +kernel
theorem dX5_isOrbit_7 : decode cX5_isOrbit 7 = .ok (.invokevirtual 60, 3) := by decide +kernel
theorem dX5_isOrbit_10 : decode cX5_isOrbit 10 = .ok (.if_icmp .ge 7, 3) := by decide +kernel
theorem dX5_isOrbit_13 : decode cX5_isOrbit 13 = .ok (.iconst 1, 1) := by decide +kernel
theorem dX5_isOrbit_14 : decode cX5_isOrbit 14 = .ok (.goto 4, 3) := by decide +kernel
theorem dX5_isOrbit_17 : decode cX5_isOrbit 17 = .ok (.iconst 0, 1) := by decide +kernel
theorem dX5_isOrbit_18 : decode cX5_isOrbit 18 = .ok (.ireturn, 1) := by decide +kernel
theorem dX5_numberOf_0 : decode cX5_numberOf 0 = .ok (.iload_n 1, 1) := by decide +kernel
theorem dX5_numberOf_1 : decode cX5_numberOf 1 = .ok (.ifCond .lt 21, 3) := by decide +kernel
theorem dX5_numberOf_4 : decode cX5_numberOf 4 = .ok (.iload_n 1, 1) := by decide +kernel
theorem dX5_numberOf_5 : decode cX5_numberOf 5 = .ok (.aload_n 0, 1) := by decide +kernel
theorem dX5_numberOf_6 : decode cX5_numberOf 6 = .ok (.getfield 9, 3) := by decide +kernel
theorem dX5_numberOf_9 : decode cX5_numberOf 9 = .ok (.arraylength, 1) := by decide +kernel
theorem dX5_numberOf_10 : decode cX5_numberOf 10 = .ok (.if_icmp .ge 12, 3) := by decide +kernel
theorem dX5_numberOf_13 : decode cX5_numberOf 13 = .ok (.aload_n 0, 1) := by decide +kernel
theorem dX5_numberOf_14 : decode cX5_numberOf 14 = .ok (.getfield 9, 3) := by decide +kernel
theorem dX5_numberOf_17 : decode cX5_numberOf 17 = .ok (.iload_n 1, 1) := by decide +kernel
theorem dX5_numberOf_18 : decode cX5_numberOf 18 = .ok (.iaload, 1) := by decide +kernel
theorem dX5_numberOf_19 : decode cX5_numberOf 19 = .ok (.goto 4, 3) := by decide +kernel
theorem dX5_numberOf_22 : decode cX5_numberOf 22 = .ok (.iconst (-1), 1) := by decide +kernel
theorem dX5_numberOf_23 : decode cX5_numberOf 23 = .ok (.ireturn, 1) := by decide +kernel
theorem dX5_holds_0 : decode cX5_holds 0 = .ok (.aload_n 0, 1) := by decide +kernel
theorem dX5_holds_1 : decode cX5_holds 1 = .ok (.iload_n 3, 1) := by decide +kernel
theorem dX5_holds_2 : decode cX5_holds 2 = .ok (.invokevirtual 63, 3) := by decide +kernel
theorem dX5_holds_5 : decode cX5_holds 5 = .ok (.iload_n 2, 1) := by decide +kernel
theorem dX5_holds_6 : decode cX5_holds 6 = .ok (.if_icmp .ne 15, 3) := by decide +kernel
theorem dX5_holds_9 : decode cX5_holds 9 = .ok (.iload_n 3, 1) := by decide +kernel
theorem dX5_holds_10 : decode cX5_holds 10 = .ok (.invokestatic 33, 3) := by decide +kernel
theorem dX5_holds_13 : decode cX5_holds 13 = .ok (.iload_n 1, 1) := by decide +kernel
theorem dX5_holds_14 : decode cX5_holds 14 = .ok (.if_icmp .ne 7, 3) := by decide +kernel
theorem dX5_holds_17 : decode cX5_holds 17 = .ok (.iconst 1, 1) := by decide +kernel
theorem dX5_holds_18 : decode cX5_holds 18 = .ok (.goto 4, 3) := by decide +kernel
theorem dX5_holds_21 : decode cX5_holds 21 = .ok (.iconst 0, 1) := by decide +kernel
theorem dX5_holds_22 : decode cX5_holds 22 = .ok (.ireturn, 1) := by decide +kernel
theorem dX5_setAt_0 : decode cX5_setAt 0 = .ok (.iconst 0, 1) := by decide +kernel
theorem dX5_setAt_1 : decode cX5_setAt 1 = .ok (.istore 4, 2) := by decide +kernel
theorem dX5_setAt_3 : decode cX5_setAt 3 = .ok (.iconst 0, 1) := by decide +kernel
theorem dX5_setAt_4 : decode cX5_setAt 4 = .ok (.istore 5, 2) := by decide +kernel
theorem dX5_setAt_6 : decode cX5_setAt 6 = .ok (.iload 5, 2) := by decide +kernel
theorem dX5_setAt_8 : decode cX5_setAt 8 = .ok (.aload_n 0, 1) := by decide +kernel
theorem dX5_setAt_9 : decode cX5_setAt 9 = .ok (.getfield 9, 3) := by decide +kernel
theorem dX5_setAt_12 : decode cX5_setAt 12 = .ok (.arraylength, 1) := by decide +kernel
theorem dX5_setAt_13 : decode cX5_setAt 13 = .ok (.if_icmp .ge 32, 3) := by decide +kernel
theorem dX5_setAt_16 : decode cX5_setAt 16 = .ok (.aload_n 0, 1) := by decide +kernel
theorem dX5_setAt_17 : decode cX5_setAt 17 = .ok (.iload_n 1, 1) := by decide +kernel
theorem dX5_setAt_18 : decode cX5_setAt 18 = .ok (.iload_n 2, 1) := by decide +kernel
theorem dX5_setAt_19 : decode cX5_setAt 19 = .ok (.iload 5, 2) := by decide +kernel
theorem dX5_setAt_21 : decode cX5_setAt 21 = .ok (.invokevirtual 66, 3) := by decide +kernel
theorem dX5_setAt_24 : decode cX5_setAt 24 = .ok (.ifCond .eq 15, 3) := by decide +kernel
theorem dX5_setAt_27 : decode cX5_setAt 27 = .ok (.iload 4, 2) := by decide +kernel
theorem dX5_setAt_29 : decode cX5_setAt 29 = .ok (.iinc 4 1, 3) := by decide +kernel
theorem dX5_setAt_32 : decode cX5_setAt 32 = .ok (.iload_n 3, 1) := by decide +kernel
theorem dX5_setAt_33 : decode cX5_setAt 33 = .ok (.if_icmp .ne 6, 3) := by decide +kernel
theorem dX5_setAt_36 : decode cX5_setAt 36 = .ok (.iload 5, 2) := by decide +kernel
theorem dX5_setAt_38 : decode cX5_setAt 38 = .ok (.ireturn, 1) := by decide +kernel
theorem dX5_setAt_39 : decode cX5_setAt 39 = .ok (.iinc 5 1, 3) := by decide +kernel
theorem dX5_setAt_42 : decode cX5_setAt 42 = .ok (.goto (-36), 3) := by decide +kernel
theorem dX5_setAt_45 : decode cX5_setAt 45 = .ok (.bipush (-5), 2) := by decide +kernel
theorem dX5_setAt_47 : decode cX5_setAt 47 = .ok (.ireturn, 1) := by decide +kernel
theorem dX5_greatestOf_0 : decode cX5_greatestOf 0 = .ok (.aload_n 0, 1) := by decide +kernel
theorem dX5_greatestOf_1 : decode cX5_greatestOf 1 = .ok (.getfield 9, 3) := by decide +kernel
theorem dX5_greatestOf_4 : decode cX5_greatestOf 4 = .ok (.arraylength, 1) := by decide +kernel
theorem dX5_greatestOf_5 : decode cX5_greatestOf 5 = .ok (.iconst 1, 1) := by decide +kernel
theorem dX5_greatestOf_6 : decode cX5_greatestOf 6 = .ok (.isub, 1) := by decide +kernel
theorem dX5_greatestOf_7 : decode cX5_greatestOf 7 = .ok (.istore_n 3, 1) := by decide +kernel
theorem dX5_greatestOf_8 : decode cX5_greatestOf 8 = .ok (.iload_n 3, 1) := by decide +kernel
theorem dX5_greatestOf_9 : decode cX5_greatestOf 9 = .ok (.ifCond .lt 21, 3) := by decide +kernel
theorem dX5_greatestOf_12 : decode cX5_greatestOf 12 = .ok (.aload_n 0, 1) := by decide +kernel
theorem dX5_greatestOf_13 : decode cX5_greatestOf 13 = .ok (.iload_n 1, 1) := by decide +kernel
theorem dX5_greatestOf_14 : decode cX5_greatestOf 14 = .ok (.iload_n 2, 1) := by decide +kernel
theorem dX5_greatestOf_15 : decode cX5_greatestOf 15 = .ok (.iload_n 3, 1) := by decide +kernel
theorem dX5_greatestOf_16 : decode cX5_greatestOf 16 = .ok (.invokevirtual 66, 3) := by decide +kernel
theorem dX5_greatestOf_19 : decode cX5_greatestOf 19 = .ok (.ifCond .eq 5, 3) := by decide +kernel
theorem dX5_greatestOf_22 : decode cX5_greatestOf 22 = .ok (.iload_n 3, 1) := by decide +kernel
theorem dX5_greatestOf_23 : decode cX5_greatestOf 23 = .ok (.ireturn, 1) := by decide +kernel
theorem dX5_greatestOf_24 : decode cX5_greatestOf 24 = .ok (.iinc 3 (-1), 3) := by decide +kernel
theorem dX5_greatestOf_27 : decode cX5_greatestOf 27 = .ok (.goto (-19), 3) := by decide +kernel
theorem dX5_greatestOf_30 : decode cX5_greatestOf 30 = .ok (.bipush (-5), 2) := by decide +kernel
theorem dX5_greatestOf_32 : decode cX5_greatestOf 32 = .ok (.ireturn, 1) := by decide +kernel
theorem dX5_setsIn_0 : decode cX5_setsIn 0 = .ok (.aload_n 0, 1) := by decide +kernel
theorem dX5_setsIn_1 : decode cX5_setsIn 1 = .ok (.iload_n 1, 1) := by decide +kernel
theorem dX5_setsIn_2 : decode cX5_setsIn 2 = .ok (.iload_n 2, 1) := by decide +kernel
theorem dX5_setsIn_3 : decode cX5_setsIn 3 = .ok (.iconst 0, 1) := by decide +kernel
theorem dX5_setsIn_4 : decode cX5_setsIn 4 = .ok (.invokevirtual 70, 3) := by decide +kernel
theorem dX5_setsIn_7 : decode cX5_setsIn 7 = .ok (.ireturn, 1) := by decide +kernel
theorem dX5_setsAround_0 : decode cX5_setsAround 0 = .ok (.iconst 0, 1) := by decide +kernel
theorem dX5_setsAround_1 : decode cX5_setsAround 1 = .ok (.istore 4, 2) := by decide +kernel
theorem dX5_setsAround_3 : decode cX5_setsAround 3 = .ok (.iconst 0, 1) := by decide +kernel
theorem dX5_setsAround_4 : decode cX5_setsAround 4 = .ok (.istore 5, 2) := by decide +kernel
theorem dX5_setsAround_6 : decode cX5_setsAround 6 = .ok (.iload 5, 2) := by decide +kernel
theorem dX5_setsAround_8 : decode cX5_setsAround 8 = .ok (.aload_n 0, 1) := by decide +kernel
theorem dX5_setsAround_9 : decode cX5_setsAround 9 = .ok (.getfield 9, 3) := by decide +kernel
theorem dX5_setsAround_12 : decode cX5_setsAround 12 = .ok (.arraylength, 1) := by decide +kernel
theorem dX5_setsAround_13 : decode cX5_setsAround 13 = .ok (.if_icmp .ge 31, 3) := by decide +kernel
theorem dX5_setsAround_16 : decode cX5_setsAround 16 = .ok (.aload_n 0, 1) := by decide +kernel
theorem dX5_setsAround_17 : decode cX5_setsAround 17 = .ok (.iload_n 1, 1) := by decide +kernel
theorem dX5_setsAround_18 : decode cX5_setsAround 18 = .ok (.iload_n 2, 1) := by decide +kernel
theorem dX5_setsAround_19 : decode cX5_setsAround 19 = .ok (.iload 5, 2) := by decide +kernel
theorem dX5_setsAround_21 : decode cX5_setsAround 21 = .ok (.invokevirtual 66, 3) := by decide +kernel
theorem dX5_setsAround_24 : decode cX5_setsAround 24 = .ok (.ifCond .eq 14, 3) := by decide +kernel
theorem dX5_setsAround_27 : decode cX5_setsAround 27 = .ok (.iload 5, 2) := by decide +kernel
theorem dX5_setsAround_29 : decode cX5_setsAround 29 = .ok (.iload_n 3, 1) := by decide +kernel
theorem dX5_setsAround_30 : decode cX5_setsAround 30 = .ok (.iand, 1) := by decide +kernel
theorem dX5_setsAround_31 : decode cX5_setsAround 31 = .ok (.iload_n 3, 1) := by decide +kernel
theorem dX5_setsAround_32 : decode cX5_setsAround 32 = .ok (.if_icmp .ne 6, 3) := by decide +kernel
theorem dX5_setsAround_35 : decode cX5_setsAround 35 = .ok (.iinc 4 1, 3) := by decide +kernel
theorem dX5_setsAround_38 : decode cX5_setsAround 38 = .ok (.iinc 5 1, 3) := by decide +kernel
theorem dX5_setsAround_41 : decode cX5_setsAround 41 = .ok (.goto (-35), 3) := by decide +kernel
theorem dX5_setsAround_44 : decode cX5_setsAround 44 = .ok (.iload 4, 2) := by decide +kernel
theorem dX5_setsAround_46 : decode cX5_setsAround 46 = .ok (.ireturn, 1) := by decide +kernel
theorem dX6_init_0 : decode cX6_init 0 = .ok (.aload_n 0, 1) := by decide +kernel
theorem dX6_init_1 : decode cX6_init 1 = .ok (.invokespecial 3, 3) := by decide +kernel
theorem dX6_init_4 : decode cX6_init 4 = .ok (.aload_n 0, 1) := by decide +kernel
theorem dX6_init_5 : decode cX6_init 5 = .ok (.iconst 5, 1) := by decide +kernel
theorem dX6_init_6 : decode cX6_init 6 = .ok (.putfield 9, 3) := by decide +kernel
theorem dX6_init_9 : decode cX6_init 9 = .ok (.aload_n 0, 1) := by decide +kernel
theorem dX6_init_10 : decode cX6_init 10 = .ok (.iconst 0, 1) := by decide +kernel
theorem dX6_init_11 : decode cX6_init 11 = .ok (.putfield 15, 3) := by decide +kernel
theorem dX6_init_14 : decode cX6_init 14 = .ok (.aload_n 0, 1) := by decide +kernel
theorem dX6_init_15 : decode cX6_init 15 = .ok (.iconst 0, 1) := by decide +kernel
theorem dX6_init_16 : decode cX6_init 16 = .ok (.putfield 18, 3) := by decide +kernel
theorem dX6_init_19 : decode cX6_init 19 = .ok (.aload_n 0, 1) := by decide +kernel
theorem dX6_init_20 : decode cX6_init 20 = .ok (.new 21, 3) := by decide +kernel
theorem dX6_init_23 : decode cX6_init 23 = .ok (.dup, 1) := by decide +kernel
theorem dX6_init_24 : decode cX6_init 24 = .ok (.invokespecial 23, 3) := by decide +kernel
theorem dX6_init_27 : decode cX6_init 27 = .ok (.putfield 24, 3) := by decide +kernel
theorem dX6_init_30 : decode cX6_init 30 = .ok (.aload_n 0, 1) := by decide +kernel
theorem dX6_init_31 : decode cX6_init 31 = .ok (.iconst 4, 1) := by decide +kernel
theorem dX6_init_32 : decode cX6_init 32 = .ok (.anewarray 28, 3) := by decide +kernel
theorem dX6_init_35 : decode cX6_init 35 = .ok (.putfield 30, 3) := by decide +kernel
theorem dX6_init_38 : decode cX6_init 38 = .ok (.iconst 0, 1) := by decide +kernel
theorem dX6_init_39 : decode cX6_init 39 = .ok (.istore_n 1, 1) := by decide +kernel
theorem dX6_init_40 : decode cX6_init 40 = .ok (.iload_n 1, 1) := by decide +kernel
theorem dX6_init_41 : decode cX6_init 41 = .ok (.aload_n 0, 1) := by decide +kernel
theorem dX6_init_42 : decode cX6_init 42 = .ok (.getfield 30, 3) := by decide +kernel
theorem dX6_init_45 : decode cX6_init 45 = .ok (.arraylength, 1) := by decide +kernel
theorem dX6_init_46 : decode cX6_init 46 = .ok (.if_icmp .ge 22, 3) := by decide +kernel
theorem dX6_init_49 : decode cX6_init 49 = .ok (.aload_n 0, 1) := by decide +kernel
theorem dX6_init_50 : decode cX6_init 50 = .ok (.getfield 30, 3) := by decide +kernel
theorem dX6_init_53 : decode cX6_init 53 = .ok (.iload_n 1, 1) := by decide +kernel
theorem dX6_init_54 : decode cX6_init 54 = .ok (.new 28, 3) := by decide +kernel
theorem dX6_init_57 : decode cX6_init 57 = .ok (.dup, 1) := by decide +kernel
theorem dX6_init_58 : decode cX6_init 58 = .ok (.invokespecial 34, 3) := by decide +kernel
theorem dX6_init_61 : decode cX6_init 61 = .ok (.aastore, 1) := by decide +kernel
theorem dX6_init_62 : decode cX6_init 62 = .ok (.iinc 1 1, 3) := by decide +kernel
theorem dX6_init_65 : decode cX6_init 65 = .ok (.goto (-25), 3) := by decide +kernel
theorem dX6_init_68 : decode cX6_init 68 = .ok (.aload_n 0, 1) := by decide +kernel
theorem dX6_init_69 : decode cX6_init 69 = .ok (.iconst 4, 1) := by decide +kernel
theorem dX6_init_70 : decode cX6_init 70 = .ok (.anewarray 21, 3) := by decide +kernel
theorem dX6_init_73 : decode cX6_init 73 = .ok (.putfield 35, 3) := by decide +kernel
theorem dX6_init_76 : decode cX6_init 76 = .ok (.iconst 0, 1) := by decide +kernel
theorem dX6_init_77 : decode cX6_init 77 = .ok (.istore_n 1, 1) := by decide +kernel
theorem dX6_init_78 : decode cX6_init 78 = .ok (.iload_n 1, 1) := by decide +kernel
theorem dX6_init_79 : decode cX6_init 79 = .ok (.aload_n 0, 1) := by decide +kernel
theorem dX6_init_80 : decode cX6_init 80 = .ok (.getfield 35, 3) := by decide +kernel
theorem dX6_init_83 : decode cX6_init 83 = .ok (.arraylength, 1) := by decide +kernel
theorem dX6_init_84 : decode cX6_init 84 = .ok (.if_icmp .ge 22, 3) := by decide +kernel
theorem dX6_init_87 : decode cX6_init 87 = .ok (.aload_n 0, 1) := by decide +kernel
theorem dX6_init_88 : decode cX6_init 88 = .ok (.getfield 35, 3) := by decide +kernel
theorem dX6_init_91 : decode cX6_init 91 = .ok (.iload_n 1, 1) := by decide +kernel
theorem dX6_init_92 : decode cX6_init 92 = .ok (.new 21, 3) := by decide +kernel
theorem dX6_init_95 : decode cX6_init 95 = .ok (.dup, 1) := by decide +kernel
theorem dX6_init_96 : decode cX6_init 96 = .ok (.invokespecial 23, 3) := by decide +kernel
theorem dX6_init_99 : decode cX6_init 99 = .ok (.aastore, 1) := by decide +kernel
theorem dX6_init_100 : decode cX6_init 100 = .ok (.iinc 1 1, 3) := by decide +kernel
theorem dX6_init_103 : decode cX6_init 103 = .ok (.goto (-25), 3) := by decide +kernel
theorem dX6_init_106 : decode cX6_init 106 = .ok (.return_, 1) := by decide +kernel
theorem dX6_restart_0 : decode cX6_restart 0 = .ok (.aload_n 0, 1) := by decide +kernel
theorem dX6_restart_1 : decode cX6_restart 1 = .ok (.iload_n 1, 1) := by decide +kernel
theorem dX6_restart_2 : decode cX6_restart 2 = .ok (.putfield 9, 3) := by decide +kernel
theorem dX6_restart_5 : decode cX6_restart 5 = .ok (.aload_n 0, 1) := by decide +kernel
theorem dX6_restart_6 : decode cX6_restart 6 = .ok (.iconst 0, 1) := by decide +kernel
theorem dX6_restart_7 : decode cX6_restart 7 = .ok (.putfield 15, 3) := by decide +kernel
theorem dX6_restart_10 : decode cX6_restart 10 = .ok (.aload_n 0, 1) := by decide +kernel
theorem dX6_restart_11 : decode cX6_restart 11 = .ok (.iconst 0, 1) := by decide +kernel
theorem dX6_restart_12 : decode cX6_restart 12 = .ok (.putfield 18, 3) := by decide +kernel
theorem dX6_restart_15 : decode cX6_restart 15 = .ok (.aload_n 0, 1) := by decide +kernel
theorem dX6_restart_16 : decode cX6_restart 16 = .ok (.getfield 24, 3) := by decide +kernel
theorem dX6_restart_19 : decode cX6_restart 19 = .ok (.iconst 2, 1) := by decide +kernel
theorem dX6_restart_20 : decode cX6_restart 20 = .ok (.invokevirtual 39, 3) := by decide +kernel
theorem dX6_restart_23 : decode cX6_restart 23 = .ok (.return_, 1) := by decide +kernel
theorem dX6_copyFrom_0 : decode cX6_copyFrom 0 = .ok (.aload_n 0, 1) := by decide +kernel
theorem dX6_copyFrom_1 : decode cX6_copyFrom 1 = .ok (.aload_n 1, 1) := by decide +kernel
theorem dX6_copyFrom_2 : decode cX6_copyFrom 2 = .ok (.getfield 9, 3) := by decide +kernel
theorem dX6_copyFrom_5 : decode cX6_copyFrom 5 = .ok (.putfield 9, 3) := by decide +kernel
theorem dX6_copyFrom_8 : decode cX6_copyFrom 8 = .ok (.aload_n 0, 1) := by decide +kernel
theorem dX6_copyFrom_9 : decode cX6_copyFrom 9 = .ok (.getfield 24, 3) := by decide +kernel
theorem dX6_copyFrom_12 : decode cX6_copyFrom 12 = .ok (.aload_n 1, 1) := by decide +kernel
theorem dX6_copyFrom_13 : decode cX6_copyFrom 13 = .ok (.getfield 24, 3) := by decide +kernel
theorem dX6_copyFrom_16 : decode cX6_copyFrom 16 = .ok (.invokevirtual 43, 3) := by decide +kernel
theorem dX6_copyFrom_19 : decode cX6_copyFrom 19 = .ok (.aload_n 0, 1) := by decide +kernel
theorem dX6_copyFrom_20 : decode cX6_copyFrom 20 = .ok (.aload_n 1, 1) := by decide +kernel
theorem dX6_copyFrom_21 : decode cX6_copyFrom 21 = .ok (.getfield 15, 3) := by decide +kernel
theorem dX6_copyFrom_24 : decode cX6_copyFrom 24 = .ok (.putfield 15, 3) := by decide +kernel
theorem dX6_copyFrom_27 : decode cX6_copyFrom 27 = .ok (.iconst 0, 1) := by decide +kernel
theorem dX6_copyFrom_28 : decode cX6_copyFrom 28 = .ok (.istore_n 2, 1) := by decide +kernel
theorem dX6_copyFrom_29 : decode cX6_copyFrom 29 = .ok (.iload_n 2, 1) := by decide +kernel
theorem dX6_copyFrom_30 : decode cX6_copyFrom 30 = .ok (.aload_n 0, 1) := by decide +kernel
theorem dX6_copyFrom_31 : decode cX6_copyFrom 31 = .ok (.getfield 15, 3) := by decide +kernel
theorem dX6_copyFrom_34 : decode cX6_copyFrom 34 = .ok (.if_icmp .ge 37, 3) := by decide +kernel
theorem dX6_copyFrom_37 : decode cX6_copyFrom 37 = .ok (.aload_n 0, 1) := by decide +kernel
theorem dX6_copyFrom_38 : decode cX6_copyFrom 38 = .ok (.iload_n 2, 1) := by decide +kernel
theorem dX6_copyFrom_39 : decode cX6_copyFrom 39 = .ok (.invokevirtual 47, 3) := by decide +kernel
theorem dX6_copyFrom_42 : decode cX6_copyFrom 42 = .ok (.astore_n 3, 1) := by decide +kernel
theorem dX6_copyFrom_43 : decode cX6_copyFrom 43 = .ok (.aload_n 1, 1) := by decide +kernel
theorem dX6_copyFrom_44 : decode cX6_copyFrom 44 = .ok (.iload_n 2, 1) := by decide +kernel
theorem dX6_copyFrom_45 : decode cX6_copyFrom 45 = .ok (.invokevirtual 47, 3) := by decide +kernel
theorem dX6_copyFrom_48 : decode cX6_copyFrom 48 = .ok (.astore 4, 2) := by decide +kernel
theorem dX6_copyFrom_50 : decode cX6_copyFrom 50 = .ok (.aload_n 3, 1) := by decide +kernel
theorem dX6_copyFrom_51 : decode cX6_copyFrom 51 = .ok (.ifnull 14, 3) := by decide +kernel
theorem dX6_copyFrom_54 : decode cX6_copyFrom 54 = .ok (.aload 4, 2) := by decide +kernel
theorem dX6_copyFrom_56 : decode cX6_copyFrom 56 = .ok (.ifnull 9, 3) := by decide +kernel
theorem dX6_copyFrom_59 : decode cX6_copyFrom 59 = .ok (.aload_n 3, 1) := by decide +kernel
theorem dX6_copyFrom_60 : decode cX6_copyFrom 60 = .ok (.aload 4, 2) := by decide +kernel
theorem dX6_copyFrom_62 : decode cX6_copyFrom 62 = .ok (.invokevirtual 51, 3) := by decide +kernel
theorem dX6_copyFrom_65 : decode cX6_copyFrom 65 = .ok (.iinc 2 1, 3) := by decide +kernel
theorem dX6_copyFrom_68 : decode cX6_copyFrom 68 = .ok (.goto (-39), 3) := by decide +kernel
theorem dX6_copyFrom_71 : decode cX6_copyFrom 71 = .ok (.aload_n 0, 1) := by decide +kernel
theorem dX6_copyFrom_72 : decode cX6_copyFrom 72 = .ok (.aload_n 1, 1) := by decide +kernel
theorem dX6_copyFrom_73 : decode cX6_copyFrom 73 = .ok (.getfield 18, 3) := by decide +kernel
theorem dX6_copyFrom_76 : decode cX6_copyFrom 76 = .ok (.putfield 18, 3) := by decide +kernel
theorem dX6_copyFrom_79 : decode cX6_copyFrom 79 = .ok (.iconst 0, 1) := by decide +kernel
theorem dX6_copyFrom_80 : decode cX6_copyFrom 80 = .ok (.istore_n 2, 1) := by decide +kernel
theorem dX6_copyFrom_81 : decode cX6_copyFrom 81 = .ok (.iload_n 2, 1) := by decide +kernel
theorem dX6_copyFrom_82 : decode cX6_copyFrom 82 = .ok (.aload_n 0, 1) := by decide +kernel
theorem dX6_copyFrom_83 : decode cX6_copyFrom 83 = .ok (.getfield 18, 3) := by decide +kernel
theorem dX6_copyFrom_86 : decode cX6_copyFrom 86 = .ok (.if_icmp .ge 37, 3) := by decide +kernel
theorem dX6_copyFrom_89 : decode cX6_copyFrom 89 = .ok (.aload_n 0, 1) := by decide +kernel
theorem dX6_copyFrom_90 : decode cX6_copyFrom 90 = .ok (.iload_n 2, 1) := by decide +kernel
theorem dX6_copyFrom_91 : decode cX6_copyFrom 91 = .ok (.invokevirtual 54, 3) := by decide +kernel
theorem dX6_copyFrom_94 : decode cX6_copyFrom 94 = .ok (.astore_n 3, 1) := by decide +kernel
theorem dX6_copyFrom_95 : decode cX6_copyFrom 95 = .ok (.aload_n 1, 1) := by decide +kernel
theorem dX6_copyFrom_96 : decode cX6_copyFrom 96 = .ok (.iload_n 2, 1) := by decide +kernel
theorem dX6_copyFrom_97 : decode cX6_copyFrom 97 = .ok (.invokevirtual 54, 3) := by decide +kernel
theorem dX6_copyFrom_100 : decode cX6_copyFrom 100 = .ok (.astore 4, 2) := by decide +kernel
theorem dX6_copyFrom_102 : decode cX6_copyFrom 102 = .ok (.aload_n 3, 1) := by decide +kernel
theorem dX6_copyFrom_103 : decode cX6_copyFrom 103 = .ok (.ifnull 14, 3) := by decide +kernel
theorem dX6_copyFrom_106 : decode cX6_copyFrom 106 = .ok (.aload 4, 2) := by decide +kernel
theorem dX6_copyFrom_108 : decode cX6_copyFrom 108 = .ok (.ifnull 9, 3) := by decide +kernel
theorem dX6_copyFrom_111 : decode cX6_copyFrom 111 = .ok (.aload_n 3, 1) := by decide +kernel
theorem dX6_copyFrom_112 : decode cX6_copyFrom 112 = .ok (.aload 4, 2) := by decide +kernel
theorem dX6_copyFrom_114 : decode cX6_copyFrom 114 = .ok (.invokevirtual 43, 3) := by decide +kernel
theorem dX6_copyFrom_117 : decode cX6_copyFrom 117 = .ok (.iinc 2 1, 3) := by decide +kernel
theorem dX6_copyFrom_120 : decode cX6_copyFrom 120 = .ok (.goto (-39), 3) := by decide +kernel
theorem dX6_copyFrom_123 : decode cX6_copyFrom 123 = .ok (.return_, 1) := by decide +kernel
theorem dX6_isPoint_0 : decode cX6_isPoint 0 = .ok (.iload_n 1, 1) := by decide +kernel
theorem dX6_isPoint_1 : decode cX6_isPoint 1 = .ok (.ifCond .lt 15, 3) := by decide +kernel
theorem dX6_isPoint_4 : decode cX6_isPoint 4 = .ok (.iload_n 1, 1) := by decide +kernel
theorem dX6_isPoint_5 : decode cX6_isPoint 5 = .ok (.aload_n 0, 1) := by decide +kernel
theorem dX6_isPoint_6 : decode cX6_isPoint 6 = .ok (.getfield 9, 3) := by decide +kernel
theorem dX6_isPoint_9 : decode cX6_isPoint 9 = .ok (.if_icmp .ge 7, 3) := by decide +kernel
theorem dX6_isPoint_12 : decode cX6_isPoint 12 = .ok (.iconst 1, 1) := by decide +kernel
theorem dX6_isPoint_13 : decode cX6_isPoint 13 = .ok (.goto 4, 3) := by decide +kernel
theorem dX6_isPoint_16 : decode cX6_isPoint 16 = .ok (.iconst 0, 1) := by decide +kernel
theorem dX6_isPoint_17 : decode cX6_isPoint 17 = .ok (.ireturn, 1) := by decide +kernel
theorem dX6_isSize_0 : decode cX6_isSize 0 = .ok (.iload_n 1, 1) := by decide +kernel
theorem dX6_isSize_1 : decode cX6_isSize 1 = .ok (.ifCond .lt 15, 3) := by decide +kernel
theorem dX6_isSize_4 : decode cX6_isSize 4 = .ok (.iload_n 1, 1) := by decide +kernel
theorem dX6_isSize_5 : decode cX6_isSize 5 = .ok (.aload_n 0, 1) := by decide +kernel
theorem dX6_isSize_6 : decode cX6_isSize 6 = .ok (.getfield 9, 3) := by decide +kernel
theorem dX6_isSize_9 : decode cX6_isSize 9 = .ok (.if_icmp .gt 7, 3) := by decide +kernel
theorem dX6_isSize_12 : decode cX6_isSize 12 = .ok (.iconst 1, 1) := by decide +kernel
theorem dX6_isSize_13 : decode cX6_isSize 13 = .ok (.goto 4, 3) := by decide +kernel
theorem dX6_isSize_16 : decode cX6_isSize 16 = .ok (.iconst 0, 1) := by decide +kernel
theorem dX6_isSize_17 : decode cX6_isSize 17 = .ok (.ireturn, 1) := by decide +kernel
theorem dX6_isSet_0 : decode cX6_isSet 0 = .ok (.iload_n 1, 1) := by decide +kernel
theorem dX6_isSet_1 : decode cX6_isSet 1 = .ok (.ifCond .lt 15, 3) := by decide +kernel
theorem dX6_isSet_4 : decode cX6_isSet 4 = .ok (.iload_n 1, 1) := by decide +kernel
theorem dX6_isSet_5 : decode cX6_isSet 5 = .ok (.aload_n 0, 1) := by decide +kernel
theorem dX6_isSet_6 : decode cX6_isSet 6 = .ok (.invokevirtual 58, 3) := by decide +kernel
theorem dX6_isSet_9 : decode cX6_isSet 9 = .ok (.if_icmp .gt 7, 3) := by decide +kernel
theorem dX6_isSet_12 : decode cX6_isSet 12 = .ok (.iconst 1, 1) := by decide +kernel
theorem dX6_isSet_13 : decode cX6_isSet 13 = .ok (.goto 4, 3) := by decide +kernel
theorem dX6_isSet_16 : decode cX6_isSet 16 = .ok (.iconst 0, 1) := by decide +kernel
theorem dX6_isSet_17 : decode cX6_isSet 17 = .ok (.ireturn, 1) := by decide +kernel
theorem dX6_whole_0 : decode cX6_whole 0 = .ok (.iconst 1, 1) := by decide +kernel
theorem dX6_whole_1 : decode cX6_whole 1 = .ok (.aload_n 0, 1) := by decide +kernel
theorem dX6_whole_2 : decode cX6_whole 2 = .ok (.getfield 9, 3) := by decide +kernel
theorem dX6_whole_5 : decode cX6_whole 5 = .ok (.ishl, 1) := by decide +kernel
theorem dX6_whole_6 : decode cX6_whole 6 = .ok (.iconst 1, 1) := by decide +kernel
theorem dX6_whole_7 : decode cX6_whole 7 = .ok (.isub, 1) := by decide +kernel
theorem dX6_whole_8 : decode cX6_whole 8 = .ok (.ireturn, 1) := by decide +kernel
theorem dX6_wayAt_0 : decode cX6_wayAt 0 = .ok (.iload_n 1, 1) := by decide +kernel
theorem dX6_wayAt_1 : decode cX6_wayAt 1 = .ok (.ifCond .lt 20, 3) := by decide +kernel
theorem dX6_wayAt_4 : decode cX6_wayAt 4 = .ok (.iload_n 1, 1) := by decide +kernel
theorem dX6_wayAt_5 : decode cX6_wayAt 5 = .ok (.aload_n 0, 1) := by decide +kernel
theorem dX6_wayAt_6 : decode cX6_wayAt 6 = .ok (.getfield 15, 3) := by decide +kernel
theorem dX6_wayAt_9 : decode cX6_wayAt 9 = .ok (.if_icmp .ge 12, 3) := by decide +kernel
theorem dX6_wayAt_12 : decode cX6_wayAt 12 = .ok (.iload_n 1, 1) := by decide +kernel
theorem dX6_wayAt_13 : decode cX6_wayAt 13 = .ok (.aload_n 0, 1) := by decide +kernel
theorem dX6_wayAt_14 : decode cX6_wayAt 14 = .ok (.getfield 30, 3) := by decide +kernel
theorem dX6_wayAt_17 : decode cX6_wayAt 17 = .ok (.arraylength, 1) := by decide +kernel
theorem dX6_wayAt_18 : decode cX6_wayAt 18 = .ok (.if_icmp .lt 5, 3) := by decide +kernel
theorem dX6_wayAt_21 : decode cX6_wayAt 21 = .ok (.aconst_null, 1) := by decide +kernel
theorem dX6_wayAt_22 : decode cX6_wayAt 22 = .ok (.areturn, 1) := by decide +kernel
theorem dX6_wayAt_23 : decode cX6_wayAt 23 = .ok (.aload_n 0, 1) := by decide +kernel
theorem dX6_wayAt_24 : decode cX6_wayAt 24 = .ok (.getfield 30, 3) := by decide +kernel
theorem dX6_wayAt_27 : decode cX6_wayAt 27 = .ok (.iload_n 1, 1) := by decide +kernel
theorem dX6_wayAt_28 : decode cX6_wayAt 28 = .ok (.aaload, 1) := by decide +kernel
theorem dX6_wayAt_29 : decode cX6_wayAt 29 = .ok (.areturn, 1) := by decide +kernel
theorem dX6_spareWay_0 : decode cX6_spareWay 0 = .ok (.aload_n 0, 1) := by decide +kernel
theorem dX6_spareWay_1 : decode cX6_spareWay 1 = .ok (.getfield 15, 3) := by decide +kernel
theorem dX6_spareWay_4 : decode cX6_spareWay 4 = .ok (.ifCond .lt 15, 3) := by decide +kernel
theorem dX6_spareWay_7 : decode cX6_spareWay 7 = .ok (.aload_n 0, 1) := by decide +kernel
theorem dX6_spareWay_8 : decode cX6_spareWay 8 = .ok (.getfield 15, 3) := by decide +kernel
theorem dX6_spareWay_11 : decode cX6_spareWay 11 = .ok (.aload_n 0, 1) := by decide +kernel
theorem dX6_spareWay_12 : decode cX6_spareWay 12 = .ok (.getfield 30, 3) := by decide +kernel
theorem dX6_spareWay_15 : decode cX6_spareWay 15 = .ok (.arraylength, 1) := by decide +kernel
theorem dX6_spareWay_16 : decode cX6_spareWay 16 = .ok (.if_icmp .lt 5, 3) := by decide +kernel
theorem dX6_spareWay_19 : decode cX6_spareWay 19 = .ok (.aconst_null, 1) := by decide +kernel
theorem dX6_spareWay_20 : decode cX6_spareWay 20 = .ok (.areturn, 1) := by decide +kernel
theorem dX6_spareWay_21 : decode cX6_spareWay 21 = .ok (.aload_n 0, 1) := by decide +kernel
theorem dX6_spareWay_22 : decode cX6_spareWay 22 = .ok (.getfield 30, 3) := by decide +kernel
theorem dX6_spareWay_25 : decode cX6_spareWay 25 = .ok (.aload_n 0, 1) := by decide +kernel
theorem dX6_spareWay_26 : decode cX6_spareWay 26 = .ok (.getfield 15, 3) := by decide +kernel
theorem dX6_spareWay_29 : decode cX6_spareWay 29 = .ok (.aaload, 1) := by decide +kernel
theorem dX6_spareWay_30 : decode cX6_spareWay 30 = .ok (.areturn, 1) := by decide +kernel
theorem dX6_removeWay_0 : decode cX6_removeWay 0 = .ok (.iload_n 1, 1) := by decide +kernel
theorem dX6_removeWay_1 : decode cX6_removeWay 1 = .ok (.istore_n 2, 1) := by decide +kernel
theorem dX6_removeWay_2 : decode cX6_removeWay 2 = .ok (.iload_n 2, 1) := by decide +kernel
theorem dX6_removeWay_3 : decode cX6_removeWay 3 = .ok (.aload_n 0, 1) := by decide +kernel
theorem dX6_removeWay_4 : decode cX6_removeWay 4 = .ok (.getfield 15, 3) := by decide +kernel
theorem dX6_removeWay_7 : decode cX6_removeWay 7 = .ok (.iconst 1, 1) := by decide +kernel
theorem dX6_removeWay_8 : decode cX6_removeWay 8 = .ok (.isub, 1) := by decide +kernel
theorem dX6_removeWay_9 : decode cX6_removeWay 9 = .ok (.if_icmp .ge 39, 3) := by decide +kernel
theorem dX6_removeWay_12 : decode cX6_removeWay 12 = .ok (.aload_n 0, 1) := by decide +kernel
theorem dX6_removeWay_13 : decode cX6_removeWay 13 = .ok (.iload_n 2, 1) := by decide +kernel
theorem dX6_removeWay_14 : decode cX6_removeWay 14 = .ok (.invokevirtual 47, 3) := by decide +kernel
theorem dX6_removeWay_17 : decode cX6_removeWay 17 = .ok (.astore_n 3, 1) := by decide +kernel
theorem dX6_removeWay_18 : decode cX6_removeWay 18 = .ok (.aload_n 0, 1) := by decide +kernel
theorem dX6_removeWay_19 : decode cX6_removeWay 19 = .ok (.iload_n 2, 1) := by decide +kernel
theorem dX6_removeWay_20 : decode cX6_removeWay 20 = .ok (.iconst 1, 1) := by decide +kernel
theorem dX6_removeWay_21 : decode cX6_removeWay 21 = .ok (.iadd, 1) := by decide +kernel
theorem dX6_removeWay_22 : decode cX6_removeWay 22 = .ok (.invokevirtual 47, 3) := by decide +kernel
theorem dX6_removeWay_25 : decode cX6_removeWay 25 = .ok (.astore 4, 2) := by decide +kernel
theorem dX6_removeWay_27 : decode cX6_removeWay 27 = .ok (.aload_n 3, 1) := by decide +kernel
theorem dX6_removeWay_28 : decode cX6_removeWay 28 = .ok (.ifnull 14, 3) := by decide +kernel
theorem dX6_removeWay_31 : decode cX6_removeWay 31 = .ok (.aload 4, 2) := by decide +kernel
theorem dX6_removeWay_33 : decode cX6_removeWay 33 = .ok (.ifnull 9, 3) := by decide +kernel
theorem dX6_removeWay_36 : decode cX6_removeWay 36 = .ok (.aload_n 3, 1) := by decide +kernel
theorem dX6_removeWay_37 : decode cX6_removeWay 37 = .ok (.aload 4, 2) := by decide +kernel
theorem dX6_removeWay_39 : decode cX6_removeWay 39 = .ok (.invokevirtual 51, 3) := by decide +kernel
theorem dX6_removeWay_42 : decode cX6_removeWay 42 = .ok (.iinc 2 1, 3) := by decide +kernel
theorem dX6_removeWay_45 : decode cX6_removeWay 45 = .ok (.goto (-43), 3) := by decide +kernel
theorem dX6_removeWay_48 : decode cX6_removeWay 48 = .ok (.aload_n 0, 1) := by decide +kernel
theorem dX6_removeWay_49 : decode cX6_removeWay 49 = .ok (.dup, 1) := by decide +kernel
theorem dX6_removeWay_50 : decode cX6_removeWay 50 = .ok (.getfield 15, 3) := by decide +kernel
theorem dX6_removeWay_53 : decode cX6_removeWay 53 = .ok (.iconst 1, 1) := by decide +kernel
theorem dX6_removeWay_54 : decode cX6_removeWay 54 = .ok (.isub, 1) := by decide +kernel
theorem dX6_removeWay_55 : decode cX6_removeWay 55 = .ok (.putfield 15, 3) := by decide +kernel
theorem dX6_removeWay_58 : decode cX6_removeWay 58 = .ok (.return_, 1) := by decide +kernel
theorem dX6_designAt_0 : decode cX6_designAt 0 = .ok (.iload_n 1, 1) := by decide +kernel
theorem dX6_designAt_1 : decode cX6_designAt 1 = .ok (.ifCond .lt 20, 3) := by decide +kernel
theorem dX6_designAt_4 : decode cX6_designAt 4 = .ok (.iload_n 1, 1) := by decide +kernel
theorem dX6_designAt_5 : decode cX6_designAt 5 = .ok (.aload_n 0, 1) := by decide +kernel
theorem dX6_designAt_6 : decode cX6_designAt 6 = .ok (.getfield 18, 3) := by decide +kernel
theorem dX6_designAt_9 : decode cX6_designAt 9 = .ok (.if_icmp .ge 12, 3) := by decide +kernel
theorem dX6_designAt_12 : decode cX6_designAt 12 = .ok (.iload_n 1, 1) := by decide +kernel
theorem dX6_designAt_13 : decode cX6_designAt 13 = .ok (.aload_n 0, 1) := by decide +kernel
theorem dX6_designAt_14 : decode cX6_designAt 14 = .ok (.getfield 35, 3) := by decide +kernel
theorem dX6_designAt_17 : decode cX6_designAt 17 = .ok (.arraylength, 1) := by decide +kernel
theorem dX6_designAt_18 : decode cX6_designAt 18 = .ok (.if_icmp .lt 5, 3) := by decide +kernel
theorem dX6_designAt_21 : decode cX6_designAt 21 = .ok (.aconst_null, 1) := by decide +kernel
theorem dX6_designAt_22 : decode cX6_designAt 22 = .ok (.areturn, 1) := by decide +kernel
theorem dX6_designAt_23 : decode cX6_designAt 23 = .ok (.aload_n 0, 1) := by decide +kernel
theorem dX6_designAt_24 : decode cX6_designAt 24 = .ok (.getfield 35, 3) := by decide +kernel
theorem dX6_designAt_27 : decode cX6_designAt 27 = .ok (.iload_n 1, 1) := by decide +kernel
theorem dX6_designAt_28 : decode cX6_designAt 28 = .ok (.aaload, 1) := by decide +kernel
theorem dX6_designAt_29 : decode cX6_designAt 29 = .ok (.areturn, 1) := by decide +kernel
theorem dX6_spareDesign_0 : decode cX6_spareDesign 0 = .ok (.aload_n 0, 1) := by decide +kernel
theorem dX6_spareDesign_1 : decode cX6_spareDesign 1 = .ok (.getfield 18, 3) := by decide +kernel
theorem dX6_spareDesign_4 : decode cX6_spareDesign 4 = .ok (.ifCond .lt 15, 3) := by decide +kernel
theorem dX6_spareDesign_7 : decode cX6_spareDesign 7 = .ok (.aload_n 0, 1) := by decide +kernel
theorem dX6_spareDesign_8 : decode cX6_spareDesign 8 = .ok (.getfield 18, 3) := by decide +kernel
theorem dX6_spareDesign_11 : decode cX6_spareDesign 11 = .ok (.aload_n 0, 1) := by decide +kernel
theorem dX6_spareDesign_12 : decode cX6_spareDesign 12 = .ok (.getfield 35, 3) := by decide +kernel
theorem dX6_spareDesign_15 : decode cX6_spareDesign 15 = .ok (.arraylength, 1) := by decide +kernel
theorem dX6_spareDesign_16 : decode cX6_spareDesign 16 = .ok (.if_icmp .lt 5, 3) := by decide +kernel
theorem dX6_spareDesign_19 : decode cX6_spareDesign 19 = .ok (.aconst_null, 1) := by decide +kernel
theorem dX6_spareDesign_20 : decode cX6_spareDesign 20 = .ok (.areturn, 1) := by decide +kernel
theorem dX6_spareDesign_21 : decode cX6_spareDesign 21 = .ok (.aload_n 0, 1) := by decide +kernel
theorem dX6_spareDesign_22 : decode cX6_spareDesign 22 = .ok (.getfield 35, 3) := by decide +kernel
theorem dX6_spareDesign_25 : decode cX6_spareDesign 25 = .ok (.aload_n 0, 1) := by decide +kernel
theorem dX6_spareDesign_26 : decode cX6_spareDesign 26 = .ok (.getfield 18, 3) := by decide +kernel
theorem dX6_spareDesign_29 : decode cX6_spareDesign 29 = .ok (.aaload, 1) := by decide +kernel
theorem dX6_spareDesign_30 : decode cX6_spareDesign 30 = .ok (.areturn, 1) := by decide +kernel
theorem dX7_init_0 : decode cX7_init 0 = .ok (.aload_n 0, 1) := by decide +kernel
theorem dX7_init_1 : decode cX7_init 1 = .ok (.invokespecial 3, 3) := by decide +kernel
theorem dX7_init_4 : decode cX7_init 4 = .ok (.aload_n 0, 1) := by decide +kernel
theorem dX7_init_5 : decode cX7_init 5 = .ok (.iconst (-1), 1) := by decide +kernel
theorem dX7_init_6 : decode cX7_init 6 = .ok (.putfield 9, 3) := by decide +kernel
theorem dX7_init_9 : decode cX7_init 9 = .ok (.aload_n 0, 1) := by decide +kernel
theorem dX7_init_10 : decode cX7_init 10 = .ok (.iconst 0, 1) := by decide +kernel
theorem dX7_init_11 : decode cX7_init 11 = .ok (.putfield 15, 3) := by decide +kernel
theorem dX7_init_14 : decode cX7_init 14 = .ok (.aload_n 0, 1) := by decide +kernel
theorem dX7_init_15 : decode cX7_init 15 = .ok (.bipush 60, 2) := by decide +kernel
theorem dX7_init_17 : decode cX7_init 17 = .ok (.newarray .long, 2) := by decide +kernel
theorem dX7_init_19 : decode cX7_init 19 = .ok (.putfield 18, 3) := by decide +kernel
theorem dX7_init_22 : decode cX7_init 22 = .ok (.return_, 1) := by decide +kernel
theorem dX7_become_0 : decode cX7_become 0 = .ok (.aload_n 0, 1) := by decide +kernel
theorem dX7_become_1 : decode cX7_become 1 = .ok (.iload_n 1, 1) := by decide +kernel
theorem dX7_become_2 : decode cX7_become 2 = .ok (.putfield 9, 3) := by decide +kernel
theorem dX7_become_5 : decode cX7_become 5 = .ok (.aload_n 0, 1) := by decide +kernel
theorem dX7_become_6 : decode cX7_become 6 = .ok (.iconst 0, 1) := by decide +kernel
theorem dX7_become_7 : decode cX7_become 7 = .ok (.iload_n 2, 1) := by decide +kernel
theorem dX7_become_8 : decode cX7_become 8 = .ok (.aload_n 0, 1) := by decide +kernel
theorem dX7_become_9 : decode cX7_become 9 = .ok (.getfield 18, 3) := by decide +kernel
theorem dX7_become_12 : decode cX7_become 12 = .ok (.arraylength, 1) := by decide +kernel
theorem dX7_become_13 : decode cX7_become 13 = .ok (.invokestatic 22, 3) := by decide +kernel
theorem dX7_become_16 : decode cX7_become 16 = .ok (.invokestatic 28, 3) := by decide +kernel
theorem dX7_become_19 : decode cX7_become 19 = .ok (.putfield 15, 3) := by decide +kernel
theorem dX7_become_22 : decode cX7_become 22 = .ok (.aload_n 0, 1) := by decide +kernel
theorem dX7_become_23 : decode cX7_become 23 = .ok (.getfield 18, 3) := by decide +kernel
theorem dX7_become_26 : decode cX7_become 26 = .ok (.lconst 0, 1) := by decide +kernel
theorem dX7_become_27 : decode cX7_become 27 = .ok (.invokestatic 31, 3) := by decide +kernel
theorem dX7_become_30 : decode cX7_become 30 = .ok (.return_, 1) := by decide +kernel
theorem dX7_isPlace_0 : decode cX7_isPlace 0 = .ok (.iload_n 1, 1) := by decide +kernel
theorem dX7_isPlace_1 : decode cX7_isPlace 1 = .ok (.ifCond .lt 24, 3) := by decide +kernel
theorem dX7_isPlace_4 : decode cX7_isPlace 4 = .ok (.iload_n 1, 1) := by decide +kernel
theorem dX7_isPlace_5 : decode cX7_isPlace 5 = .ok (.aload_n 0, 1) := by decide +kernel
theorem dX7_isPlace_6 : decode cX7_isPlace 6 = .ok (.getfield 15, 3) := by decide +kernel
theorem dX7_isPlace_9 : decode cX7_isPlace 9 = .ok (.if_icmp .ge 16, 3) := by decide +kernel
theorem dX7_isPlace_12 : decode cX7_isPlace 12 = .ok (.iload_n 1, 1) := by decide +kernel
theorem dX7_isPlace_13 : decode cX7_isPlace 13 = .ok (.aload_n 0, 1) := by decide +kernel
theorem dX7_isPlace_14 : decode cX7_isPlace 14 = .ok (.getfield 18, 3) := by decide +kernel
theorem dX7_isPlace_17 : decode cX7_isPlace 17 = .ok (.arraylength, 1) := by decide +kernel
theorem dX7_isPlace_18 : decode cX7_isPlace 18 = .ok (.if_icmp .ge 7, 3) := by decide +kernel
theorem dX7_isPlace_21 : decode cX7_isPlace 21 = .ok (.iconst 1, 1) := by decide +kernel
theorem dX7_isPlace_22 : decode cX7_isPlace 22 = .ok (.goto 4, 3) := by decide +kernel
theorem dX7_isPlace_25 : decode cX7_isPlace 25 = .ok (.iconst 0, 1) := by decide +kernel
theorem dX7_isPlace_26 : decode cX7_isPlace 26 = .ok (.ireturn, 1) := by decide +kernel
theorem dX7_itemAt_0 : decode cX7_itemAt 0 = .ok (.aload_n 0, 1) := by decide +kernel
theorem dX7_itemAt_1 : decode cX7_itemAt 1 = .ok (.iload_n 1, 1) := by decide +kernel
theorem dX7_itemAt_2 : decode cX7_itemAt 2 = .ok (.invokevirtual 37, 3) := by decide +kernel
theorem dX7_itemAt_5 : decode cX7_itemAt 5 = .ok (.ifCond .eq 12, 3) := by decide +kernel
theorem dX7_itemAt_8 : decode cX7_itemAt 8 = .ok (.aload_n 0, 1) := by decide +kernel
theorem dX7_itemAt_9 : decode cX7_itemAt 9 = .ok (.getfield 18, 3) := by decide +kernel
theorem dX7_itemAt_12 : decode cX7_itemAt 12 = .ok (.iload_n 1, 1) := by decide +kernel
theorem dX7_itemAt_13 : decode cX7_itemAt 13 = .ok (.laload, 1) := by decide +kernel
theorem dX7_itemAt_14 : decode cX7_itemAt 14 = .ok (.goto 6, 3) := by decide +kernel
theorem dX7_itemAt_17 : decode cX7_itemAt 17 = .ok (.ldc2_w 41, 3) := by decide +kernel
theorem dX7_itemAt_20 : decode cX7_itemAt 20 = .ok (.lreturn, 1) := by decide +kernel
theorem dX7_put_0 : decode cX7_put 0 = .ok (.aload_n 0, 1) := by decide +kernel
theorem dX7_put_1 : decode cX7_put 1 = .ok (.iload_n 1, 1) := by decide +kernel
theorem dX7_put_2 : decode cX7_put 2 = .ok (.invokevirtual 37, 3) := by decide +kernel
theorem dX7_put_5 : decode cX7_put 5 = .ok (.ifCond .eq 14, 3) := by decide +kernel
theorem dX7_put_8 : decode cX7_put 8 = .ok (.aload_n 0, 1) := by decide +kernel
theorem dX7_put_9 : decode cX7_put 9 = .ok (.getfield 18, 3) := by decide +kernel
theorem dX7_put_12 : decode cX7_put 12 = .ok (.iload_n 1, 1) := by decide +kernel
theorem dX7_put_13 : decode cX7_put 13 = .ok (.aload_n 0, 1) := by decide +kernel
theorem dX7_put_14 : decode cX7_put 14 = .ok (.lload_n 2, 1) := by decide +kernel
theorem dX7_put_15 : decode cX7_put 15 = .ok (.invokevirtual 43, 3) := by decide +kernel
theorem dX7_put_18 : decode cX7_put 18 = .ok (.lastore, 1) := by decide +kernel
theorem dX7_put_19 : decode cX7_put 19 = .ok (.return_, 1) := by decide +kernel
theorem dX7_cut_0 : decode cX7_cut 0 = .ok (.aload_n 0, 1) := by decide +kernel
theorem dX7_cut_1 : decode cX7_cut 1 = .ok (.getfield 9, 3) := by decide +kernel
theorem dX7_cut_4 : decode cX7_cut 4 = .ok (.tableswitch 62 0 4 #[36, 41, 46, 62, 50], 36) := by decide +kernel
theorem dX7_cut_40 : decode cX7_cut 40 = .ok (.lload_n 1, 1) := by decide +kernel
theorem dX7_cut_41 : decode cX7_cut 41 = .ok (.l2i, 1) := by decide +kernel
theorem dX7_cut_42 : decode cX7_cut 42 = .ok (.i2b, 1) := by decide +kernel
theorem dX7_cut_43 : decode cX7_cut 43 = .ok (.i2l, 1) := by decide +kernel
theorem dX7_cut_44 : decode cX7_cut 44 = .ok (.lreturn, 1) := by decide +kernel
theorem dX7_cut_45 : decode cX7_cut 45 = .ok (.lload_n 1, 1) := by decide +kernel
theorem dX7_cut_46 : decode cX7_cut 46 = .ok (.l2i, 1) := by decide +kernel
theorem dX7_cut_47 : decode cX7_cut 47 = .ok (.i2s, 1) := by decide +kernel
theorem dX7_cut_48 : decode cX7_cut 48 = .ok (.i2l, 1) := by decide +kernel
theorem dX7_cut_49 : decode cX7_cut 49 = .ok (.lreturn, 1) := by decide +kernel
theorem dX7_cut_50 : decode cX7_cut 50 = .ok (.lload_n 1, 1) := by decide +kernel
theorem dX7_cut_51 : decode cX7_cut 51 = .ok (.l2i, 1) := by decide +kernel
theorem dX7_cut_52 : decode cX7_cut 52 = .ok (.i2l, 1) := by decide +kernel
theorem dX7_cut_53 : decode cX7_cut 53 = .ok (.lreturn, 1) := by decide +kernel
theorem dX7_cut_54 : decode cX7_cut 54 = .ok (.lload_n 1, 1) := by decide +kernel
theorem dX7_cut_55 : decode cX7_cut 55 = .ok (.lconst 0, 1) := by decide +kernel
theorem dX7_cut_56 : decode cX7_cut 56 = .ok (.lcmp, 1) := by decide +kernel
theorem dX7_cut_57 : decode cX7_cut 57 = .ok (.ifCond .eq 7, 3) := by decide +kernel
theorem dX7_cut_60 : decode cX7_cut 60 = .ok (.lconst 1, 1) := by decide +kernel
theorem dX7_cut_61 : decode cX7_cut 61 = .ok (.goto 4, 3) := by decide +kernel
theorem dX7_cut_64 : decode cX7_cut 64 = .ok (.lconst 0, 1) := by decide +kernel
theorem dX7_cut_65 : decode cX7_cut 65 = .ok (.lreturn, 1) := by decide +kernel
theorem dX7_cut_66 : decode cX7_cut 66 = .ok (.lload_n 1, 1) := by decide +kernel
theorem dX7_cut_67 : decode cX7_cut 67 = .ok (.lreturn, 1) := by decide +kernel
theorem dX7_hasPlaces_0 : decode cX7_hasPlaces 0 = .ok (.iload_n 2, 1) := by decide +kernel
theorem dX7_hasPlaces_1 : decode cX7_hasPlaces 1 = .ok (.ifCond .lt 29, 3) := by decide +kernel
theorem dX7_hasPlaces_4 : decode cX7_hasPlaces 4 = .ok (.iload_n 1, 1) := by decide +kernel
theorem dX7_hasPlaces_5 : decode cX7_hasPlaces 5 = .ok (.ifCond .lt 25, 3) := by decide +kernel
theorem dX7_hasPlaces_8 : decode cX7_hasPlaces 8 = .ok (.iload_n 1, 1) := by decide +kernel
theorem dX7_hasPlaces_9 : decode cX7_hasPlaces 9 = .ok (.aload_n 0, 1) := by decide +kernel
theorem dX7_hasPlaces_10 : decode cX7_hasPlaces 10 = .ok (.getfield 15, 3) := by decide +kernel
theorem dX7_hasPlaces_13 : decode cX7_hasPlaces 13 = .ok (.if_icmp .gt 17, 3) := by decide +kernel
theorem dX7_hasPlaces_16 : decode cX7_hasPlaces 16 = .ok (.iload_n 2, 1) := by decide +kernel
theorem dX7_hasPlaces_17 : decode cX7_hasPlaces 17 = .ok (.aload_n 0, 1) := by decide +kernel
theorem dX7_hasPlaces_18 : decode cX7_hasPlaces 18 = .ok (.getfield 15, 3) := by decide +kernel
theorem dX7_hasPlaces_21 : decode cX7_hasPlaces 21 = .ok (.iload_n 1, 1) := by decide +kernel
theorem dX7_hasPlaces_22 : decode cX7_hasPlaces 22 = .ok (.isub, 1) := by decide +kernel
theorem dX7_hasPlaces_23 : decode cX7_hasPlaces 23 = .ok (.if_icmp .gt 7, 3) := by decide +kernel
theorem dX7_hasPlaces_26 : decode cX7_hasPlaces 26 = .ok (.iconst 1, 1) := by decide +kernel
theorem dX7_hasPlaces_27 : decode cX7_hasPlaces 27 = .ok (.goto 4, 3) := by decide +kernel
theorem dX7_hasPlaces_30 : decode cX7_hasPlaces 30 = .ok (.iconst 0, 1) := by decide +kernel
theorem dX7_hasPlaces_31 : decode cX7_hasPlaces 31 = .ok (.ireturn, 1) := by decide +kernel
theorem dX7_copyItems_0 : decode cX7_copyItems 0 = .ok (.aload_n 0, 1) := by decide +kernel
theorem dX7_copyItems_1 : decode cX7_copyItems 1 = .ok (.iload_n 1, 1) := by decide +kernel
theorem dX7_copyItems_2 : decode cX7_copyItems 2 = .ok (.iload 4, 2) := by decide +kernel
theorem dX7_copyItems_4 : decode cX7_copyItems 4 = .ok (.invokevirtual 47, 3) := by decide +kernel
theorem dX7_copyItems_7 : decode cX7_copyItems 7 = .ok (.ifCond .eq 13, 3) := by decide +kernel
theorem dX7_copyItems_10 : decode cX7_copyItems 10 = .ok (.aload_n 2, 1) := by decide +kernel
theorem dX7_copyItems_11 : decode cX7_copyItems 11 = .ok (.iload_n 3, 1) := by decide +kernel
theorem dX7_copyItems_12 : decode cX7_copyItems 12 = .ok (.iload 4, 2) := by decide +kernel
theorem dX7_copyItems_14 : decode cX7_copyItems 14 = .ok (.invokevirtual 47, 3) := by decide +kernel
theorem dX7_copyItems_17 : decode cX7_copyItems 17 = .ok (.ifCond .ne 4, 3) := by decide +kernel
theorem dX7_copyItems_20 : decode cX7_copyItems 20 = .ok (.return_, 1) := by decide +kernel
theorem dX7_copyItems_21 : decode cX7_copyItems 21 = .ok (.aload_n 2, 1) := by decide +kernel
theorem dX7_copyItems_22 : decode cX7_copyItems 22 = .ok (.getfield 18, 3) := by decide +kernel
theorem dX7_copyItems_25 : decode cX7_copyItems 25 = .ok (.iload_n 3, 1) := by decide +kernel
theorem dX7_copyItems_26 : decode cX7_copyItems 26 = .ok (.aload_n 0, 1) := by decide +kernel
theorem dX7_copyItems_27 : decode cX7_copyItems 27 = .ok (.getfield 18, 3) := by decide +kernel
theorem dX7_copyItems_30 : decode cX7_copyItems 30 = .ok (.iload_n 1, 1) := by decide +kernel
theorem dX7_copyItems_31 : decode cX7_copyItems 31 = .ok (.iload 4, 2) := by decide +kernel
theorem dX7_copyItems_33 : decode cX7_copyItems 33 = .ok (.invokestatic 51, 3) := by decide +kernel
theorem dX7_copyItems_36 : decode cX7_copyItems 36 = .ok (.return_, 1) := by decide +kernel
theorem dX8_init_0 : decode cX8_init 0 = .ok (.aload_n 0, 1) := by decide +kernel
theorem dX8_init_1 : decode cX8_init 1 = .ok (.invokespecial 3, 3) := by decide +kernel
theorem dX8_init_4 : decode cX8_init 4 = .ok (.aload_n 0, 1) := by decide +kernel
theorem dX8_init_5 : decode cX8_init 5 = .ok (.iconst 0, 1) := by decide +kernel
theorem dX8_init_6 : decode cX8_init 6 = .ok (.putfield 9, 3) := by decide +kernel
theorem dX8_init_9 : decode cX8_init 9 = .ok (.aload_n 0, 1) := by decide +kernel
theorem dX8_init_10 : decode cX8_init 10 = .ok (.bipush 100, 2) := by decide +kernel
theorem dX8_init_12 : decode cX8_init 12 = .ok (.newarray .int, 2) := by decide +kernel
theorem dX8_init_14 : decode cX8_init 14 = .ok (.putfield 15, 3) := by decide +kernel
theorem dX8_init_17 : decode cX8_init 17 = .ok (.return_, 1) := by decide +kernel
theorem dX8_append_0 : decode cX8_append 0 = .ok (.aload_n 0, 1) := by decide +kernel
theorem dX8_append_1 : decode cX8_append 1 = .ok (.getfield 9, 3) := by decide +kernel
theorem dX8_append_4 : decode cX8_append 4 = .ok (.ifCond .lt 15, 3) := by decide +kernel
theorem dX8_append_7 : decode cX8_append 7 = .ok (.aload_n 0, 1) := by decide +kernel
theorem dX8_append_8 : decode cX8_append 8 = .ok (.getfield 9, 3) := by decide +kernel
theorem dX8_append_11 : decode cX8_append 11 = .ok (.aload_n 0, 1) := by decide +kernel
theorem dX8_append_12 : decode cX8_append 12 = .ok (.getfield 15, 3) := by decide +kernel
theorem dX8_append_15 : decode cX8_append 15 = .ok (.arraylength, 1) := by decide +kernel
theorem dX8_append_16 : decode cX8_append 16 = .ok (.if_icmp .lt 5, 3) := by decide +kernel
theorem dX8_append_19 : decode cX8_append 19 = .ok (.iconst 0, 1) := by decide +kernel
theorem dX8_append_20 : decode cX8_append 20 = .ok (.ireturn, 1) := by decide +kernel
theorem dX8_append_21 : decode cX8_append 21 = .ok (.aload_n 0, 1) := by decide +kernel
theorem dX8_append_22 : decode cX8_append 22 = .ok (.getfield 15, 3) := by decide +kernel
theorem dX8_append_25 : decode cX8_append 25 = .ok (.aload_n 0, 1) := by decide +kernel
theorem dX8_append_26 : decode cX8_append 26 = .ok (.getfield 9, 3) := by decide +kernel
theorem dX8_append_29 : decode cX8_append 29 = .ok (.iload_n 1, 1) := by decide +kernel
theorem dX8_append_30 : decode cX8_append 30 = .ok (.iastore, 1) := by decide +kernel
theorem dX8_append_31 : decode cX8_append 31 = .ok (.aload_n 0, 1) := by decide +kernel
theorem dX8_append_32 : decode cX8_append 32 = .ok (.dup, 1) := by decide +kernel
theorem dX8_append_33 : decode cX8_append 33 = .ok (.getfield 9, 3) := by decide +kernel
theorem dX8_append_36 : decode cX8_append 36 = .ok (.iconst 1, 1) := by decide +kernel
theorem dX8_append_37 : decode cX8_append 37 = .ok (.iadd, 1) := by decide +kernel
theorem dX8_append_38 : decode cX8_append 38 = .ok (.putfield 9, 3) := by decide +kernel
theorem dX8_append_41 : decode cX8_append 41 = .ok (.iconst 1, 1) := by decide +kernel
theorem dX8_append_42 : decode cX8_append 42 = .ok (.ireturn, 1) := by decide +kernel
theorem dX8_signAt_0 : decode cX8_signAt 0 = .ok (.iload_n 1, 1) := by decide +kernel
theorem dX8_signAt_1 : decode cX8_signAt 1 = .ok (.ifCond .lt 29, 3) := by decide +kernel
theorem dX8_signAt_4 : decode cX8_signAt 4 = .ok (.iload_n 1, 1) := by decide +kernel
theorem dX8_signAt_5 : decode cX8_signAt 5 = .ok (.aload_n 0, 1) := by decide +kernel
theorem dX8_signAt_6 : decode cX8_signAt 6 = .ok (.getfield 9, 3) := by decide +kernel
theorem dX8_signAt_9 : decode cX8_signAt 9 = .ok (.if_icmp .ge 21, 3) := by decide +kernel
theorem dX8_signAt_12 : decode cX8_signAt 12 = .ok (.iload_n 1, 1) := by decide +kernel
theorem dX8_signAt_13 : decode cX8_signAt 13 = .ok (.aload_n 0, 1) := by decide +kernel
theorem dX8_signAt_14 : decode cX8_signAt 14 = .ok (.getfield 15, 3) := by decide +kernel
theorem dX8_signAt_17 : decode cX8_signAt 17 = .ok (.arraylength, 1) := by decide +kernel
theorem dX8_signAt_18 : decode cX8_signAt 18 = .ok (.if_icmp .ge 12, 3) := by decide +kernel
theorem dX8_signAt_21 : decode cX8_signAt 21 = .ok (.aload_n 0, 1) := by decide +kernel
theorem dX8_signAt_22 : decode cX8_signAt 22 = .ok (.getfield 15, 3) := by decide +kernel
theorem dX8_signAt_25 : decode cX8_signAt 25 = .ok (.iload_n 1, 1) := by decide +kernel
theorem dX8_signAt_26 : decode cX8_signAt 26 = .ok (.iaload, 1) := by decide +kernel
theorem dX8_signAt_27 : decode cX8_signAt 27 = .ok (.goto 4, 3) := by decide +kernel
theorem dX8_signAt_30 : decode cX8_signAt 30 = .ok (.iconst (-1), 1) := by decide +kernel
theorem dX8_signAt_31 : decode cX8_signAt 31 = .ok (.ireturn, 1) := by decide +kernel
theorem dX8_digitAt_0 : decode cX8_digitAt 0 = .ok (.aload_n 0, 1) := by decide +kernel
theorem dX8_digitAt_1 : decode cX8_digitAt 1 = .ok (.iload_n 1, 1) := by decide +kernel
theorem dX8_digitAt_2 : decode cX8_digitAt 2 = .ok (.invokevirtual 19, 3) := by decide +kernel
theorem dX8_digitAt_5 : decode cX8_digitAt 5 = .ok (.istore_n 2, 1) := by decide +kernel
theorem dX8_digitAt_6 : decode cX8_digitAt 6 = .ok (.iload_n 2, 1) := by decide +kernel
theorem dX8_digitAt_7 : decode cX8_digitAt 7 = .ok (.bipush 48, 2) := by decide +kernel
theorem dX8_digitAt_9 : decode cX8_digitAt 9 = .ok (.if_icmp .lt 16, 3) := by decide +kernel
theorem dX8_digitAt_12 : decode cX8_digitAt 12 = .ok (.iload_n 2, 1) := by decide +kernel
theorem dX8_digitAt_13 : decode cX8_digitAt 13 = .ok (.bipush 57, 2) := by decide +kernel
theorem dX8_digitAt_15 : decode cX8_digitAt 15 = .ok (.if_icmp .gt 10, 3) := by decide +kernel
theorem dX8_digitAt_18 : decode cX8_digitAt 18 = .ok (.iload_n 2, 1) := by decide +kernel
theorem dX8_digitAt_19 : decode cX8_digitAt 19 = .ok (.bipush 48, 2) := by decide +kernel
theorem dX8_digitAt_21 : decode cX8_digitAt 21 = .ok (.isub, 1) := by decide +kernel
theorem dX8_digitAt_22 : decode cX8_digitAt 22 = .ok (.goto 4, 3) := by decide +kernel
theorem dX8_digitAt_25 : decode cX8_digitAt 25 = .ok (.iconst (-1), 1) := by decide +kernel
theorem dX8_digitAt_26 : decode cX8_digitAt 26 = .ok (.ireturn, 1) := by decide +kernel
theorem dX8_digitsFrom_0 : decode cX8_digitsFrom 0 = .ok (.iconst 0, 1) := by decide +kernel
theorem dX8_digitsFrom_1 : decode cX8_digitsFrom 1 = .ok (.istore_n 3, 1) := by decide +kernel
theorem dX8_digitsFrom_2 : decode cX8_digitsFrom 2 = .ok (.iload_n 3, 1) := by decide +kernel
theorem dX8_digitsFrom_3 : decode cX8_digitsFrom 3 = .ok (.iload_n 2, 1) := by decide +kernel
theorem dX8_digitsFrom_4 : decode cX8_digitsFrom 4 = .ok (.if_icmp .ge 22, 3) := by decide +kernel
theorem dX8_digitsFrom_7 : decode cX8_digitsFrom 7 = .ok (.aload_n 0, 1) := by decide +kernel
theorem dX8_digitsFrom_8 : decode cX8_digitsFrom 8 = .ok (.iload_n 1, 1) := by decide +kernel
theorem dX8_digitsFrom_9 : decode cX8_digitsFrom 9 = .ok (.iload_n 3, 1) := by decide +kernel
theorem dX8_digitsFrom_10 : decode cX8_digitsFrom 10 = .ok (.iadd, 1) := by decide +kernel
theorem dX8_digitsFrom_11 : decode cX8_digitsFrom 11 = .ok (.invokevirtual 23, 3) := by decide +kernel
theorem dX8_digitsFrom_14 : decode cX8_digitsFrom 14 = .ok (.iconst (-1), 1) := by decide +kernel
theorem dX8_digitsFrom_15 : decode cX8_digitsFrom 15 = .ok (.if_icmp .ne 5, 3) := by decide +kernel
theorem dX8_digitsFrom_18 : decode cX8_digitsFrom 18 = .ok (.iload_n 3, 1) := by decide +kernel
theorem dX8_digitsFrom_19 : decode cX8_digitsFrom 19 = .ok (.ireturn, 1) := by decide +kernel
theorem dX8_digitsFrom_20 : decode cX8_digitsFrom 20 = .ok (.iinc 3 1, 3) := by decide +kernel
theorem dX8_digitsFrom_23 : decode cX8_digitsFrom 23 = .ok (.goto (-21), 3) := by decide +kernel
theorem dX8_digitsFrom_26 : decode cX8_digitsFrom 26 = .ok (.iload_n 2, 1) := by decide +kernel
theorem dX8_digitsFrom_27 : decode cX8_digitsFrom 27 = .ok (.ireturn, 1) := by decide +kernel
theorem dX8_numberIn_0 : decode cX8_numberIn 0 = .ok (.iconst 0, 1) := by decide +kernel
theorem dX8_numberIn_1 : decode cX8_numberIn 1 = .ok (.istore_n 3, 1) := by decide +kernel
theorem dX8_numberIn_2 : decode cX8_numberIn 2 = .ok (.iload_n 1, 1) := by decide +kernel
theorem dX8_numberIn_3 : decode cX8_numberIn 3 = .ok (.istore 4, 2) := by decide +kernel
theorem dX8_numberIn_5 : decode cX8_numberIn 5 = .ok (.iload 4, 2) := by decide +kernel
theorem dX8_numberIn_7 : decode cX8_numberIn 7 = .ok (.iload_n 2, 1) := by decide +kernel
theorem dX8_numberIn_8 : decode cX8_numberIn 8 = .ok (.if_icmp .ge 21, 3) := by decide +kernel
theorem dX8_numberIn_11 : decode cX8_numberIn 11 = .ok (.iload_n 3, 1) := by decide +kernel
theorem dX8_numberIn_12 : decode cX8_numberIn 12 = .ok (.bipush 10, 2) := by decide +kernel
theorem dX8_numberIn_14 : decode cX8_numberIn 14 = .ok (.imul, 1) := by decide +kernel
theorem dX8_numberIn_15 : decode cX8_numberIn 15 = .ok (.aload_n 0, 1) := by decide +kernel
theorem dX8_numberIn_16 : decode cX8_numberIn 16 = .ok (.iload 4, 2) := by decide +kernel
theorem dX8_numberIn_18 : decode cX8_numberIn 18 = .ok (.invokevirtual 23, 3) := by decide +kernel
theorem dX8_numberIn_21 : decode cX8_numberIn 21 = .ok (.iadd, 1) := by decide +kernel
theorem dX8_numberIn_22 : decode cX8_numberIn 22 = .ok (.istore_n 3, 1) := by decide +kernel
theorem dX8_numberIn_23 : decode cX8_numberIn 23 = .ok (.iinc 4 1, 3) := by decide +kernel
theorem dX8_numberIn_26 : decode cX8_numberIn 26 = .ok (.goto (-21), 3) := by decide +kernel
theorem dX8_numberIn_29 : decode cX8_numberIn 29 = .ok (.iload_n 3, 1) := by decide +kernel
theorem dX8_numberIn_30 : decode cX8_numberIn 30 = .ok (.ireturn, 1) := by decide +kernel
theorem dX8_fault_0 : decode cX8_fault 0 = .ok (.iconst 0, 1) := by decide +kernel
theorem dX8_fault_1 : decode cX8_fault 1 = .ok (.istore_n 1, 1) := by decide +kernel
theorem dX8_fault_2 : decode cX8_fault 2 = .ok (.iconst 1, 1) := by decide +kernel
theorem dX8_fault_3 : decode cX8_fault 3 = .ok (.istore_n 2, 1) := by decide +kernel
theorem dX8_fault_4 : decode cX8_fault 4 = .ok (.iload_n 2, 1) := by decide +kernel
theorem dX8_fault_5 : decode cX8_fault 5 = .ok (.bipush 12, 2) := by decide +kernel
theorem dX8_fault_7 : decode cX8_fault 7 = .ok (.if_icmp .gt 95, 3) := by decide +kernel
theorem dX8_fault_10 : decode cX8_fault 10 = .ok (.aload_n 0, 1) := by decide +kernel
theorem dX8_fault_11 : decode cX8_fault 11 = .ok (.iload_n 1, 1) := by decide +kernel
theorem dX8_fault_12 : decode cX8_fault 12 = .ok (.invokevirtual 19, 3) := by decide +kernel
theorem dX8_fault_15 : decode cX8_fault 15 = .ok (.istore_n 3, 1) := by decide +kernel
theorem dX8_fault_16 : decode cX8_fault 16 = .ok (.iload_n 3, 1) := by decide +kernel
theorem dX8_fault_17 : decode cX8_fault 17 = .ok (.invokestatic 26, 3) := by decide +kernel
theorem dX8_fault_20 : decode cX8_fault 20 = .ok (.istore 4, 2) := by decide +kernel
theorem dX8_fault_22 : decode cX8_fault 22 = .ok (.iload 4, 2) := by decide +kernel
theorem dX8_fault_24 : decode cX8_fault 24 = .ok (.ifCond .ne 5, 3) := by decide +kernel
theorem dX8_fault_27 : decode cX8_fault 27 = .ok (.iload_n 1, 1) := by decide +kernel
theorem dX8_fault_28 : decode cX8_fault 28 = .ok (.ireturn, 1) := by decide +kernel
theorem dX8_fault_29 : decode cX8_fault 29 = .ok (.aload_n 0, 1) := by decide +kernel
theorem dX8_fault_30 : decode cX8_fault 30 = .ok (.iload_n 1, 1) := by decide +kernel
theorem dX8_fault_31 : decode cX8_fault 31 = .ok (.iconst 1, 1) := by decide +kernel
theorem dX8_fault_32 : decode cX8_fault 32 = .ok (.iadd, 1) := by decide +kernel
theorem dX8_fault_33 : decode cX8_fault 33 = .ok (.iload 4, 2) := by decide +kernel
theorem dX8_fault_35 : decode cX8_fault 35 = .ok (.invokevirtual 29, 3) := by decide +kernel
theorem dX8_fault_38 : decode cX8_fault 38 = .ok (.istore 5, 2) := by decide +kernel
theorem dX8_fault_40 : decode cX8_fault 40 = .ok (.iload_n 1, 1) := by decide +kernel
theorem dX8_fault_41 : decode cX8_fault 41 = .ok (.iconst 1, 1) := by decide +kernel
theorem dX8_fault_42 : decode cX8_fault 42 = .ok (.iadd, 1) := by decide +kernel
theorem dX8_fault_43 : decode cX8_fault 43 = .ok (.iload 5, 2) := by decide +kernel
theorem dX8_fault_45 : decode cX8_fault 45 = .ok (.iadd, 1) := by decide +kernel
theorem dX8_fault_46 : decode cX8_fault 46 = .ok (.istore 6, 2) := by decide +kernel
theorem dX8_fault_48 : decode cX8_fault 48 = .ok (.iload 5, 2) := by decide +kernel
theorem dX8_fault_50 : decode cX8_fault 50 = .ok (.iload_n 3, 1) := by decide +kernel
theorem dX8_fault_51 : decode cX8_fault 51 = .ok (.invokestatic 33, 3) := by decide +kernel
theorem dX8_fault_54 : decode cX8_fault 54 = .ok (.if_icmp .ge 6, 3) := by decide +kernel
theorem dX8_fault_57 : decode cX8_fault 57 = .ok (.iload 6, 2) := by decide +kernel
theorem dX8_fault_59 : decode cX8_fault 59 = .ok (.ireturn, 1) := by decide +kernel
theorem dX8_fault_60 : decode cX8_fault 60 = .ok (.iload 6, 2) := by decide +kernel
theorem dX8_fault_62 : decode cX8_fault 62 = .ok (.aload_n 0, 1) := by decide +kernel
theorem dX8_fault_63 : decode cX8_fault 63 = .ok (.getfield 9, 3) := by decide +kernel
theorem dX8_fault_66 : decode cX8_fault 66 = .ok (.if_icmp .lt 5, 3) := by decide +kernel
theorem dX8_fault_69 : decode cX8_fault 69 = .ok (.iconst (-1), 1) := by decide +kernel
theorem dX8_fault_70 : decode cX8_fault 70 = .ok (.ireturn, 1) := by decide +kernel
theorem dX8_fault_71 : decode cX8_fault 71 = .ok (.aload_n 0, 1) := by decide +kernel
theorem dX8_fault_72 : decode cX8_fault 72 = .ok (.iload 6, 2) := by decide +kernel
theorem dX8_fault_74 : decode cX8_fault 74 = .ok (.invokevirtual 19, 3) := by decide +kernel
theorem dX8_fault_77 : decode cX8_fault 77 = .ok (.bipush 59, 2) := by decide +kernel
theorem dX8_fault_79 : decode cX8_fault 79 = .ok (.if_icmp .ne 9, 3) := by decide +kernel
theorem dX8_fault_82 : decode cX8_fault 82 = .ok (.iload_n 2, 1) := by decide +kernel
theorem dX8_fault_83 : decode cX8_fault 83 = .ok (.bipush 12, 2) := by decide +kernel
theorem dX8_fault_85 : decode cX8_fault 85 = .ok (.if_icmp .ne 6, 3) := by decide +kernel
theorem dX8_fault_88 : decode cX8_fault 88 = .ok (.iload 6, 2) := by decide +kernel
theorem dX8_fault_90 : decode cX8_fault 90 = .ok (.ireturn, 1) := by decide +kernel
theorem dX8_fault_91 : decode cX8_fault 91 = .ok (.iload 6, 2) := by decide +kernel
theorem dX8_fault_93 : decode cX8_fault 93 = .ok (.iconst 1, 1) := by decide +kernel
theorem dX8_fault_94 : decode cX8_fault 94 = .ok (.iadd, 1) := by decide +kernel
theorem dX8_fault_95 : decode cX8_fault 95 = .ok (.istore_n 1, 1) := by decide +kernel
theorem dX8_fault_96 : decode cX8_fault 96 = .ok (.iinc 2 1, 3) := by decide +kernel
theorem dX8_fault_99 : decode cX8_fault 99 = .ok (.goto (-95), 3) := by decide +kernel
theorem dX8_fault_102 : decode cX8_fault 102 = .ok (.iload_n 1, 1) := by decide +kernel
theorem dX8_fault_103 : decode cX8_fault 103 = .ok (.ireturn, 1) := by decide +kernel
theorem dX8_leastDigits_0 : decode cX8_leastDigits 0 = .ok (.iload_n 0, 1) := by decide +kernel
theorem dX8_leastDigits_1 : decode cX8_leastDigits 1 = .ok (.bipush 104, 2) := by decide +kernel
theorem dX8_leastDigits_3 : decode cX8_leastDigits 3 = .ok (.if_icmp .ne 7, 3) := by decide +kernel
theorem dX8_leastDigits_6 : decode cX8_leastDigits 6 = .ok (.iconst 3, 1) := by decide +kernel
theorem dX8_leastDigits_7 : decode cX8_leastDigits 7 = .ok (.goto 17, 3) := by decide +kernel
theorem dX8_leastDigits_10 : decode cX8_leastDigits 10 = .ok (.iload_n 0, 1) := by decide +kernel
theorem dX8_leastDigits_11 : decode cX8_leastDigits 11 = .ok (.bipush 98, 2) := by decide +kernel
theorem dX8_leastDigits_13 : decode cX8_leastDigits 13 = .ok (.if_icmp .ne 7, 3) := by decide +kernel
theorem dX8_leastDigits_16 : decode cX8_leastDigits 16 = .ok (.iconst 1, 1) := by decide +kernel
theorem dX8_leastDigits_17 : decode cX8_leastDigits 17 = .ok (.goto 7, 3) := by decide +kernel
theorem dX8_leastDigits_20 : decode cX8_leastDigits 20 = .ok (.iload_n 0, 1) := by decide +kernel
theorem dX8_leastDigits_21 : decode cX8_leastDigits 21 = .ok (.invokestatic 26, 3) := by decide +kernel
theorem dX8_leastDigits_24 : decode cX8_leastDigits 24 = .ok (.ireturn, 1) := by decide +kernel
theorem dX8_mostDigits_0 : decode cX8_mostDigits 0 = .ok (.iload_n 0, 1) := by decide +kernel
theorem dX8_mostDigits_1 : decode cX8_mostDigits 1 = .ok (.tableswitch 74 98 110 #[71, 74, 74, 74, 74, 69, 71, 74, 74, 69, 74, 74, 67], 67) := by decide +kernel
theorem dX8_mostDigits_68 : decode cX8_mostDigits 68 = .ok (.iconst 1, 1) := by decide +kernel
theorem dX8_mostDigits_69 : decode cX8_mostDigits 69 = .ok (.ireturn, 1) := by decide +kernel
theorem dX8_mostDigits_70 : decode cX8_mostDigits 70 = .ok (.iconst 2, 1) := by decide +kernel
theorem dX8_mostDigits_71 : decode cX8_mostDigits 71 = .ok (.ireturn, 1) := by decide +kernel
theorem dX8_mostDigits_72 : decode cX8_mostDigits 72 = .ok (.bipush 8, 2) := by decide +kernel
theorem dX8_mostDigits_74 : decode cX8_mostDigits 74 = .ok (.ireturn, 1) := by decide +kernel
theorem dX8_mostDigits_75 : decode cX8_mostDigits 75 = .ok (.iconst 0, 1) := by decide +kernel
theorem dX8_mostDigits_76 : decode cX8_mostDigits 76 = .ok (.ireturn, 1) := by decide +kernel
theorem dX9_init_0 : decode cX9_init 0 = .ok (.aload_n 0, 1) := by decide +kernel
theorem dX9_init_1 : decode cX9_init 1 = .ok (.invokespecial 3, 3) := by decide +kernel
theorem dX9_init_4 : decode cX9_init 4 = .ok (.aload_n 0, 1) := by decide +kernel
theorem dX9_init_5 : decode cX9_init 5 = .ok (.bipush 8, 2) := by decide +kernel
theorem dX9_init_7 : decode cX9_init 7 = .ok (.newarray .int, 2) := by decide +kernel
theorem dX9_init_9 : decode cX9_init 9 = .ok (.putfield 9, 3) := by decide +kernel
theorem dX9_init_12 : decode cX9_init 12 = .ok (.return_, 1) := by decide +kernel
theorem dX9_copyFrom_0 : decode cX9_copyFrom 0 = .ok (.aload_n 0, 1) := by decide +kernel
theorem dX9_copyFrom_1 : decode cX9_copyFrom 1 = .ok (.aload_n 1, 1) := by decide +kernel
theorem dX9_copyFrom_2 : decode cX9_copyFrom 2 = .ok (.getfield 15, 3) := by decide +kernel
theorem dX9_copyFrom_5 : decode cX9_copyFrom 5 = .ok (.putfield 15, 3) := by decide +kernel
theorem dX9_copyFrom_8 : decode cX9_copyFrom 8 = .ok (.aload_n 0, 1) := by decide +kernel
theorem dX9_copyFrom_9 : decode cX9_copyFrom 9 = .ok (.aload_n 1, 1) := by decide +kernel
theorem dX9_copyFrom_10 : decode cX9_copyFrom 10 = .ok (.getfield 19, 3) := by decide +kernel
theorem dX9_copyFrom_13 : decode cX9_copyFrom 13 = .ok (.putfield 19, 3) := by decide +kernel
theorem dX9_copyFrom_16 : decode cX9_copyFrom 16 = .ok (.aload_n 1, 1) := by decide +kernel
theorem dX9_copyFrom_17 : decode cX9_copyFrom 17 = .ok (.getfield 9, 3) := by decide +kernel
theorem dX9_copyFrom_20 : decode cX9_copyFrom 20 = .ok (.iconst 0, 1) := by decide +kernel
theorem dX9_copyFrom_21 : decode cX9_copyFrom 21 = .ok (.aload_n 0, 1) := by decide +kernel
theorem dX9_copyFrom_22 : decode cX9_copyFrom 22 = .ok (.getfield 9, 3) := by decide +kernel
theorem dX9_copyFrom_25 : decode cX9_copyFrom 25 = .ok (.iconst 0, 1) := by decide +kernel
theorem dX9_copyFrom_26 : decode cX9_copyFrom 26 = .ok (.bipush 8, 2) := by decide +kernel
theorem dX9_copyFrom_28 : decode cX9_copyFrom 28 = .ok (.invokestatic 22, 3) := by decide +kernel
theorem dX9_copyFrom_31 : decode cX9_copyFrom 31 = .ok (.return_, 1) := by decide +kernel
theorem dX9_becomeKind_0 : decode cX9_becomeKind 0 = .ok (.aload_n 0, 1) := by decide +kernel
theorem dX9_becomeKind_1 : decode cX9_becomeKind 1 = .ok (.iload_n 1, 1) := by decide +kernel
theorem dX9_becomeKind_2 : decode cX9_becomeKind 2 = .ok (.putfield 15, 3) := by decide +kernel
theorem dX9_becomeKind_5 : decode cX9_becomeKind 5 = .ok (.aload_n 0, 1) := by decide +kernel
theorem dX9_becomeKind_6 : decode cX9_becomeKind 6 = .ok (.iload_n 2, 1) := by decide +kernel
theorem dX9_becomeKind_7 : decode cX9_becomeKind 7 = .ok (.putfield 19, 3) := by decide +kernel
theorem dX9_becomeKind_10 : decode cX9_becomeKind 10 = .ok (.iconst 0, 1) := by decide +kernel
theorem dX9_becomeKind_11 : decode cX9_becomeKind 11 = .ok (.istore 4, 2) := by decide +kernel
theorem dX9_becomeKind_13 : decode cX9_becomeKind 13 = .ok (.iload 4, 2) := by decide +kernel
theorem dX9_becomeKind_15 : decode cX9_becomeKind 15 = .ok (.aload_n 0, 1) := by decide +kernel
theorem dX9_becomeKind_16 : decode cX9_becomeKind 16 = .ok (.getfield 9, 3) := by decide +kernel
theorem dX9_becomeKind_19 : decode cX9_becomeKind 19 = .ok (.arraylength, 1) := by decide +kernel
theorem dX9_becomeKind_20 : decode cX9_becomeKind 20 = .ok (.if_icmp .ge 34, 3) := by decide +kernel
theorem dX9_becomeKind_23 : decode cX9_becomeKind 23 = .ok (.aload_n 0, 1) := by decide +kernel
theorem dX9_becomeKind_24 : decode cX9_becomeKind 24 = .ok (.getfield 9, 3) := by decide +kernel
theorem dX9_becomeKind_27 : decode cX9_becomeKind 27 = .ok (.iload 4, 2) := by decide +kernel
theorem dX9_becomeKind_29 : decode cX9_becomeKind 29 = .ok (.iload 4, 2) := by decide +kernel
theorem dX9_becomeKind_31 : decode cX9_becomeKind 31 = .ok (.iload_n 3, 1) := by decide +kernel
theorem dX9_becomeKind_32 : decode cX9_becomeKind 32 = .ok (.if_icmp .ge 13, 3) := by decide +kernel
theorem dX9_becomeKind_35 : decode cX9_becomeKind 35 = .ok (.aload_n 0, 1) := by decide +kernel
theorem dX9_becomeKind_36 : decode cX9_becomeKind 36 = .ok (.iload 4, 2) := by decide +kernel
theorem dX9_becomeKind_38 : decode cX9_becomeKind 38 = .ok (.iload_n 3, 1) := by decide +kernel
theorem dX9_becomeKind_39 : decode cX9_becomeKind 39 = .ok (.invokevirtual 28, 3) := by decide +kernel
theorem dX9_becomeKind_42 : decode cX9_becomeKind 42 = .ok (.goto 5, 3) := by decide +kernel
theorem dX9_becomeKind_45 : decode cX9_becomeKind 45 = .ok (.iload 4, 2) := by decide +kernel
theorem dX9_becomeKind_47 : decode cX9_becomeKind 47 = .ok (.iastore, 1) := by decide +kernel
theorem dX9_becomeKind_48 : decode cX9_becomeKind 48 = .ok (.iinc 4 1, 3) := by decide +kernel
theorem dX9_becomeKind_51 : decode cX9_becomeKind 51 = .ok (.goto (-38), 3) := by decide +kernel
theorem dX9_becomeKind_54 : decode cX9_becomeKind 54 = .ok (.return_, 1) := by decide +kernel
theorem dX9_targetByKind_0 : decode cX9_targetByKind 0 = .ok (.aload_n 0, 1) := by decide +kernel
theorem dX9_targetByKind_1 : decode cX9_targetByKind 1 = .ok (.getfield 15, 3) := by decide +kernel
theorem dX9_targetByKind_4 : decode cX9_targetByKind 4 = .ok (.tableswitch 118 0 4 #[36, 47, 60, 71, 94], 36) := by decide +kernel
theorem dX9_targetByKind_40 : decode cX9_targetByKind 40 = .ok (.iload_n 1, 1) := by decide +kernel
theorem dX9_targetByKind_41 : decode cX9_targetByKind 41 = .ok (.aload_n 0, 1) := by decide +kernel
theorem dX9_targetByKind_42 : decode cX9_targetByKind 42 = .ok (.getfield 19, 3) := by decide +kernel
theorem dX9_targetByKind_45 : decode cX9_targetByKind 45 = .ok (.iadd, 1) := by decide +kernel
theorem dX9_targetByKind_46 : decode cX9_targetByKind 46 = .ok (.iload_n 2, 1) := by decide +kernel
theorem dX9_targetByKind_47 : decode cX9_targetByKind 47 = .ok (.invokestatic 32, 3) := by decide +kernel
theorem dX9_targetByKind_50 : decode cX9_targetByKind 50 = .ok (.ireturn, 1) := by decide +kernel
theorem dX9_targetByKind_51 : decode cX9_targetByKind 51 = .ok (.aload_n 0, 1) := by decide +kernel
theorem dX9_targetByKind_52 : decode cX9_targetByKind 52 = .ok (.getfield 19, 3) := by decide +kernel
theorem dX9_targetByKind_55 : decode cX9_targetByKind 55 = .ok (.iload_n 2, 1) := by decide +kernel
theorem dX9_targetByKind_56 : decode cX9_targetByKind 56 = .ok (.iadd, 1) := by decide +kernel
theorem dX9_targetByKind_57 : decode cX9_targetByKind 57 = .ok (.iload_n 1, 1) := by decide +kernel
theorem dX9_targetByKind_58 : decode cX9_targetByKind 58 = .ok (.isub, 1) := by decide +kernel
theorem dX9_targetByKind_59 : decode cX9_targetByKind 59 = .ok (.iload_n 2, 1) := by decide +kernel
theorem dX9_targetByKind_60 : decode cX9_targetByKind 60 = .ok (.invokestatic 32, 3) := by decide +kernel
theorem dX9_targetByKind_63 : decode cX9_targetByKind 63 = .ok (.ireturn, 1) := by decide +kernel
theorem dX9_targetByKind_64 : decode cX9_targetByKind 64 = .ok (.iload_n 1, 1) := by decide +kernel
theorem dX9_targetByKind_65 : decode cX9_targetByKind 65 = .ok (.aload_n 0, 1) := by decide +kernel
theorem dX9_targetByKind_66 : decode cX9_targetByKind 66 = .ok (.getfield 19, 3) := by decide +kernel
theorem dX9_targetByKind_69 : decode cX9_targetByKind 69 = .ok (.imul, 1) := by decide +kernel
theorem dX9_targetByKind_70 : decode cX9_targetByKind 70 = .ok (.iload_n 2, 1) := by decide +kernel
theorem dX9_targetByKind_71 : decode cX9_targetByKind 71 = .ok (.invokestatic 32, 3) := by decide +kernel
theorem dX9_targetByKind_74 : decode cX9_targetByKind 74 = .ok (.ireturn, 1) := by decide +kernel
theorem dX9_targetByKind_75 : decode cX9_targetByKind 75 = .ok (.iload_n 1, 1) := by decide +kernel
theorem dX9_targetByKind_76 : decode cX9_targetByKind 76 = .ok (.aload_n 0, 1) := by decide +kernel
theorem dX9_targetByKind_77 : decode cX9_targetByKind 77 = .ok (.getfield 19, 3) := by decide +kernel
theorem dX9_targetByKind_80 : decode cX9_targetByKind 80 = .ok (.iload_n 2, 1) := by decide +kernel
theorem dX9_targetByKind_81 : decode cX9_targetByKind 81 = .ok (.invokestatic 32, 3) := by decide +kernel
theorem dX9_targetByKind_84 : decode cX9_targetByKind 84 = .ok (.aload_n 0, 1) := by decide +kernel
theorem dX9_targetByKind_85 : decode cX9_targetByKind 85 = .ok (.getfield 19, 3) := by decide +kernel
theorem dX9_targetByKind_88 : decode cX9_targetByKind 88 = .ok (.iconst 1, 1) := by decide +kernel
theorem dX9_targetByKind_89 : decode cX9_targetByKind 89 = .ok (.iadd, 1) := by decide +kernel
theorem dX9_targetByKind_90 : decode cX9_targetByKind 90 = .ok (.iload_n 2, 1) := by decide +kernel
theorem dX9_targetByKind_91 : decode cX9_targetByKind 91 = .ok (.invokestatic 32, 3) := by decide +kernel
theorem dX9_targetByKind_94 : decode cX9_targetByKind 94 = .ok (.invokestatic 35, 3) := by decide +kernel
theorem dX9_targetByKind_97 : decode cX9_targetByKind 97 = .ok (.ireturn, 1) := by decide +kernel
theorem dX9_targetByKind_98 : decode cX9_targetByKind 98 = .ok (.iload_n 1, 1) := by decide +kernel
theorem dX9_targetByKind_99 : decode cX9_targetByKind 99 = .ok (.iload_n 2, 1) := by decide +kernel
theorem dX9_targetByKind_100 : decode cX9_targetByKind 100 = .ok (.iconst 1, 1) := by decide +kernel
theorem dX9_targetByKind_101 : decode cX9_targetByKind 101 = .ok (.isub, 1) := by decide +kernel
theorem dX9_targetByKind_102 : decode cX9_targetByKind 102 = .ok (.if_icmp .ne 7, 3) := by decide +kernel
theorem dX9_targetByKind_105 : decode cX9_targetByKind 105 = .ok (.iload_n 1, 1) := by decide +kernel
theorem dX9_targetByKind_106 : decode cX9_targetByKind 106 = .ok (.goto 15, 3) := by decide +kernel
theorem dX9_targetByKind_109 : decode cX9_targetByKind 109 = .ok (.iload_n 1, 1) := by decide +kernel
theorem dX9_targetByKind_110 : decode cX9_targetByKind 110 = .ok (.aload_n 0, 1) := by decide +kernel
theorem dX9_targetByKind_111 : decode cX9_targetByKind 111 = .ok (.getfield 19, 3) := by decide +kernel
theorem dX9_targetByKind_114 : decode cX9_targetByKind 114 = .ok (.iadd, 1) := by decide +kernel
theorem dX9_targetByKind_115 : decode cX9_targetByKind 115 = .ok (.iload_n 2, 1) := by decide +kernel
theorem dX9_targetByKind_116 : decode cX9_targetByKind 116 = .ok (.iconst 1, 1) := by decide +kernel
theorem dX9_targetByKind_117 : decode cX9_targetByKind 117 = .ok (.isub, 1) := by decide +kernel
theorem dX9_targetByKind_118 : decode cX9_targetByKind 118 = .ok (.invokestatic 32, 3) := by decide +kernel
theorem dX9_targetByKind_121 : decode cX9_targetByKind 121 = .ok (.ireturn, 1) := by decide +kernel
theorem dX9_targetByKind_122 : decode cX9_targetByKind 122 = .ok (.iload_n 1, 1) := by decide +kernel
theorem dX9_targetByKind_123 : decode cX9_targetByKind 123 = .ok (.ireturn, 1) := by decide +kernel
theorem dX9_swapped_0 : decode cX9_swapped 0 = .ok (.iload_n 0, 1) := by decide +kernel
theorem dX9_swapped_1 : decode cX9_swapped 1 = .ok (.iload_n 1, 1) := by decide +kernel
theorem dX9_swapped_2 : decode cX9_swapped 2 = .ok (.if_icmp .ne 5, 3) := by decide +kernel
theorem dX9_swapped_5 : decode cX9_swapped 5 = .ok (.iload_n 2, 1) := by decide +kernel
theorem dX9_swapped_6 : decode cX9_swapped 6 = .ok (.ireturn, 1) := by decide +kernel
theorem dX9_swapped_7 : decode cX9_swapped 7 = .ok (.iload_n 0, 1) := by decide +kernel
theorem dX9_swapped_8 : decode cX9_swapped 8 = .ok (.iload_n 2, 1) := by decide +kernel
theorem dX9_swapped_9 : decode cX9_swapped 9 = .ok (.if_icmp .ne 7, 3) := by decide +kernel
theorem dX9_swapped_12 : decode cX9_swapped 12 = .ok (.iload_n 1, 1) := by decide +kernel
theorem dX9_swapped_13 : decode cX9_swapped 13 = .ok (.goto 4, 3) := by decide +kernel
theorem dX9_swapped_16 : decode cX9_swapped 16 = .ok (.iload_n 0, 1) := by decide +kernel
theorem dX9_swapped_17 : decode cX9_swapped 17 = .ok (.ireturn, 1) := by decide +kernel
theorem dX9_becomeByHand_0 : decode cX9_becomeByHand 0 = .ok (.aload_n 0, 1) := by decide +kernel
theorem dX9_becomeByHand_1 : decode cX9_becomeByHand 1 = .ok (.iconst 5, 1) := by decide +kernel
theorem dX9_becomeByHand_2 : decode cX9_becomeByHand 2 = .ok (.putfield 15, 3) := by decide +kernel
theorem dX9_becomeByHand_5 : decode cX9_becomeByHand 5 = .ok (.aload_n 0, 1) := by decide +kernel
theorem dX9_becomeByHand_6 : decode cX9_becomeByHand 6 = .ok (.iconst 0, 1) := by decide +kernel
theorem dX9_becomeByHand_7 : decode cX9_becomeByHand 7 = .ok (.putfield 19, 3) := by decide +kernel
theorem dX9_becomeByHand_10 : decode cX9_becomeByHand 10 = .ok (.iload_n 1, 1) := by decide +kernel
theorem dX9_becomeByHand_11 : decode cX9_becomeByHand 11 = .ok (.istore_n 3, 1) := by decide +kernel
theorem dX9_becomeByHand_12 : decode cX9_becomeByHand 12 = .ok (.aload_n 0, 1) := by decide +kernel
theorem dX9_becomeByHand_13 : decode cX9_becomeByHand 13 = .ok (.getfield 9, 3) := by decide +kernel
theorem dX9_becomeByHand_16 : decode cX9_becomeByHand 16 = .ok (.arraylength, 1) := by decide +kernel
theorem dX9_becomeByHand_17 : decode cX9_becomeByHand 17 = .ok (.iconst 1, 1) := by decide +kernel
theorem dX9_becomeByHand_18 : decode cX9_becomeByHand 18 = .ok (.isub, 1) := by decide +kernel
theorem dX9_becomeByHand_19 : decode cX9_becomeByHand 19 = .ok (.istore 4, 2) := by decide +kernel
theorem dX9_becomeByHand_21 : decode cX9_becomeByHand 21 = .ok (.iload 4, 2) := by decide +kernel
theorem dX9_becomeByHand_23 : decode cX9_becomeByHand 23 = .ok (.ifCond .lt 44, 3) := by decide +kernel
theorem dX9_becomeByHand_26 : decode cX9_becomeByHand 26 = .ok (.aload_n 0, 1) := by decide +kernel
theorem dX9_becomeByHand_27 : decode cX9_becomeByHand 27 = .ok (.getfield 9, 3) := by decide +kernel
theorem dX9_becomeByHand_30 : decode cX9_becomeByHand 30 = .ok (.iload 4, 2) := by decide +kernel
theorem dX9_becomeByHand_32 : decode cX9_becomeByHand 32 = .ok (.iload 4, 2) := by decide +kernel
theorem dX9_becomeByHand_34 : decode cX9_becomeByHand 34 = .ok (.iload_n 2, 1) := by decide +kernel
theorem dX9_becomeByHand_35 : decode cX9_becomeByHand 35 = .ok (.if_icmp .ge 12, 3) := by decide +kernel
theorem dX9_becomeByHand_38 : decode cX9_becomeByHand 38 = .ok (.iload_n 3, 1) := by decide +kernel
theorem dX9_becomeByHand_39 : decode cX9_becomeByHand 39 = .ok (.bipush 10, 2) := by decide +kernel
theorem dX9_becomeByHand_41 : decode cX9_becomeByHand 41 = .ok (.irem, 1) := by decide +kernel
theorem dX9_becomeByHand_42 : decode cX9_becomeByHand 42 = .ok (.iconst 1, 1) := by decide +kernel
theorem dX9_becomeByHand_43 : decode cX9_becomeByHand 43 = .ok (.isub, 1) := by decide +kernel
theorem dX9_becomeByHand_44 : decode cX9_becomeByHand 44 = .ok (.goto 5, 3) := by decide +kernel
theorem dX9_becomeByHand_47 : decode cX9_becomeByHand 47 = .ok (.iload 4, 2) := by decide +kernel
theorem dX9_becomeByHand_49 : decode cX9_becomeByHand 49 = .ok (.iastore, 1) := by decide +kernel
theorem dX9_becomeByHand_50 : decode cX9_becomeByHand 50 = .ok (.iload 4, 2) := by decide +kernel
theorem dX9_becomeByHand_52 : decode cX9_becomeByHand 52 = .ok (.iload_n 2, 1) := by decide +kernel
theorem dX9_becomeByHand_53 : decode cX9_becomeByHand 53 = .ok (.if_icmp .ge 8, 3) := by decide +kernel
theorem dX9_becomeByHand_56 : decode cX9_becomeByHand 56 = .ok (.iload_n 3, 1) := by decide +kernel
theorem dX9_becomeByHand_57 : decode cX9_becomeByHand 57 = .ok (.bipush 10, 2) := by decide +kernel
theorem dX9_becomeByHand_59 : decode cX9_becomeByHand 59 = .ok (.idiv, 1) := by decide +kernel
theorem dX9_becomeByHand_60 : decode cX9_becomeByHand 60 = .ok (.istore_n 3, 1) := by decide +kernel
theorem dX9_becomeByHand_61 : decode cX9_becomeByHand 61 = .ok (.iinc 4 (-1), 3) := by decide +kernel
theorem dX9_becomeByHand_64 : decode cX9_becomeByHand 64 = .ok (.goto (-43), 3) := by decide +kernel
theorem dX9_becomeByHand_67 : decode cX9_becomeByHand 67 = .ok (.return_, 1) := by decide +kernel
theorem dX9_pointFor_0 : decode cX9_pointFor 0 = .ok (.iload_n 1, 1) := by decide +kernel
theorem dX9_pointFor_1 : decode cX9_pointFor 1 = .ok (.ifCond .lt 12, 3) := by decide +kernel
theorem dX9_pointFor_4 : decode cX9_pointFor 4 = .ok (.iload_n 1, 1) := by decide +kernel
theorem dX9_pointFor_5 : decode cX9_pointFor 5 = .ok (.aload_n 0, 1) := by decide +kernel
theorem dX9_pointFor_6 : decode cX9_pointFor 6 = .ok (.getfield 9, 3) := by decide +kernel
theorem dX9_pointFor_9 : decode cX9_pointFor 9 = .ok (.arraylength, 1) := by decide +kernel
theorem dX9_pointFor_10 : decode cX9_pointFor 10 = .ok (.if_icmp .lt 5, 3) := by decide +kernel
theorem dX9_pointFor_13 : decode cX9_pointFor 13 = .ok (.iconst (-1), 1) := by decide +kernel
theorem dX9_pointFor_14 : decode cX9_pointFor 14 = .ok (.ireturn, 1) := by decide +kernel
theorem dX9_pointFor_15 : decode cX9_pointFor 15 = .ok (.aload_n 0, 1) := by decide +kernel
theorem dX9_pointFor_16 : decode cX9_pointFor 16 = .ok (.getfield 9, 3) := by decide +kernel
theorem dX9_pointFor_19 : decode cX9_pointFor 19 = .ok (.iload_n 1, 1) := by decide +kernel
theorem dX9_pointFor_20 : decode cX9_pointFor 20 = .ok (.iaload, 1) := by decide +kernel
theorem dX9_pointFor_21 : decode cX9_pointFor 21 = .ok (.ireturn, 1) := by decide +kernel
theorem dX9_setFor_0 : decode cX9_setFor 0 = .ok (.iconst 0, 1) := by decide +kernel
theorem dX9_setFor_1 : decode cX9_setFor 1 = .ok (.istore_n 2, 1) := by decide +kernel
theorem dX9_setFor_2 : decode cX9_setFor 2 = .ok (.iconst 0, 1) := by decide +kernel
theorem dX9_setFor_3 : decode cX9_setFor 3 = .ok (.istore_n 3, 1) := by decide +kernel
theorem dX9_setFor_4 : decode cX9_setFor 4 = .ok (.iload_n 3, 1) := by decide +kernel
theorem dX9_setFor_5 : decode cX9_setFor 5 = .ok (.aload_n 0, 1) := by decide +kernel
theorem dX9_setFor_6 : decode cX9_setFor 6 = .ok (.getfield 9, 3) := by decide +kernel
theorem dX9_setFor_9 : decode cX9_setFor 9 = .ok (.arraylength, 1) := by decide +kernel
theorem dX9_setFor_10 : decode cX9_setFor 10 = .ok (.if_icmp .ge 29, 3) := by decide +kernel
theorem dX9_setFor_13 : decode cX9_setFor 13 = .ok (.iload_n 1, 1) := by decide +kernel
theorem dX9_setFor_14 : decode cX9_setFor 14 = .ok (.iload_n 3, 1) := by decide +kernel
theorem dX9_setFor_15 : decode cX9_setFor 15 = .ok (.ishr, 1) := by decide +kernel
theorem dX9_setFor_16 : decode cX9_setFor 16 = .ok (.iconst 1, 1) := by decide +kernel
theorem dX9_setFor_17 : decode cX9_setFor 17 = .ok (.iand, 1) := by decide +kernel
theorem dX9_setFor_18 : decode cX9_setFor 18 = .ok (.iconst 1, 1) := by decide +kernel
theorem dX9_setFor_19 : decode cX9_setFor 19 = .ok (.if_icmp .ne 14, 3) := by decide +kernel
theorem dX9_setFor_22 : decode cX9_setFor 22 = .ok (.iload_n 2, 1) := by decide +kernel
theorem dX9_setFor_23 : decode cX9_setFor 23 = .ok (.iconst 1, 1) := by decide +kernel
theorem dX9_setFor_24 : decode cX9_setFor 24 = .ok (.aload_n 0, 1) := by decide +kernel
theorem dX9_setFor_25 : decode cX9_setFor 25 = .ok (.getfield 9, 3) := by decide +kernel
theorem dX9_setFor_28 : decode cX9_setFor 28 = .ok (.iload_n 3, 1) := by decide +kernel
theorem dX9_setFor_29 : decode cX9_setFor 29 = .ok (.iaload, 1) := by decide +kernel
theorem dX9_setFor_30 : decode cX9_setFor 30 = .ok (.ishl, 1) := by decide +kernel
theorem dX9_setFor_31 : decode cX9_setFor 31 = .ok (.ior, 1) := by decide +kernel
theorem dX9_setFor_32 : decode cX9_setFor 32 = .ok (.istore_n 2, 1) := by decide +kernel
theorem dX9_setFor_33 : decode cX9_setFor 33 = .ok (.iinc 3 1, 3) := by decide +kernel
theorem dX9_setFor_36 : decode cX9_setFor 36 = .ok (.goto (-32), 3) := by decide +kernel
theorem dX9_setFor_39 : decode cX9_setFor 39 = .ok (.iload_n 2, 1) := by decide +kernel
theorem dX9_setFor_40 : decode cX9_setFor 40 = .ok (.ireturn, 1) := by decide +kernel
theorem dX9_period_0 : decode cX9_period 0 = .ok (.iconst 1, 1) := by decide +kernel
theorem dX9_period_1 : decode cX9_period 1 = .ok (.istore_n 1, 1) := by decide +kernel
theorem dX9_period_2 : decode cX9_period 2 = .ok (.iload_n 1, 1) := by decide +kernel
theorem dX9_period_3 : decode cX9_period 3 = .ok (.bipush 15, 2) := by decide +kernel
theorem dX9_period_5 : decode cX9_period 5 = .ok (.if_icmp .ge 19, 3) := by decide +kernel
theorem dX9_period_8 : decode cX9_period 8 = .ok (.aload_n 0, 1) := by decide +kernel
theorem dX9_period_9 : decode cX9_period 9 = .ok (.iload_n 1, 1) := by decide +kernel
theorem dX9_period_10 : decode cX9_period 10 = .ok (.invokevirtual 39, 3) := by decide +kernel
theorem dX9_period_13 : decode cX9_period 13 = .ok (.ifCond .eq 5, 3) := by decide +kernel
theorem dX9_period_16 : decode cX9_period 16 = .ok (.iload_n 1, 1) := by decide +kernel
theorem dX9_period_17 : decode cX9_period 17 = .ok (.ireturn, 1) := by decide +kernel
theorem dX9_period_18 : decode cX9_period 18 = .ok (.iinc 1 1, 3) := by decide +kernel
theorem dX9_period_21 : decode cX9_period 21 = .ok (.goto (-19), 3) := by decide +kernel
theorem dX9_period_24 : decode cX9_period 24 = .ok (.bipush 15, 2) := by decide +kernel
theorem dX9_period_26 : decode cX9_period 26 = .ok (.ireturn, 1) := by decide +kernel
theorem dX9_isDoneAfter_0 : decode cX9_isDoneAfter 0 = .ok (.iconst 0, 1) := by decide +kernel
theorem dX9_isDoneAfter_1 : decode cX9_isDoneAfter 1 = .ok (.istore_n 2, 1) := by decide +kernel
theorem dX9_isDoneAfter_2 : decode cX9_isDoneAfter 2 = .ok (.iload_n 2, 1) := by decide +kernel
theorem dX9_isDoneAfter_3 : decode cX9_isDoneAfter 3 = .ok (.aload_n 0, 1) := by decide +kernel
theorem dX9_isDoneAfter_4 : decode cX9_isDoneAfter 4 = .ok (.getfield 9, 3) := by decide +kernel
theorem dX9_isDoneAfter_7 : decode cX9_isDoneAfter 7 = .ok (.arraylength, 1) := by decide +kernel
theorem dX9_isDoneAfter_8 : decode cX9_isDoneAfter 8 = .ok (.if_icmp .ge 39, 3) := by decide +kernel
theorem dX9_isDoneAfter_11 : decode cX9_isDoneAfter 11 = .ok (.iload_n 2, 1) := by decide +kernel
theorem dX9_isDoneAfter_12 : decode cX9_isDoneAfter 12 = .ok (.istore_n 3, 1) := by decide +kernel
theorem dX9_isDoneAfter_13 : decode cX9_isDoneAfter 13 = .ok (.iconst 0, 1) := by decide +kernel
theorem dX9_isDoneAfter_14 : decode cX9_isDoneAfter 14 = .ok (.istore 4, 2) := by decide +kernel
theorem dX9_isDoneAfter_16 : decode cX9_isDoneAfter 16 = .ok (.iload 4, 2) := by decide +kernel
theorem dX9_isDoneAfter_18 : decode cX9_isDoneAfter 18 = .ok (.iload_n 1, 1) := by decide +kernel
theorem dX9_isDoneAfter_19 : decode cX9_isDoneAfter 19 = .ok (.if_icmp .ge 15, 3) := by decide +kernel
theorem dX9_isDoneAfter_22 : decode cX9_isDoneAfter 22 = .ok (.aload_n 0, 1) := by decide +kernel
theorem dX9_isDoneAfter_23 : decode cX9_isDoneAfter 23 = .ok (.iload_n 3, 1) := by decide +kernel
theorem dX9_isDoneAfter_24 : decode cX9_isDoneAfter 24 = .ok (.invokevirtual 43, 3) := by decide +kernel
theorem dX9_isDoneAfter_27 : decode cX9_isDoneAfter 27 = .ok (.istore_n 3, 1) := by decide +kernel
theorem dX9_isDoneAfter_28 : decode cX9_isDoneAfter 28 = .ok (.iinc 4 1, 3) := by decide +kernel
theorem dX9_isDoneAfter_31 : decode cX9_isDoneAfter 31 = .ok (.goto (-15), 3) := by decide +kernel
theorem dX9_isDoneAfter_34 : decode cX9_isDoneAfter 34 = .ok (.iload_n 3, 1) := by decide +kernel
theorem dX9_isDoneAfter_35 : decode cX9_isDoneAfter 35 = .ok (.iload_n 2, 1) := by decide +kernel
