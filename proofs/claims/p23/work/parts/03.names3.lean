theorem dX0_init_0 : decode cX0_init 0 = .ok (.aload_n 0, 1) := by decide +kernel
theorem dX0_init_1 : decode cX0_init 1 = .ok (.invokespecial 3, 3) := by decide +kernel
theorem dX0_init_4 : decode cX0_init 4 = .ok (.aload_n 0, 1) := by decide +kernel
theorem dX0_init_5 : decode cX0_init 5 = .ok (.sipush 600, 3) := by decide +kernel
theorem dX0_init_8 : decode cX0_init 8 = .ok (.newarray .int, 2) := by decide +kernel
theorem dX0_init_10 : decode cX0_init 10 = .ok (.putfield 9, 3) := by decide +kernel
theorem dX0_init_13 : decode cX0_init 13 = .ok (.return_, 1) := by decide +kernel
theorem dX0_slotOf_0 : decode cX0_slotOf 0 = .ok (.iload_n 0, 1) := by decide +kernel
theorem dX0_slotOf_1 : decode cX0_slotOf 1 = .ok (.ifCond .lt 29, 3) := by decide +kernel
theorem dX0_slotOf_4 : decode cX0_slotOf 4 = .ok (.iload_n 0, 1) := by decide +kernel
theorem dX0_slotOf_5 : decode cX0_slotOf 5 = .ok (.bipush 20, 2) := by decide +kernel
theorem dX0_slotOf_7 : decode cX0_slotOf 7 = .ok (.if_icmp .ge 23, 3) := by decide +kernel
theorem dX0_slotOf_10 : decode cX0_slotOf 10 = .ok (.iload_n 1, 1) := by decide +kernel
theorem dX0_slotOf_11 : decode cX0_slotOf 11 = .ok (.ifCond .lt 19, 3) := by decide +kernel
theorem dX0_slotOf_14 : decode cX0_slotOf 14 = .ok (.iload_n 1, 1) := by decide +kernel
theorem dX0_slotOf_15 : decode cX0_slotOf 15 = .ok (.bipush 10, 2) := by decide +kernel
theorem dX0_slotOf_17 : decode cX0_slotOf 17 = .ok (.if_icmp .ge 13, 3) := by decide +kernel
theorem dX0_slotOf_20 : decode cX0_slotOf 20 = .ok (.iload_n 2, 1) := by decide +kernel
theorem dX0_slotOf_21 : decode cX0_slotOf 21 = .ok (.iconst 1, 1) := by decide +kernel
theorem dX0_slotOf_22 : decode cX0_slotOf 22 = .ok (.if_icmp .lt 8, 3) := by decide +kernel
theorem dX0_slotOf_25 : decode cX0_slotOf 25 = .ok (.iload_n 2, 1) := by decide +kernel
theorem dX0_slotOf_26 : decode cX0_slotOf 26 = .ok (.iconst 3, 1) := by decide +kernel
theorem dX0_slotOf_27 : decode cX0_slotOf 27 = .ok (.if_icmp .le 5, 3) := by decide +kernel
theorem dX0_slotOf_30 : decode cX0_slotOf 30 = .ok (.iconst (-1), 1) := by decide +kernel
theorem dX0_slotOf_31 : decode cX0_slotOf 31 = .ok (.ireturn, 1) := by decide +kernel
theorem dX0_slotOf_32 : decode cX0_slotOf 32 = .ok (.iload_n 0, 1) := by decide +kernel
theorem dX0_slotOf_33 : decode cX0_slotOf 33 = .ok (.bipush 10, 2) := by decide +kernel
theorem dX0_slotOf_35 : decode cX0_slotOf 35 = .ok (.imul, 1) := by decide +kernel
theorem dX0_slotOf_36 : decode cX0_slotOf 36 = .ok (.iload_n 1, 1) := by decide +kernel
theorem dX0_slotOf_37 : decode cX0_slotOf 37 = .ok (.iadd, 1) := by decide +kernel
theorem dX0_slotOf_38 : decode cX0_slotOf 38 = .ok (.iconst 3, 1) := by decide +kernel
theorem dX0_slotOf_39 : decode cX0_slotOf 39 = .ok (.imul, 1) := by decide +kernel
theorem dX0_slotOf_40 : decode cX0_slotOf 40 = .ok (.iload_n 2, 1) := by decide +kernel
theorem dX0_slotOf_41 : decode cX0_slotOf 41 = .ok (.iadd, 1) := by decide +kernel
theorem dX0_slotOf_42 : decode cX0_slotOf 42 = .ok (.iconst 1, 1) := by decide +kernel
theorem dX0_slotOf_43 : decode cX0_slotOf 43 = .ok (.isub, 1) := by decide +kernel
theorem dX0_slotOf_44 : decode cX0_slotOf 44 = .ok (.ireturn, 1) := by decide +kernel
theorem dX0_manyAt_0 : decode cX0_manyAt 0 = .ok (.iload_n 1, 1) := by decide +kernel
theorem dX0_manyAt_1 : decode cX0_manyAt 1 = .ok (.iload_n 2, 1) := by decide +kernel
theorem dX0_manyAt_2 : decode cX0_manyAt 2 = .ok (.iload_n 3, 1) := by decide +kernel
theorem dX0_manyAt_3 : decode cX0_manyAt 3 = .ok (.invokestatic 15, 3) := by decide +kernel
theorem dX0_manyAt_6 : decode cX0_manyAt 6 = .ok (.istore 4, 2) := by decide +kernel
theorem dX0_manyAt_8 : decode cX0_manyAt 8 = .ok (.iload 4, 2) := by decide +kernel
theorem dX0_manyAt_10 : decode cX0_manyAt 10 = .ok (.iconst (-1), 1) := by decide +kernel
theorem dX0_manyAt_11 : decode cX0_manyAt 11 = .ok (.if_icmp .ne 7, 3) := by decide +kernel
theorem dX0_manyAt_14 : decode cX0_manyAt 14 = .ok (.iconst 0, 1) := by decide +kernel
theorem dX0_manyAt_15 : decode cX0_manyAt 15 = .ok (.goto 10, 3) := by decide +kernel
theorem dX0_manyAt_18 : decode cX0_manyAt 18 = .ok (.aload_n 0, 1) := by decide +kernel
theorem dX0_manyAt_19 : decode cX0_manyAt 19 = .ok (.getfield 9, 3) := by decide +kernel
theorem dX0_manyAt_22 : decode cX0_manyAt 22 = .ok (.iload 4, 2) := by decide +kernel
theorem dX0_manyAt_24 : decode cX0_manyAt 24 = .ok (.iaload, 1) := by decide +kernel
theorem dX0_manyAt_25 : decode cX0_manyAt 25 = .ok (.ireturn, 1) := by decide +kernel
theorem dX0_add_0 : decode cX0_add 0 = .ok (.iload_n 1, 1) := by decide +kernel
theorem dX0_add_1 : decode cX0_add 1 = .ok (.iload_n 2, 1) := by decide +kernel
theorem dX0_add_2 : decode cX0_add 2 = .ok (.iload_n 3, 1) := by decide +kernel
theorem dX0_add_3 : decode cX0_add 3 = .ok (.invokestatic 15, 3) := by decide +kernel
theorem dX0_add_6 : decode cX0_add 6 = .ok (.istore 5, 2) := by decide +kernel
theorem dX0_add_8 : decode cX0_add 8 = .ok (.iload 5, 2) := by decide +kernel
theorem dX0_add_10 : decode cX0_add 10 = .ok (.iconst (-1), 1) := by decide +kernel
theorem dX0_add_11 : decode cX0_add 11 = .ok (.if_icmp .eq 15, 3) := by decide +kernel
theorem dX0_add_14 : decode cX0_add 14 = .ok (.aload_n 0, 1) := by decide +kernel
theorem dX0_add_15 : decode cX0_add 15 = .ok (.getfield 9, 3) := by decide +kernel
theorem dX0_add_18 : decode cX0_add 18 = .ok (.iload 5, 2) := by decide +kernel
theorem dX0_add_20 : decode cX0_add 20 = .ok (.dup2, 1) := by decide +kernel
theorem dX0_add_21 : decode cX0_add 21 = .ok (.iaload, 1) := by decide +kernel
theorem dX0_add_22 : decode cX0_add 22 = .ok (.iload 4, 2) := by decide +kernel
theorem dX0_add_24 : decode cX0_add 24 = .ok (.iadd, 1) := by decide +kernel
theorem dX0_add_25 : decode cX0_add 25 = .ok (.iastore, 1) := by decide +kernel
theorem dX0_add_26 : decode cX0_add 26 = .ok (.return_, 1) := by decide +kernel
theorem dX0_takeAll_0 : decode cX0_takeAll 0 = .ok (.iload_n 1, 1) := by decide +kernel
theorem dX0_takeAll_1 : decode cX0_takeAll 1 = .ok (.iload_n 2, 1) := by decide +kernel
theorem dX0_takeAll_2 : decode cX0_takeAll 2 = .ok (.iload_n 3, 1) := by decide +kernel
theorem dX0_takeAll_3 : decode cX0_takeAll 3 = .ok (.invokestatic 15, 3) := by decide +kernel
theorem dX0_takeAll_6 : decode cX0_takeAll 6 = .ok (.istore 4, 2) := by decide +kernel
theorem dX0_takeAll_8 : decode cX0_takeAll 8 = .ok (.iload 4, 2) := by decide +kernel
theorem dX0_takeAll_10 : decode cX0_takeAll 10 = .ok (.iconst (-1), 1) := by decide +kernel
theorem dX0_takeAll_11 : decode cX0_takeAll 11 = .ok (.if_icmp .ne 5, 3) := by decide +kernel
theorem dX0_takeAll_14 : decode cX0_takeAll 14 = .ok (.iconst 0, 1) := by decide +kernel
theorem dX0_takeAll_15 : decode cX0_takeAll 15 = .ok (.ireturn, 1) := by decide +kernel
theorem dX0_takeAll_16 : decode cX0_takeAll 16 = .ok (.aload_n 0, 1) := by decide +kernel
theorem dX0_takeAll_17 : decode cX0_takeAll 17 = .ok (.getfield 9, 3) := by decide +kernel
theorem dX0_takeAll_20 : decode cX0_takeAll 20 = .ok (.iload 4, 2) := by decide +kernel
theorem dX0_takeAll_22 : decode cX0_takeAll 22 = .ok (.iaload, 1) := by decide +kernel
theorem dX0_takeAll_23 : decode cX0_takeAll 23 = .ok (.istore 5, 2) := by decide +kernel
theorem dX0_takeAll_25 : decode cX0_takeAll 25 = .ok (.aload_n 0, 1) := by decide +kernel
theorem dX0_takeAll_26 : decode cX0_takeAll 26 = .ok (.getfield 9, 3) := by decide +kernel
theorem dX0_takeAll_29 : decode cX0_takeAll 29 = .ok (.iload 4, 2) := by decide +kernel
theorem dX0_takeAll_31 : decode cX0_takeAll 31 = .ok (.iconst 0, 1) := by decide +kernel
theorem dX0_takeAll_32 : decode cX0_takeAll 32 = .ok (.iastore, 1) := by decide +kernel
theorem dX0_takeAll_33 : decode cX0_takeAll 33 = .ok (.iload 5, 2) := by decide +kernel
theorem dX0_takeAll_35 : decode cX0_takeAll 35 = .ok (.ireturn, 1) := by decide +kernel
theorem dX0_letFall_0 : decode cX0_letFall 0 = .ok (.lconst 0, 1) := by decide +kernel
theorem dX0_letFall_1 : decode cX0_letFall 1 = .ok (.lstore_n 3, 1) := by decide +kernel
theorem dX0_letFall_2 : decode cX0_letFall 2 = .ok (.iconst 0, 1) := by decide +kernel
theorem dX0_letFall_3 : decode cX0_letFall 3 = .ok (.istore 5, 2) := by decide +kernel
theorem dX0_letFall_5 : decode cX0_letFall 5 = .ok (.iload 5, 2) := by decide +kernel
theorem dX0_letFall_7 : decode cX0_letFall 7 = .ok (.bipush 10, 2) := by decide +kernel
theorem dX0_letFall_9 : decode cX0_letFall 9 = .ok (.if_icmp .ge 77, 3) := by decide +kernel
theorem dX0_letFall_12 : decode cX0_letFall 12 = .ok (.iconst 1, 1) := by decide +kernel
theorem dX0_letFall_13 : decode cX0_letFall 13 = .ok (.istore 6, 2) := by decide +kernel
theorem dX0_letFall_15 : decode cX0_letFall 15 = .ok (.iload 6, 2) := by decide +kernel
theorem dX0_letFall_17 : decode cX0_letFall 17 = .ok (.iconst 3, 1) := by decide +kernel
theorem dX0_letFall_18 : decode cX0_letFall 18 = .ok (.if_icmp .gt 62, 3) := by decide +kernel
theorem dX0_letFall_21 : decode cX0_letFall 21 = .ok (.aload_n 0, 1) := by decide +kernel
theorem dX0_letFall_22 : decode cX0_letFall 22 = .ok (.iload_n 1, 1) := by decide +kernel
theorem dX0_letFall_23 : decode cX0_letFall 23 = .ok (.iload 5, 2) := by decide +kernel
theorem dX0_letFall_25 : decode cX0_letFall 25 = .ok (.iload 6, 2) := by decide +kernel
theorem dX0_letFall_27 : decode cX0_letFall 27 = .ok (.invokevirtual 19, 3) := by decide +kernel
theorem dX0_letFall_30 : decode cX0_letFall 30 = .ok (.istore 7, 2) := by decide +kernel
theorem dX0_letFall_32 : decode cX0_letFall 32 = .ok (.iload 5, 2) := by decide +kernel
theorem dX0_letFall_34 : decode cX0_letFall 34 = .ok (.iload 5, 2) := by decide +kernel
theorem dX0_letFall_36 : decode cX0_letFall 36 = .ok (.iload 6, 2) := by decide +kernel
theorem dX0_letFall_38 : decode cX0_letFall 38 = .ok (.iload_n 2, 1) := by decide +kernel
theorem dX0_letFall_39 : decode cX0_letFall 39 = .ok (.invokestatic 22, 3) := by decide +kernel
theorem dX0_letFall_42 : decode cX0_letFall 42 = .ok (.isub, 1) := by decide +kernel
theorem dX0_letFall_43 : decode cX0_letFall 43 = .ok (.istore 8, 2) := by decide +kernel
theorem dX0_letFall_45 : decode cX0_letFall 45 = .ok (.iload 8, 2) := by decide +kernel
theorem dX0_letFall_47 : decode cX0_letFall 47 = .ok (.ifCond .ge 16, 3) := by decide +kernel
theorem dX0_letFall_50 : decode cX0_letFall 50 = .ok (.lload_n 3, 1) := by decide +kernel
theorem dX0_letFall_51 : decode cX0_letFall 51 = .ok (.iload 6, 2) := by decide +kernel
theorem dX0_letFall_53 : decode cX0_letFall 53 = .ok (.iload 7, 2) := by decide +kernel
theorem dX0_letFall_55 : decode cX0_letFall 55 = .ok (.invokestatic 25, 3) := by decide +kernel
theorem dX0_letFall_58 : decode cX0_letFall 58 = .ok (.ladd, 1) := by decide +kernel
theorem dX0_letFall_59 : decode cX0_letFall 59 = .ok (.lstore_n 3, 1) := by decide +kernel
theorem dX0_letFall_60 : decode cX0_letFall 60 = .ok (.goto 14, 3) := by decide +kernel
theorem dX0_letFall_63 : decode cX0_letFall 63 = .ok (.aload_n 0, 1) := by decide +kernel
theorem dX0_letFall_64 : decode cX0_letFall 64 = .ok (.iload_n 1, 1) := by decide +kernel
theorem dX0_letFall_65 : decode cX0_letFall 65 = .ok (.iload 8, 2) := by decide +kernel
theorem dX0_letFall_67 : decode cX0_letFall 67 = .ok (.iload 6, 2) := by decide +kernel
theorem dX0_letFall_69 : decode cX0_letFall 69 = .ok (.iload 7, 2) := by decide +kernel
theorem dX0_letFall_71 : decode cX0_letFall 71 = .ok (.invokevirtual 29, 3) := by decide +kernel
theorem dX0_letFall_74 : decode cX0_letFall 74 = .ok (.iinc 6 1, 3) := by decide +kernel
theorem dX0_letFall_77 : decode cX0_letFall 77 = .ok (.goto (-62), 3) := by decide +kernel
theorem dX0_letFall_80 : decode cX0_letFall 80 = .ok (.iinc 5 1, 3) := by decide +kernel
theorem dX0_letFall_83 : decode cX0_letFall 83 = .ok (.goto (-78), 3) := by decide +kernel
theorem dX0_letFall_86 : decode cX0_letFall 86 = .ok (.lload_n 3, 1) := by decide +kernel
theorem dX0_letFall_87 : decode cX0_letFall 87 = .ok (.lreturn, 1) := by decide +kernel
theorem dX0_moveAll_0 : decode cX0_moveAll 0 = .ok (.lconst 0, 1) := by decide +kernel
theorem dX0_moveAll_1 : decode cX0_moveAll 1 = .ok (.lstore_n 2, 1) := by decide +kernel
theorem dX0_moveAll_2 : decode cX0_moveAll 2 = .ok (.iconst 0, 1) := by decide +kernel
theorem dX0_moveAll_3 : decode cX0_moveAll 3 = .ok (.istore 4, 2) := by decide +kernel
theorem dX0_moveAll_5 : decode cX0_moveAll 5 = .ok (.iload 4, 2) := by decide +kernel
theorem dX0_moveAll_7 : decode cX0_moveAll 7 = .ok (.bipush 20, 2) := by decide +kernel
theorem dX0_moveAll_9 : decode cX0_moveAll 9 = .ok (.if_icmp .ge 38, 3) := by decide +kernel
theorem dX0_moveAll_12 : decode cX0_moveAll 12 = .ok (.iload_n 1, 1) := by decide +kernel
theorem dX0_moveAll_13 : decode cX0_moveAll 13 = .ok (.ifCond .le 11, 3) := by decide +kernel
theorem dX0_moveAll_16 : decode cX0_moveAll 16 = .ok (.bipush 19, 2) := by decide +kernel
theorem dX0_moveAll_18 : decode cX0_moveAll 18 = .ok (.iload 4, 2) := by decide +kernel
theorem dX0_moveAll_20 : decode cX0_moveAll 20 = .ok (.isub, 1) := by decide +kernel
theorem dX0_moveAll_21 : decode cX0_moveAll 21 = .ok (.goto 5, 3) := by decide +kernel
theorem dX0_moveAll_24 : decode cX0_moveAll 24 = .ok (.iload 4, 2) := by decide +kernel
theorem dX0_moveAll_26 : decode cX0_moveAll 26 = .ok (.istore 5, 2) := by decide +kernel
theorem dX0_moveAll_28 : decode cX0_moveAll 28 = .ok (.lload_n 2, 1) := by decide +kernel
theorem dX0_moveAll_29 : decode cX0_moveAll 29 = .ok (.aload_n 0, 1) := by decide +kernel
theorem dX0_moveAll_30 : decode cX0_moveAll 30 = .ok (.iload 5, 2) := by decide +kernel
theorem dX0_moveAll_32 : decode cX0_moveAll 32 = .ok (.iload 5, 2) := by decide +kernel
theorem dX0_moveAll_34 : decode cX0_moveAll 34 = .ok (.iload_n 1, 1) := by decide +kernel
theorem dX0_moveAll_35 : decode cX0_moveAll 35 = .ok (.iadd, 1) := by decide +kernel
theorem dX0_moveAll_36 : decode cX0_moveAll 36 = .ok (.invokevirtual 33, 3) := by decide +kernel
theorem dX0_moveAll_39 : decode cX0_moveAll 39 = .ok (.ladd, 1) := by decide +kernel
theorem dX0_moveAll_40 : decode cX0_moveAll 40 = .ok (.lstore_n 2, 1) := by decide +kernel
theorem dX0_moveAll_41 : decode cX0_moveAll 41 = .ok (.iinc 4 1, 3) := by decide +kernel
theorem dX0_moveAll_44 : decode cX0_moveAll 44 = .ok (.goto (-39), 3) := by decide +kernel
theorem dX0_moveAll_47 : decode cX0_moveAll 47 = .ok (.lload_n 2, 1) := by decide +kernel
theorem dX0_moveAll_48 : decode cX0_moveAll 48 = .ok (.lreturn, 1) := by decide +kernel
theorem dX0_moveFrom_0 : decode cX0_moveFrom 0 = .ok (.lconst 0, 1) := by decide +kernel
theorem dX0_moveFrom_1 : decode cX0_moveFrom 1 = .ok (.lstore_n 3, 1) := by decide +kernel
theorem dX0_moveFrom_2 : decode cX0_moveFrom 2 = .ok (.iconst 0, 1) := by decide +kernel
theorem dX0_moveFrom_3 : decode cX0_moveFrom 3 = .ok (.istore 5, 2) := by decide +kernel
theorem dX0_moveFrom_5 : decode cX0_moveFrom 5 = .ok (.iload 5, 2) := by decide +kernel
theorem dX0_moveFrom_7 : decode cX0_moveFrom 7 = .ok (.bipush 10, 2) := by decide +kernel
theorem dX0_moveFrom_9 : decode cX0_moveFrom 9 = .ok (.if_icmp .ge 69, 3) := by decide +kernel
theorem dX0_moveFrom_12 : decode cX0_moveFrom 12 = .ok (.iconst 1, 1) := by decide +kernel
theorem dX0_moveFrom_13 : decode cX0_moveFrom 13 = .ok (.istore 6, 2) := by decide +kernel
theorem dX0_moveFrom_15 : decode cX0_moveFrom 15 = .ok (.iload 6, 2) := by decide +kernel
theorem dX0_moveFrom_17 : decode cX0_moveFrom 17 = .ok (.iconst 3, 1) := by decide +kernel
theorem dX0_moveFrom_18 : decode cX0_moveFrom 18 = .ok (.if_icmp .gt 54, 3) := by decide +kernel
theorem dX0_moveFrom_21 : decode cX0_moveFrom 21 = .ok (.aload_n 0, 1) := by decide +kernel
theorem dX0_moveFrom_22 : decode cX0_moveFrom 22 = .ok (.iload_n 1, 1) := by decide +kernel
theorem dX0_moveFrom_23 : decode cX0_moveFrom 23 = .ok (.iload 5, 2) := by decide +kernel
theorem dX0_moveFrom_25 : decode cX0_moveFrom 25 = .ok (.iload 6, 2) := by decide +kernel
theorem dX0_moveFrom_27 : decode cX0_moveFrom 27 = .ok (.invokevirtual 19, 3) := by decide +kernel
theorem dX0_moveFrom_30 : decode cX0_moveFrom 30 = .ok (.istore 7, 2) := by decide +kernel
theorem dX0_moveFrom_32 : decode cX0_moveFrom 32 = .ok (.iload_n 2, 1) := by decide +kernel
theorem dX0_moveFrom_33 : decode cX0_moveFrom 33 = .ok (.ifCond .lt 9, 3) := by decide +kernel
theorem dX0_moveFrom_36 : decode cX0_moveFrom 36 = .ok (.iload_n 2, 1) := by decide +kernel
theorem dX0_moveFrom_37 : decode cX0_moveFrom 37 = .ok (.bipush 20, 2) := by decide +kernel
theorem dX0_moveFrom_39 : decode cX0_moveFrom 39 = .ok (.if_icmp .lt 16, 3) := by decide +kernel
theorem dX0_moveFrom_42 : decode cX0_moveFrom 42 = .ok (.lload_n 3, 1) := by decide +kernel
theorem dX0_moveFrom_43 : decode cX0_moveFrom 43 = .ok (.iload 6, 2) := by decide +kernel
theorem dX0_moveFrom_45 : decode cX0_moveFrom 45 = .ok (.iload 7, 2) := by decide +kernel
theorem dX0_moveFrom_47 : decode cX0_moveFrom 47 = .ok (.invokestatic 25, 3) := by decide +kernel
theorem dX0_moveFrom_50 : decode cX0_moveFrom 50 = .ok (.ladd, 1) := by decide +kernel
theorem dX0_moveFrom_51 : decode cX0_moveFrom 51 = .ok (.lstore_n 3, 1) := by decide +kernel
theorem dX0_moveFrom_52 : decode cX0_moveFrom 52 = .ok (.goto 14, 3) := by decide +kernel
theorem dX0_moveFrom_55 : decode cX0_moveFrom 55 = .ok (.aload_n 0, 1) := by decide +kernel
theorem dX0_moveFrom_56 : decode cX0_moveFrom 56 = .ok (.iload_n 2, 1) := by decide +kernel
theorem dX0_moveFrom_57 : decode cX0_moveFrom 57 = .ok (.iload 5, 2) := by decide +kernel
theorem dX0_moveFrom_59 : decode cX0_moveFrom 59 = .ok (.iload 6, 2) := by decide +kernel
theorem dX0_moveFrom_61 : decode cX0_moveFrom 61 = .ok (.iload 7, 2) := by decide +kernel
theorem dX0_moveFrom_63 : decode cX0_moveFrom 63 = .ok (.invokevirtual 29, 3) := by decide +kernel
theorem dX0_moveFrom_66 : decode cX0_moveFrom 66 = .ok (.iinc 6 1, 3) := by decide +kernel
theorem dX0_moveFrom_69 : decode cX0_moveFrom 69 = .ok (.goto (-54), 3) := by decide +kernel
theorem dX0_moveFrom_72 : decode cX0_moveFrom 72 = .ok (.iinc 5 1, 3) := by decide +kernel
theorem dX0_moveFrom_75 : decode cX0_moveFrom 75 = .ok (.goto (-70), 3) := by decide +kernel
theorem dX0_moveFrom_78 : decode cX0_moveFrom 78 = .ok (.lload_n 3, 1) := by decide +kernel
theorem dX0_moveFrom_79 : decode cX0_moveFrom 79 = .ok (.lreturn, 1) := by decide +kernel
theorem dX0_plainEcho_0 : decode cX0_plainEcho 0 = .ok (.lconst 0, 1) := by decide +kernel
theorem dX0_plainEcho_1 : decode cX0_plainEcho 1 = .ok (.lstore_n 3, 1) := by decide +kernel
theorem dX0_plainEcho_2 : decode cX0_plainEcho 2 = .ok (.iconst 1, 1) := by decide +kernel
theorem dX0_plainEcho_3 : decode cX0_plainEcho 3 = .ok (.istore 5, 2) := by decide +kernel
theorem dX0_plainEcho_5 : decode cX0_plainEcho 5 = .ok (.iload 5, 2) := by decide +kernel
theorem dX0_plainEcho_7 : decode cX0_plainEcho 7 = .ok (.iconst 3, 1) := by decide +kernel
theorem dX0_plainEcho_8 : decode cX0_plainEcho 8 = .ok (.if_icmp .gt 40, 3) := by decide +kernel
theorem dX0_plainEcho_11 : decode cX0_plainEcho 11 = .ok (.iload 5, 2) := by decide +kernel
theorem dX0_plainEcho_13 : decode cX0_plainEcho 13 = .ok (.i2l, 1) := by decide +kernel
theorem dX0_plainEcho_14 : decode cX0_plainEcho 14 = .ok (.iload 5, 2) := by decide +kernel
theorem dX0_plainEcho_16 : decode cX0_plainEcho 16 = .ok (.i2l, 1) := by decide +kernel
theorem dX0_plainEcho_17 : decode cX0_plainEcho 17 = .ok (.lmul, 1) := by decide +kernel
theorem dX0_plainEcho_18 : decode cX0_plainEcho 18 = .ok (.iload 5, 2) := by decide +kernel
theorem dX0_plainEcho_20 : decode cX0_plainEcho 20 = .ok (.i2l, 1) := by decide +kernel
theorem dX0_plainEcho_21 : decode cX0_plainEcho 21 = .ok (.lmul, 1) := by decide +kernel
theorem dX0_plainEcho_22 : decode cX0_plainEcho 22 = .ok (.lstore 6, 2) := by decide +kernel
theorem dX0_plainEcho_24 : decode cX0_plainEcho 24 = .ok (.lload_n 3, 1) := by decide +kernel
theorem dX0_plainEcho_25 : decode cX0_plainEcho 25 = .ok (.lload 6, 2) := by decide +kernel
theorem dX0_plainEcho_27 : decode cX0_plainEcho 27 = .ok (.lload 6, 2) := by decide +kernel
theorem dX0_plainEcho_29 : decode cX0_plainEcho 29 = .ok (.lmul, 1) := by decide +kernel
theorem dX0_plainEcho_30 : decode cX0_plainEcho 30 = .ok (.aload_n 0, 1) := by decide +kernel
theorem dX0_plainEcho_31 : decode cX0_plainEcho 31 = .ok (.iload_n 1, 1) := by decide +kernel
theorem dX0_plainEcho_32 : decode cX0_plainEcho 32 = .ok (.iload_n 2, 1) := by decide +kernel
theorem dX0_plainEcho_33 : decode cX0_plainEcho 33 = .ok (.iload 5, 2) := by decide +kernel
theorem dX0_plainEcho_35 : decode cX0_plainEcho 35 = .ok (.invokevirtual 36, 3) := by decide +kernel
theorem dX0_plainEcho_38 : decode cX0_plainEcho 38 = .ok (.i2l, 1) := by decide +kernel
theorem dX0_plainEcho_39 : decode cX0_plainEcho 39 = .ok (.lmul, 1) := by decide +kernel
theorem dX0_plainEcho_40 : decode cX0_plainEcho 40 = .ok (.ladd, 1) := by decide +kernel
theorem dX0_plainEcho_41 : decode cX0_plainEcho 41 = .ok (.lstore_n 3, 1) := by decide +kernel
theorem dX0_plainEcho_42 : decode cX0_plainEcho 42 = .ok (.iinc 5 1, 3) := by decide +kernel
theorem dX0_plainEcho_45 : decode cX0_plainEcho 45 = .ok (.goto (-40), 3) := by decide +kernel
theorem dX0_plainEcho_48 : decode cX0_plainEcho 48 = .ok (.lload_n 3, 1) := by decide +kernel
theorem dX0_plainEcho_49 : decode cX0_plainEcho 49 = .ok (.lreturn, 1) := by decide +kernel
theorem dX0_allWater_0 : decode cX0_allWater 0 = .ok (.lconst 0, 1) := by decide +kernel
theorem dX0_allWater_1 : decode cX0_allWater 1 = .ok (.lstore_n 1, 1) := by decide +kernel
theorem dX0_allWater_2 : decode cX0_allWater 2 = .ok (.iconst 0, 1) := by decide +kernel
theorem dX0_allWater_3 : decode cX0_allWater 3 = .ok (.istore_n 3, 1) := by decide +kernel
theorem dX0_allWater_4 : decode cX0_allWater 4 = .ok (.iload_n 3, 1) := by decide +kernel
theorem dX0_allWater_5 : decode cX0_allWater 5 = .ok (.bipush 20, 2) := by decide +kernel
theorem dX0_allWater_7 : decode cX0_allWater 7 = .ok (.if_icmp .ge 57, 3) := by decide +kernel
theorem dX0_allWater_10 : decode cX0_allWater 10 = .ok (.iconst 0, 1) := by decide +kernel
theorem dX0_allWater_11 : decode cX0_allWater 11 = .ok (.istore 4, 2) := by decide +kernel
theorem dX0_allWater_13 : decode cX0_allWater 13 = .ok (.iload 4, 2) := by decide +kernel
theorem dX0_allWater_15 : decode cX0_allWater 15 = .ok (.bipush 10, 2) := by decide +kernel
theorem dX0_allWater_17 : decode cX0_allWater 17 = .ok (.if_icmp .ge 41, 3) := by decide +kernel
theorem dX0_allWater_20 : decode cX0_allWater 20 = .ok (.iconst 1, 1) := by decide +kernel
theorem dX0_allWater_21 : decode cX0_allWater 21 = .ok (.istore 5, 2) := by decide +kernel
theorem dX0_allWater_23 : decode cX0_allWater 23 = .ok (.iload 5, 2) := by decide +kernel
theorem dX0_allWater_25 : decode cX0_allWater 25 = .ok (.iconst 3, 1) := by decide +kernel
theorem dX0_allWater_26 : decode cX0_allWater 26 = .ok (.if_icmp .gt 26, 3) := by decide +kernel
theorem dX0_allWater_29 : decode cX0_allWater 29 = .ok (.lload_n 1, 1) := by decide +kernel
theorem dX0_allWater_30 : decode cX0_allWater 30 = .ok (.iload 5, 2) := by decide +kernel
theorem dX0_allWater_32 : decode cX0_allWater 32 = .ok (.aload_n 0, 1) := by decide +kernel
theorem dX0_allWater_33 : decode cX0_allWater 33 = .ok (.iload_n 3, 1) := by decide +kernel
theorem dX0_allWater_34 : decode cX0_allWater 34 = .ok (.iload 4, 2) := by decide +kernel
theorem dX0_allWater_36 : decode cX0_allWater 36 = .ok (.iload 5, 2) := by decide +kernel
theorem dX0_allWater_38 : decode cX0_allWater 38 = .ok (.invokevirtual 36, 3) := by decide +kernel
theorem dX0_allWater_41 : decode cX0_allWater 41 = .ok (.invokestatic 25, 3) := by decide +kernel
theorem dX0_allWater_44 : decode cX0_allWater 44 = .ok (.ladd, 1) := by decide +kernel
theorem dX0_allWater_45 : decode cX0_allWater 45 = .ok (.lstore_n 1, 1) := by decide +kernel
theorem dX0_allWater_46 : decode cX0_allWater 46 = .ok (.iinc 5 1, 3) := by decide +kernel
theorem dX0_allWater_49 : decode cX0_allWater 49 = .ok (.goto (-26), 3) := by decide +kernel
theorem dX0_allWater_52 : decode cX0_allWater 52 = .ok (.iinc 4 1, 3) := by decide +kernel
theorem dX0_allWater_55 : decode cX0_allWater 55 = .ok (.goto (-42), 3) := by decide +kernel
theorem dX0_allWater_58 : decode cX0_allWater 58 = .ok (.iinc 3 1, 3) := by decide +kernel
theorem dX0_allWater_61 : decode cX0_allWater 61 = .ok (.goto (-57), 3) := by decide +kernel
theorem dX0_allWater_64 : decode cX0_allWater 64 = .ok (.lload_n 1, 1) := by decide +kernel
theorem dX0_allWater_65 : decode cX0_allWater 65 = .ok (.lreturn, 1) := by decide +kernel
theorem dX1_init_0 : decode cX1_init 0 = .ok (.aload_n 0, 1) := by decide +kernel
theorem dX1_init_1 : decode cX1_init 1 = .ok (.invokespecial 3, 3) := by decide +kernel
theorem dX1_init_4 : decode cX1_init 4 = .ok (.aload_n 0, 1) := by decide +kernel
theorem dX1_init_5 : decode cX1_init 5 = .ok (.bipush 20, 2) := by decide +kernel
theorem dX1_init_7 : decode cX1_init 7 = .ok (.newarray .boolean, 2) := by decide +kernel
theorem dX1_init_9 : decode cX1_init 9 = .ok (.putfield 9, 3) := by decide +kernel
theorem dX1_init_12 : decode cX1_init 12 = .ok (.aload_n 0, 1) := by decide +kernel
theorem dX1_init_13 : decode cX1_init 13 = .ok (.bipush 20, 2) := by decide +kernel
theorem dX1_init_15 : decode cX1_init 15 = .ok (.newarray .boolean, 2) := by decide +kernel
theorem dX1_init_17 : decode cX1_init 17 = .ok (.putfield 15, 3) := by decide +kernel
theorem dX1_init_20 : decode cX1_init 20 = .ok (.aload_n 0, 1) := by decide +kernel
theorem dX1_init_21 : decode cX1_init 21 = .ok (.bipush 20, 2) := by decide +kernel
theorem dX1_init_23 : decode cX1_init 23 = .ok (.newarray .long, 2) := by decide +kernel
theorem dX1_init_25 : decode cX1_init 25 = .ok (.putfield 18, 3) := by decide +kernel
theorem dX1_init_28 : decode cX1_init 28 = .ok (.return_, 1) := by decide +kernel
theorem dX1_isKilometre_0 : decode cX1_isKilometre 0 = .ok (.iload_n 0, 1) := by decide +kernel
theorem dX1_isKilometre_1 : decode cX1_isKilometre 1 = .ok (.ifCond .lt 13, 3) := by decide +kernel
theorem dX1_isKilometre_4 : decode cX1_isKilometre 4 = .ok (.iload_n 0, 1) := by decide +kernel
theorem dX1_isKilometre_5 : decode cX1_isKilometre 5 = .ok (.bipush 20, 2) := by decide +kernel
theorem dX1_isKilometre_7 : decode cX1_isKilometre 7 = .ok (.if_icmp .ge 7, 3) := by decide +kernel
theorem dX1_isKilometre_10 : decode cX1_isKilometre 10 = .ok (.iconst 1, 1) := by decide +kernel
theorem dX1_isKilometre_11 : decode cX1_isKilometre 11 = .ok (.goto 4, 3) := by decide +kernel
theorem dX1_isKilometre_14 : decode cX1_isKilometre 14 = .ok (.iconst 0, 1) := by decide +kernel
theorem dX1_isKilometre_15 : decode cX1_isKilometre 15 = .ok (.ireturn, 1) := by decide +kernel
theorem dX1_isUp_0 : decode cX1_isUp 0 = .ok (.iload_n 1, 1) := by decide +kernel
theorem dX1_isUp_1 : decode cX1_isUp 1 = .ok (.invokestatic 22, 3) := by decide +kernel
theorem dX1_isUp_4 : decode cX1_isUp 4 = .ok (.ifCond .eq 16, 3) := by decide +kernel
theorem dX1_isUp_7 : decode cX1_isUp 7 = .ok (.aload_n 0, 1) := by decide +kernel
theorem dX1_isUp_8 : decode cX1_isUp 8 = .ok (.getfield 9, 3) := by decide +kernel
theorem dX1_isUp_11 : decode cX1_isUp 11 = .ok (.iload_n 1, 1) := by decide +kernel
theorem dX1_isUp_12 : decode cX1_isUp 12 = .ok (.baload, 1) := by decide +kernel
theorem dX1_isUp_13 : decode cX1_isUp 13 = .ok (.ifCond .eq 7, 3) := by decide +kernel
theorem dX1_isUp_16 : decode cX1_isUp 16 = .ok (.iconst 1, 1) := by decide +kernel
theorem dX1_isUp_17 : decode cX1_isUp 17 = .ok (.goto 4, 3) := by decide +kernel
theorem dX1_isUp_20 : decode cX1_isUp 20 = .ok (.iconst 0, 1) := by decide +kernel
theorem dX1_isUp_21 : decode cX1_isUp 21 = .ok (.ireturn, 1) := by decide +kernel
theorem dX1_isClogged_0 : decode cX1_isClogged 0 = .ok (.iload_n 1, 1) := by decide +kernel
theorem dX1_isClogged_1 : decode cX1_isClogged 1 = .ok (.invokestatic 22, 3) := by decide +kernel
theorem dX1_isClogged_4 : decode cX1_isClogged 4 = .ok (.ifCond .eq 16, 3) := by decide +kernel
theorem dX1_isClogged_7 : decode cX1_isClogged 7 = .ok (.aload_n 0, 1) := by decide +kernel
theorem dX1_isClogged_8 : decode cX1_isClogged 8 = .ok (.getfield 15, 3) := by decide +kernel
theorem dX1_isClogged_11 : decode cX1_isClogged 11 = .ok (.iload_n 1, 1) := by decide +kernel
theorem dX1_isClogged_12 : decode cX1_isClogged 12 = .ok (.baload, 1) := by decide +kernel
theorem dX1_isClogged_13 : decode cX1_isClogged 13 = .ok (.ifCond .eq 7, 3) := by decide +kernel
theorem dX1_isClogged_16 : decode cX1_isClogged 16 = .ok (.iconst 1, 1) := by decide +kernel
theorem dX1_isClogged_17 : decode cX1_isClogged 17 = .ok (.goto 4, 3) := by decide +kernel
theorem dX1_isClogged_20 : decode cX1_isClogged 20 = .ok (.iconst 0, 1) := by decide +kernel
theorem dX1_isClogged_21 : decode cX1_isClogged 21 = .ok (.ireturn, 1) := by decide +kernel
theorem dX1_contentOf_0 : decode cX1_contentOf 0 = .ok (.iload_n 1, 1) := by decide +kernel
theorem dX1_contentOf_1 : decode cX1_contentOf 1 = .ok (.invokestatic 22, 3) := by decide +kernel
theorem dX1_contentOf_4 : decode cX1_contentOf 4 = .ok (.ifCond .eq 12, 3) := by decide +kernel
theorem dX1_contentOf_7 : decode cX1_contentOf 7 = .ok (.aload_n 0, 1) := by decide +kernel
theorem dX1_contentOf_8 : decode cX1_contentOf 8 = .ok (.getfield 18, 3) := by decide +kernel
theorem dX1_contentOf_11 : decode cX1_contentOf 11 = .ok (.iload_n 1, 1) := by decide +kernel
theorem dX1_contentOf_12 : decode cX1_contentOf 12 = .ok (.laload, 1) := by decide +kernel
theorem dX1_contentOf_13 : decode cX1_contentOf 13 = .ok (.goto 4, 3) := by decide +kernel
theorem dX1_contentOf_16 : decode cX1_contentOf 16 = .ok (.lconst 0, 1) := by decide +kernel
theorem dX1_contentOf_17 : decode cX1_contentOf 17 = .ok (.lreturn, 1) := by decide +kernel
theorem dX1_change_0 : decode cX1_change 0 = .ok (.iload_n 1, 1) := by decide +kernel
theorem dX1_change_1 : decode cX1_change 1 = .ok (.invokestatic 22, 3) := by decide +kernel
theorem dX1_change_4 : decode cX1_change 4 = .ok (.ifCond .eq 24, 3) := by decide +kernel
theorem dX1_change_7 : decode cX1_change 7 = .ok (.aload_n 0, 1) := by decide +kernel
theorem dX1_change_8 : decode cX1_change 8 = .ok (.getfield 9, 3) := by decide +kernel
theorem dX1_change_11 : decode cX1_change 11 = .ok (.iload_n 1, 1) := by decide +kernel
theorem dX1_change_12 : decode cX1_change 12 = .ok (.iload_n 2, 1) := by decide +kernel
theorem dX1_change_13 : decode cX1_change 13 = .ok (.bastore, 1) := by decide +kernel
theorem dX1_change_14 : decode cX1_change 14 = .ok (.aload_n 0, 1) := by decide +kernel
theorem dX1_change_15 : decode cX1_change 15 = .ok (.getfield 15, 3) := by decide +kernel
theorem dX1_change_18 : decode cX1_change 18 = .ok (.iload_n 1, 1) := by decide +kernel
theorem dX1_change_19 : decode cX1_change 19 = .ok (.iconst 0, 1) := by decide +kernel
theorem dX1_change_20 : decode cX1_change 20 = .ok (.bastore, 1) := by decide +kernel
theorem dX1_change_21 : decode cX1_change 21 = .ok (.aload_n 0, 1) := by decide +kernel
theorem dX1_change_22 : decode cX1_change 22 = .ok (.getfield 18, 3) := by decide +kernel
theorem dX1_change_25 : decode cX1_change 25 = .ok (.iload_n 1, 1) := by decide +kernel
theorem dX1_change_26 : decode cX1_change 26 = .ok (.lconst 0, 1) := by decide +kernel
theorem dX1_change_27 : decode cX1_change 27 = .ok (.lastore, 1) := by decide +kernel
theorem dX1_change_28 : decode cX1_change 28 = .ok (.return_, 1) := by decide +kernel
theorem dX1_setClogged_0 : decode cX1_setClogged 0 = .ok (.iload_n 1, 1) := by decide +kernel
theorem dX1_setClogged_1 : decode cX1_setClogged 1 = .ok (.invokestatic 22, 3) := by decide +kernel
theorem dX1_setClogged_4 : decode cX1_setClogged 4 = .ok (.ifCond .eq 10, 3) := by decide +kernel
theorem dX1_setClogged_7 : decode cX1_setClogged 7 = .ok (.aload_n 0, 1) := by decide +kernel
theorem dX1_setClogged_8 : decode cX1_setClogged 8 = .ok (.getfield 15, 3) := by decide +kernel
theorem dX1_setClogged_11 : decode cX1_setClogged 11 = .ok (.iload_n 1, 1) := by decide +kernel
theorem dX1_setClogged_12 : decode cX1_setClogged 12 = .ok (.iload_n 2, 1) := by decide +kernel
theorem dX1_setClogged_13 : decode cX1_setClogged 13 = .ok (.bastore, 1) := by decide +kernel
theorem dX1_setClogged_14 : decode cX1_setClogged 14 = .ok (.return_, 1) := by decide +kernel
theorem dX1_collect_0 : decode cX1_collect 0 = .ok (.aload_n 0, 1) := by decide +kernel
theorem dX1_collect_1 : decode cX1_collect 1 = .ok (.iload_n 1, 1) := by decide +kernel
theorem dX1_collect_2 : decode cX1_collect 2 = .ok (.invokevirtual 26, 3) := by decide +kernel
theorem dX1_collect_5 : decode cX1_collect 5 = .ok (.ifCond .eq 29, 3) := by decide +kernel
theorem dX1_collect_8 : decode cX1_collect 8 = .ok (.aload_n 0, 1) := by decide +kernel
theorem dX1_collect_9 : decode cX1_collect 9 = .ok (.getfield 18, 3) := by decide +kernel
theorem dX1_collect_12 : decode cX1_collect 12 = .ok (.iload_n 1, 1) := by decide +kernel
theorem dX1_collect_13 : decode cX1_collect 13 = .ok (.dup2, 1) := by decide +kernel
theorem dX1_collect_14 : decode cX1_collect 14 = .ok (.laload, 1) := by decide +kernel
theorem dX1_collect_15 : decode cX1_collect 15 = .ok (.aload_n 0, 1) := by decide +kernel
theorem dX1_collect_16 : decode cX1_collect 16 = .ok (.iload_n 1, 1) := by decide +kernel
theorem dX1_collect_17 : decode cX1_collect 17 = .ok (.invokevirtual 29, 3) := by decide +kernel
theorem dX1_collect_20 : decode cX1_collect 20 = .ok (.ifCond .eq 11, 3) := by decide +kernel
theorem dX1_collect_23 : decode cX1_collect 23 = .ok (.lload_n 2, 1) := by decide +kernel
theorem dX1_collect_24 : decode cX1_collect 24 = .ok (.ldc2_w 32, 3) := by decide +kernel
theorem dX1_collect_27 : decode cX1_collect 27 = .ok (.ldiv, 1) := by decide +kernel
theorem dX1_collect_28 : decode cX1_collect 28 = .ok (.goto 4, 3) := by decide +kernel
theorem dX1_collect_31 : decode cX1_collect 31 = .ok (.lload_n 2, 1) := by decide +kernel
theorem dX1_collect_32 : decode cX1_collect 32 = .ok (.ladd, 1) := by decide +kernel
theorem dX1_collect_33 : decode cX1_collect 33 = .ok (.lastore, 1) := by decide +kernel
theorem dX1_collect_34 : decode cX1_collect 34 = .ok (.return_, 1) := by decide +kernel
theorem dX2_init_0 : decode cX2_init 0 = .ok (.aload_n 0, 1) := by decide +kernel
theorem dX2_init_1 : decode cX2_init 1 = .ok (.invokespecial 3, 3) := by decide +kernel
theorem dX2_init_4 : decode cX2_init 4 = .ok (.aload_n 0, 1) := by decide +kernel
theorem dX2_init_5 : decode cX2_init 5 = .ok (.sipush 601, 3) := by decide +kernel
theorem dX2_init_8 : decode cX2_init 8 = .ok (.newarray .int, 2) := by decide +kernel
theorem dX2_init_10 : decode cX2_init 10 = .ok (.putfield 9, 3) := by decide +kernel
theorem dX2_init_13 : decode cX2_init 13 = .ok (.aload_n 0, 1) := by decide +kernel
theorem dX2_init_14 : decode cX2_init 14 = .ok (.sipush 601, 3) := by decide +kernel
theorem dX2_init_17 : decode cX2_init 17 = .ok (.newarray .int, 2) := by decide +kernel
theorem dX2_init_19 : decode cX2_init 19 = .ok (.putfield 15, 3) := by decide +kernel
theorem dX2_init_22 : decode cX2_init 22 = .ok (.return_, 1) := by decide +kernel
theorem dX2_isMinute_0 : decode cX2_isMinute 0 = .ok (.iload_n 0, 1) := by decide +kernel
theorem dX2_isMinute_1 : decode cX2_isMinute 1 = .ok (.ifCond .lt 14, 3) := by decide +kernel
theorem dX2_isMinute_4 : decode cX2_isMinute 4 = .ok (.iload_n 0, 1) := by decide +kernel
theorem dX2_isMinute_5 : decode cX2_isMinute 5 = .ok (.sipush 600, 3) := by decide +kernel
theorem dX2_isMinute_8 : decode cX2_isMinute 8 = .ok (.if_icmp .gt 7, 3) := by decide +kernel
theorem dX2_isMinute_11 : decode cX2_isMinute 11 = .ok (.iconst 1, 1) := by decide +kernel
theorem dX2_isMinute_12 : decode cX2_isMinute 12 = .ok (.goto 4, 3) := by decide +kernel
theorem dX2_isMinute_15 : decode cX2_isMinute 15 = .ok (.iconst 0, 1) := by decide +kernel
theorem dX2_isMinute_16 : decode cX2_isMinute 16 = .ok (.ireturn, 1) := by decide +kernel
theorem dX2_keep_0 : decode cX2_keep 0 = .ok (.iload_n 1, 1) := by decide +kernel
theorem dX2_keep_1 : decode cX2_keep 1 = .ok (.invokestatic 18, 3) := by decide +kernel
theorem dX2_keep_4 : decode cX2_keep 4 = .ok (.ifCond .eq 17, 3) := by decide +kernel
theorem dX2_keep_7 : decode cX2_keep 7 = .ok (.aload_n 0, 1) := by decide +kernel
theorem dX2_keep_8 : decode cX2_keep 8 = .ok (.getfield 9, 3) := by decide +kernel
theorem dX2_keep_11 : decode cX2_keep 11 = .ok (.iload_n 1, 1) := by decide +kernel
theorem dX2_keep_12 : decode cX2_keep 12 = .ok (.iload_n 2, 1) := by decide +kernel
theorem dX2_keep_13 : decode cX2_keep 13 = .ok (.iastore, 1) := by decide +kernel
theorem dX2_keep_14 : decode cX2_keep 14 = .ok (.aload_n 0, 1) := by decide +kernel
theorem dX2_keep_15 : decode cX2_keep 15 = .ok (.getfield 15, 3) := by decide +kernel
theorem dX2_keep_18 : decode cX2_keep 18 = .ok (.iload_n 1, 1) := by decide +kernel
theorem dX2_keep_19 : decode cX2_keep 19 = .ok (.iload_n 3, 1) := by decide +kernel
theorem dX2_keep_20 : decode cX2_keep 20 = .ok (.iastore, 1) := by decide +kernel
theorem dX2_keep_21 : decode cX2_keep 21 = .ok (.return_, 1) := by decide +kernel
theorem dX2_meltingIn_0 : decode cX2_meltingIn 0 = .ok (.iload_n 1, 1) := by decide +kernel
theorem dX2_meltingIn_1 : decode cX2_meltingIn 1 = .ok (.invokestatic 18, 3) := by decide +kernel
theorem dX2_meltingIn_4 : decode cX2_meltingIn 4 = .ok (.ifCond .eq 12, 3) := by decide +kernel
theorem dX2_meltingIn_7 : decode cX2_meltingIn 7 = .ok (.aload_n 0, 1) := by decide +kernel
theorem dX2_meltingIn_8 : decode cX2_meltingIn 8 = .ok (.getfield 9, 3) := by decide +kernel
theorem dX2_meltingIn_11 : decode cX2_meltingIn 11 = .ok (.iload_n 1, 1) := by decide +kernel
theorem dX2_meltingIn_12 : decode cX2_meltingIn 12 = .ok (.iaload, 1) := by decide +kernel
theorem dX2_meltingIn_13 : decode cX2_meltingIn 13 = .ok (.goto 4, 3) := by decide +kernel
theorem dX2_meltingIn_16 : decode cX2_meltingIn 16 = .ok (.iconst 0, 1) := by decide +kernel
theorem dX2_meltingIn_17 : decode cX2_meltingIn 17 = .ok (.ireturn, 1) := by decide +kernel
theorem dX2_stepIn_0 : decode cX2_stepIn 0 = .ok (.iload_n 1, 1) := by decide +kernel
theorem dX2_stepIn_1 : decode cX2_stepIn 1 = .ok (.invokestatic 18, 3) := by decide +kernel
theorem dX2_stepIn_4 : decode cX2_stepIn 4 = .ok (.ifCond .eq 12, 3) := by decide +kernel
theorem dX2_stepIn_7 : decode cX2_stepIn 7 = .ok (.aload_n 0, 1) := by decide +kernel
theorem dX2_stepIn_8 : decode cX2_stepIn 8 = .ok (.getfield 15, 3) := by decide +kernel
theorem dX2_stepIn_11 : decode cX2_stepIn 11 = .ok (.iload_n 1, 1) := by decide +kernel
theorem dX2_stepIn_12 : decode cX2_stepIn 12 = .ok (.iaload, 1) := by decide +kernel
theorem dX2_stepIn_13 : decode cX2_stepIn 13 = .ok (.goto 4, 3) := by decide +kernel
theorem dX2_stepIn_16 : decode cX2_stepIn 16 = .ok (.iconst 0, 1) := by decide +kernel
theorem dX2_stepIn_17 : decode cX2_stepIn 17 = .ok (.ireturn, 1) := by decide +kernel
theorem dX3_init_0 : decode cX3_init 0 = .ok (.aload_n 0, 1) := by decide +kernel
theorem dX3_init_1 : decode cX3_init 1 = .ok (.invokespecial 3, 3) := by decide +kernel
theorem dX3_init_4 : decode cX3_init 4 = .ok (.aload_n 0, 1) := by decide +kernel
theorem dX3_init_5 : decode cX3_init 5 = .ok (.bipush 100, 2) := by decide +kernel
theorem dX3_init_7 : decode cX3_init 7 = .ok (.newarray .int, 2) := by decide +kernel
theorem dX3_init_9 : decode cX3_init 9 = .ok (.putfield 9, 3) := by decide +kernel
theorem dX3_init_12 : decode cX3_init 12 = .ok (.aload_n 0, 1) := by decide +kernel
theorem dX3_init_13 : decode cX3_init 13 = .ok (.bipush 100, 2) := by decide +kernel
theorem dX3_init_15 : decode cX3_init 15 = .ok (.newarray .int, 2) := by decide +kernel
theorem dX3_init_17 : decode cX3_init 17 = .ok (.putfield 15, 3) := by decide +kernel
theorem dX3_init_20 : decode cX3_init 20 = .ok (.aload_n 0, 1) := by decide +kernel
theorem dX3_init_21 : decode cX3_init 21 = .ok (.bipush 100, 2) := by decide +kernel
theorem dX3_init_23 : decode cX3_init 23 = .ok (.newarray .int, 2) := by decide +kernel
theorem dX3_init_25 : decode cX3_init 25 = .ok (.putfield 18, 3) := by decide +kernel
theorem dX3_init_28 : decode cX3_init 28 = .ok (.aload_n 0, 1) := by decide +kernel
theorem dX3_init_29 : decode cX3_init 29 = .ok (.bipush 100, 2) := by decide +kernel
theorem dX3_init_31 : decode cX3_init 31 = .ok (.newarray .int, 2) := by decide +kernel
theorem dX3_init_33 : decode cX3_init 33 = .ok (.putfield 21, 3) := by decide +kernel
theorem dX3_init_36 : decode cX3_init 36 = .ok (.aload_n 0, 1) := by decide +kernel
theorem dX3_init_37 : decode cX3_init 37 = .ok (.bipush 100, 2) := by decide +kernel
theorem dX3_init_39 : decode cX3_init 39 = .ok (.newarray .int, 2) := by decide +kernel
theorem dX3_init_41 : decode cX3_init 41 = .ok (.putfield 24, 3) := by decide +kernel
theorem dX3_init_44 : decode cX3_init 44 = .ok (.aload_n 0, 1) := by decide +kernel
theorem dX3_init_45 : decode cX3_init 45 = .ok (.iconst 0, 1) := by decide +kernel
theorem dX3_init_46 : decode cX3_init 46 = .ok (.putfield 27, 3) := by decide +kernel
theorem dX3_init_49 : decode cX3_init 49 = .ok (.return_, 1) := by decide +kernel
theorem dX3_keep_0 : decode cX3_keep 0 = .ok (.aload_n 0, 1) := by decide +kernel
theorem dX3_keep_1 : decode cX3_keep 1 = .ok (.getfield 27, 3) := by decide +kernel
theorem dX3_keep_4 : decode cX3_keep 4 = .ok (.bipush 100, 2) := by decide +kernel
theorem dX3_keep_6 : decode cX3_keep 6 = .ok (.if_icmp .lt 4, 3) := by decide +kernel
theorem dX3_keep_9 : decode cX3_keep 9 = .ok (.return_, 1) := by decide +kernel
theorem dX3_keep_10 : decode cX3_keep 10 = .ok (.aload_n 0, 1) := by decide +kernel
theorem dX3_keep_11 : decode cX3_keep 11 = .ok (.getfield 9, 3) := by decide +kernel
theorem dX3_keep_14 : decode cX3_keep 14 = .ok (.aload_n 0, 1) := by decide +kernel
theorem dX3_keep_15 : decode cX3_keep 15 = .ok (.getfield 27, 3) := by decide +kernel
theorem dX3_keep_18 : decode cX3_keep 18 = .ok (.iload_n 1, 1) := by decide +kernel
theorem dX3_keep_19 : decode cX3_keep 19 = .ok (.iastore, 1) := by decide +kernel
theorem dX3_keep_20 : decode cX3_keep 20 = .ok (.aload_n 0, 1) := by decide +kernel
theorem dX3_keep_21 : decode cX3_keep 21 = .ok (.getfield 15, 3) := by decide +kernel
theorem dX3_keep_24 : decode cX3_keep 24 = .ok (.aload_n 0, 1) := by decide +kernel
theorem dX3_keep_25 : decode cX3_keep 25 = .ok (.getfield 27, 3) := by decide +kernel
theorem dX3_keep_28 : decode cX3_keep 28 = .ok (.iload_n 2, 1) := by decide +kernel
theorem dX3_keep_29 : decode cX3_keep 29 = .ok (.iastore, 1) := by decide +kernel
theorem dX3_keep_30 : decode cX3_keep 30 = .ok (.aload_n 0, 1) := by decide +kernel
theorem dX3_keep_31 : decode cX3_keep 31 = .ok (.getfield 18, 3) := by decide +kernel
theorem dX3_keep_34 : decode cX3_keep 34 = .ok (.aload_n 0, 1) := by decide +kernel
theorem dX3_keep_35 : decode cX3_keep 35 = .ok (.getfield 27, 3) := by decide +kernel
theorem dX3_keep_38 : decode cX3_keep 38 = .ok (.iload_n 3, 1) := by decide +kernel
theorem dX3_keep_39 : decode cX3_keep 39 = .ok (.iastore, 1) := by decide +kernel
theorem dX3_keep_40 : decode cX3_keep 40 = .ok (.aload_n 0, 1) := by decide +kernel
theorem dX3_keep_41 : decode cX3_keep 41 = .ok (.getfield 21, 3) := by decide +kernel
theorem dX3_keep_44 : decode cX3_keep 44 = .ok (.aload_n 0, 1) := by decide +kernel
theorem dX3_keep_45 : decode cX3_keep 45 = .ok (.getfield 27, 3) := by decide +kernel
theorem dX3_keep_48 : decode cX3_keep 48 = .ok (.iload 4, 2) := by decide +kernel
theorem dX3_keep_50 : decode cX3_keep 50 = .ok (.iastore, 1) := by decide +kernel
theorem dX3_keep_51 : decode cX3_keep 51 = .ok (.aload_n 0, 1) := by decide +kernel
theorem dX3_keep_52 : decode cX3_keep 52 = .ok (.getfield 24, 3) := by decide +kernel
theorem dX3_keep_55 : decode cX3_keep 55 = .ok (.aload_n 0, 1) := by decide +kernel
theorem dX3_keep_56 : decode cX3_keep 56 = .ok (.getfield 27, 3) := by decide +kernel
theorem dX3_keep_59 : decode cX3_keep 59 = .ok (.iload 5, 2) := by decide +kernel
theorem dX3_keep_61 : decode cX3_keep 61 = .ok (.iastore, 1) := by decide +kernel
theorem dX3_keep_62 : decode cX3_keep 62 = .ok (.aload_n 0, 1) := by decide +kernel
theorem dX3_keep_63 : decode cX3_keep 63 = .ok (.dup, 1) := by decide +kernel
theorem dX3_keep_64 : decode cX3_keep 64 = .ok (.getfield 27, 3) := by decide +kernel
theorem dX3_keep_67 : decode cX3_keep 67 = .ok (.iconst 1, 1) := by decide +kernel
theorem dX3_keep_68 : decode cX3_keep 68 = .ok (.iadd, 1) := by decide +kernel
theorem dX3_keep_69 : decode cX3_keep 69 = .ok (.putfield 27, 3) := by decide +kernel
theorem dX3_keep_72 : decode cX3_keep 72 = .ok (.return_, 1) := by decide +kernel
theorem dX3_has_0 : decode cX3_has 0 = .ok (.iload_n 1, 1) := by decide +kernel
theorem dX3_has_1 : decode cX3_has 1 = .ok (.ifCond .lt 21, 3) := by decide +kernel
theorem dX3_has_4 : decode cX3_has 4 = .ok (.iload_n 1, 1) := by decide +kernel
theorem dX3_has_5 : decode cX3_has 5 = .ok (.aload_n 0, 1) := by decide +kernel
theorem dX3_has_6 : decode cX3_has 6 = .ok (.getfield 27, 3) := by decide +kernel
theorem dX3_has_9 : decode cX3_has 9 = .ok (.if_icmp .ge 13, 3) := by decide +kernel
theorem dX3_has_12 : decode cX3_has 12 = .ok (.iload_n 1, 1) := by decide +kernel
theorem dX3_has_13 : decode cX3_has 13 = .ok (.bipush 100, 2) := by decide +kernel
theorem dX3_has_15 : decode cX3_has 15 = .ok (.if_icmp .ge 7, 3) := by decide +kernel
theorem dX3_has_18 : decode cX3_has 18 = .ok (.iconst 1, 1) := by decide +kernel
theorem dX3_has_19 : decode cX3_has 19 = .ok (.goto 4, 3) := by decide +kernel
theorem dX3_has_22 : decode cX3_has 22 = .ok (.iconst 0, 1) := by decide +kernel
theorem dX3_has_23 : decode cX3_has 23 = .ok (.ireturn, 1) := by decide +kernel
theorem dX3_kilometreAt_0 : decode cX3_kilometreAt 0 = .ok (.aload_n 0, 1) := by decide +kernel
theorem dX3_kilometreAt_1 : decode cX3_kilometreAt 1 = .ok (.iload_n 1, 1) := by decide +kernel
theorem dX3_kilometreAt_2 : decode cX3_kilometreAt 2 = .ok (.invokevirtual 31, 3) := by decide +kernel
theorem dX3_kilometreAt_5 : decode cX3_kilometreAt 5 = .ok (.ifCond .eq 12, 3) := by decide +kernel
theorem dX3_kilometreAt_8 : decode cX3_kilometreAt 8 = .ok (.aload_n 0, 1) := by decide +kernel
theorem dX3_kilometreAt_9 : decode cX3_kilometreAt 9 = .ok (.getfield 9, 3) := by decide +kernel
theorem dX3_kilometreAt_12 : decode cX3_kilometreAt 12 = .ok (.iload_n 1, 1) := by decide +kernel
theorem dX3_kilometreAt_13 : decode cX3_kilometreAt 13 = .ok (.iaload, 1) := by decide +kernel
theorem dX3_kilometreAt_14 : decode cX3_kilometreAt 14 = .ok (.goto 4, 3) := by decide +kernel
theorem dX3_kilometreAt_17 : decode cX3_kilometreAt 17 = .ok (.iconst 0, 1) := by decide +kernel
theorem dX3_kilometreAt_18 : decode cX3_kilometreAt 18 = .ok (.ireturn, 1) := by decide +kernel
theorem dX3_layerAt_0 : decode cX3_layerAt 0 = .ok (.aload_n 0, 1) := by decide +kernel
theorem dX3_layerAt_1 : decode cX3_layerAt 1 = .ok (.iload_n 1, 1) := by decide +kernel
theorem dX3_layerAt_2 : decode cX3_layerAt 2 = .ok (.invokevirtual 31, 3) := by decide +kernel
theorem dX3_layerAt_5 : decode cX3_layerAt 5 = .ok (.ifCond .eq 12, 3) := by decide +kernel
theorem dX3_layerAt_8 : decode cX3_layerAt 8 = .ok (.aload_n 0, 1) := by decide +kernel
theorem dX3_layerAt_9 : decode cX3_layerAt 9 = .ok (.getfield 15, 3) := by decide +kernel
theorem dX3_layerAt_12 : decode cX3_layerAt 12 = .ok (.iload_n 1, 1) := by decide +kernel
theorem dX3_layerAt_13 : decode cX3_layerAt 13 = .ok (.iaload, 1) := by decide +kernel
theorem dX3_layerAt_14 : decode cX3_layerAt 14 = .ok (.goto 4, 3) := by decide +kernel
theorem dX3_layerAt_17 : decode cX3_layerAt 17 = .ok (.iconst 0, 1) := by decide +kernel
theorem dX3_layerAt_18 : decode cX3_layerAt 18 = .ok (.ireturn, 1) := by decide +kernel
theorem dX3_sizeAt_0 : decode cX3_sizeAt 0 = .ok (.aload_n 0, 1) := by decide +kernel
theorem dX3_sizeAt_1 : decode cX3_sizeAt 1 = .ok (.iload_n 1, 1) := by decide +kernel
theorem dX3_sizeAt_2 : decode cX3_sizeAt 2 = .ok (.invokevirtual 31, 3) := by decide +kernel
theorem dX3_sizeAt_5 : decode cX3_sizeAt 5 = .ok (.ifCond .eq 12, 3) := by decide +kernel
theorem dX3_sizeAt_8 : decode cX3_sizeAt 8 = .ok (.aload_n 0, 1) := by decide +kernel
theorem dX3_sizeAt_9 : decode cX3_sizeAt 9 = .ok (.getfield 18, 3) := by decide +kernel
theorem dX3_sizeAt_12 : decode cX3_sizeAt 12 = .ok (.iload_n 1, 1) := by decide +kernel
theorem dX3_sizeAt_13 : decode cX3_sizeAt 13 = .ok (.iaload, 1) := by decide +kernel
theorem dX3_sizeAt_14 : decode cX3_sizeAt 14 = .ok (.goto 4, 3) := by decide +kernel
theorem dX3_sizeAt_17 : decode cX3_sizeAt 17 = .ok (.iconst 0, 1) := by decide +kernel
theorem dX3_sizeAt_18 : decode cX3_sizeAt 18 = .ok (.ireturn, 1) := by decide +kernel
theorem dX3_minuteAt_0 : decode cX3_minuteAt 0 = .ok (.aload_n 0, 1) := by decide +kernel
theorem dX3_minuteAt_1 : decode cX3_minuteAt 1 = .ok (.iload_n 1, 1) := by decide +kernel
theorem dX3_minuteAt_2 : decode cX3_minuteAt 2 = .ok (.invokevirtual 31, 3) := by decide +kernel
theorem dX3_minuteAt_5 : decode cX3_minuteAt 5 = .ok (.ifCond .eq 12, 3) := by decide +kernel
theorem dX3_minuteAt_8 : decode cX3_minuteAt 8 = .ok (.aload_n 0, 1) := by decide +kernel
theorem dX3_minuteAt_9 : decode cX3_minuteAt 9 = .ok (.getfield 24, 3) := by decide +kernel
theorem dX3_minuteAt_12 : decode cX3_minuteAt 12 = .ok (.iload_n 1, 1) := by decide +kernel
theorem dX3_minuteAt_13 : decode cX3_minuteAt 13 = .ok (.iaload, 1) := by decide +kernel
theorem dX3_minuteAt_14 : decode cX3_minuteAt 14 = .ok (.goto 4, 3) := by decide +kernel
theorem dX3_minuteAt_17 : decode cX3_minuteAt 17 = .ok (.iconst 0, 1) := by decide +kernel
theorem dX3_minuteAt_18 : decode cX3_minuteAt 18 = .ok (.ireturn, 1) := by decide +kernel
theorem dX3_waterAt_0 : decode cX3_waterAt 0 = .ok (.aload_n 0, 1) := by decide +kernel
theorem dX3_waterAt_1 : decode cX3_waterAt 1 = .ok (.iload_n 1, 1) := by decide +kernel
theorem dX3_waterAt_2 : decode cX3_waterAt 2 = .ok (.invokevirtual 31, 3) := by decide +kernel
theorem dX3_waterAt_5 : decode cX3_waterAt 5 = .ok (.ifCond .eq 21, 3) := by decide +kernel
theorem dX3_waterAt_8 : decode cX3_waterAt 8 = .ok (.aload_n 0, 1) := by decide +kernel
theorem dX3_waterAt_9 : decode cX3_waterAt 9 = .ok (.getfield 18, 3) := by decide +kernel
theorem dX3_waterAt_12 : decode cX3_waterAt 12 = .ok (.iload_n 1, 1) := by decide +kernel
theorem dX3_waterAt_13 : decode cX3_waterAt 13 = .ok (.iaload, 1) := by decide +kernel
theorem dX3_waterAt_14 : decode cX3_waterAt 14 = .ok (.aload_n 0, 1) := by decide +kernel
theorem dX3_waterAt_15 : decode cX3_waterAt 15 = .ok (.getfield 21, 3) := by decide +kernel
theorem dX3_waterAt_18 : decode cX3_waterAt 18 = .ok (.iload_n 1, 1) := by decide +kernel
theorem dX3_waterAt_19 : decode cX3_waterAt 19 = .ok (.iaload, 1) := by decide +kernel
theorem dX3_waterAt_20 : decode cX3_waterAt 20 = .ok (.invokestatic 35, 3) := by decide +kernel
theorem dX3_waterAt_23 : decode cX3_waterAt 23 = .ok (.goto 4, 3) := by decide +kernel
theorem dX3_waterAt_26 : decode cX3_waterAt 26 = .ok (.lconst 0, 1) := by decide +kernel
theorem dX3_waterAt_27 : decode cX3_waterAt 27 = .ok (.lreturn, 1) := by decide +kernel
theorem dX4_init_0 : decode cX4_init 0 = .ok (.aload_n 0, 1) := by decide +kernel
theorem dX4_init_1 : decode cX4_init 1 = .ok (.invokespecial 3, 3) := by decide +kernel
theorem dX4_init_4 : decode cX4_init 4 = .ok (.aload_n 0, 1) := by decide +kernel
theorem dX4_init_5 : decode cX4_init 5 = .ok (.sipush 600, 3) := by decide +kernel
theorem dX4_init_8 : decode cX4_init 8 = .ok (.newarray .long, 2) := by decide +kernel
theorem dX4_init_10 : decode cX4_init 10 = .ok (.putfield 9, 3) := by decide +kernel
theorem dX4_init_13 : decode cX4_init 13 = .ok (.aload_n 0, 1) := by decide +kernel
theorem dX4_init_14 : decode cX4_init 14 = .ok (.bipush 30, 2) := by decide +kernel
theorem dX4_init_16 : decode cX4_init 16 = .ok (.newarray .int, 2) := by decide +kernel
theorem dX4_init_18 : decode cX4_init 18 = .ok (.putfield 15, 3) := by decide +kernel
theorem dX4_init_21 : decode cX4_init 21 = .ok (.aload_n 0, 1) := by decide +kernel
theorem dX4_init_22 : decode cX4_init 22 = .ok (.iconst 0, 1) := by decide +kernel
theorem dX4_init_23 : decode cX4_init 23 = .ok (.putfield 19, 3) := by decide +kernel
theorem dX4_init_26 : decode cX4_init 26 = .ok (.return_, 1) := by decide +kernel
theorem dX4_begin_0 : decode cX4_begin 0 = .ok (.aload_n 0, 1) := by decide +kernel
theorem dX4_begin_1 : decode cX4_begin 1 = .ok (.getfield 19, 3) := by decide +kernel
theorem dX4_begin_4 : decode cX4_begin 4 = .ok (.bipush 30, 2) := by decide +kernel
theorem dX4_begin_6 : decode cX4_begin 6 = .ok (.if_icmp .ge 23, 3) := by decide +kernel
theorem dX4_begin_9 : decode cX4_begin 9 = .ok (.aload_n 0, 1) := by decide +kernel
theorem dX4_begin_10 : decode cX4_begin 10 = .ok (.getfield 15, 3) := by decide +kernel
theorem dX4_begin_13 : decode cX4_begin 13 = .ok (.aload_n 0, 1) := by decide +kernel
theorem dX4_begin_14 : decode cX4_begin 14 = .ok (.getfield 19, 3) := by decide +kernel
theorem dX4_begin_17 : decode cX4_begin 17 = .ok (.iload_n 1, 1) := by decide +kernel
theorem dX4_begin_18 : decode cX4_begin 18 = .ok (.iastore, 1) := by decide +kernel
theorem dX4_begin_19 : decode cX4_begin 19 = .ok (.aload_n 0, 1) := by decide +kernel
theorem dX4_begin_20 : decode cX4_begin 20 = .ok (.dup, 1) := by decide +kernel
theorem dX4_begin_21 : decode cX4_begin 21 = .ok (.getfield 19, 3) := by decide +kernel
theorem dX4_begin_24 : decode cX4_begin 24 = .ok (.iconst 1, 1) := by decide +kernel
theorem dX4_begin_25 : decode cX4_begin 25 = .ok (.iadd, 1) := by decide +kernel
theorem dX4_begin_26 : decode cX4_begin 26 = .ok (.putfield 19, 3) := by decide +kernel
theorem dX4_begin_29 : decode cX4_begin 29 = .ok (.return_, 1) := by decide +kernel
theorem dX4_slotOf_0 : decode cX4_slotOf 0 = .ok (.iload_n 1, 1) := by decide +kernel
theorem dX4_slotOf_1 : decode cX4_slotOf 1 = .ok (.ifCond .lt 27, 3) := by decide +kernel
theorem dX4_slotOf_4 : decode cX4_slotOf 4 = .ok (.iload_n 1, 1) := by decide +kernel
theorem dX4_slotOf_5 : decode cX4_slotOf 5 = .ok (.aload_n 0, 1) := by decide +kernel
theorem dX4_slotOf_6 : decode cX4_slotOf 6 = .ok (.getfield 19, 3) := by decide +kernel
theorem dX4_slotOf_9 : decode cX4_slotOf 9 = .ok (.if_icmp .ge 19, 3) := by decide +kernel
theorem dX4_slotOf_12 : decode cX4_slotOf 12 = .ok (.iload_n 1, 1) := by decide +kernel
theorem dX4_slotOf_13 : decode cX4_slotOf 13 = .ok (.bipush 30, 2) := by decide +kernel
theorem dX4_slotOf_15 : decode cX4_slotOf 15 = .ok (.if_icmp .ge 13, 3) := by decide +kernel
theorem dX4_slotOf_18 : decode cX4_slotOf 18 = .ok (.iload_n 2, 1) := by decide +kernel
theorem dX4_slotOf_19 : decode cX4_slotOf 19 = .ok (.ifCond .lt 9, 3) := by decide +kernel
theorem dX4_slotOf_22 : decode cX4_slotOf 22 = .ok (.iload_n 2, 1) := by decide +kernel
theorem dX4_slotOf_23 : decode cX4_slotOf 23 = .ok (.bipush 20, 2) := by decide +kernel
theorem dX4_slotOf_25 : decode cX4_slotOf 25 = .ok (.if_icmp .lt 5, 3) := by decide +kernel
theorem dX4_slotOf_28 : decode cX4_slotOf 28 = .ok (.iconst (-1), 1) := by decide +kernel
theorem dX4_slotOf_29 : decode cX4_slotOf 29 = .ok (.ireturn, 1) := by decide +kernel
theorem dX4_slotOf_30 : decode cX4_slotOf 30 = .ok (.iload_n 1, 1) := by decide +kernel
theorem dX4_slotOf_31 : decode cX4_slotOf 31 = .ok (.bipush 20, 2) := by decide +kernel
theorem dX4_slotOf_33 : decode cX4_slotOf 33 = .ok (.imul, 1) := by decide +kernel
theorem dX4_slotOf_34 : decode cX4_slotOf 34 = .ok (.iload_n 2, 1) := by decide +kernel
theorem dX4_slotOf_35 : decode cX4_slotOf 35 = .ok (.iadd, 1) := by decide +kernel
theorem dX4_slotOf_36 : decode cX4_slotOf 36 = .ok (.ireturn, 1) := by decide +kernel
theorem dX4_setLatest_0 : decode cX4_setLatest 0 = .ok (.aload_n 0, 1) := by decide +kernel
theorem dX4_setLatest_1 : decode cX4_setLatest 1 = .ok (.aload_n 0, 1) := by decide +kernel
theorem dX4_setLatest_2 : decode cX4_setLatest 2 = .ok (.getfield 19, 3) := by decide +kernel
theorem dX4_setLatest_5 : decode cX4_setLatest 5 = .ok (.iconst 1, 1) := by decide +kernel
theorem dX4_setLatest_6 : decode cX4_setLatest 6 = .ok (.isub, 1) := by decide +kernel
theorem dX4_setLatest_7 : decode cX4_setLatest 7 = .ok (.iload_n 1, 1) := by decide +kernel
theorem dX4_setLatest_8 : decode cX4_setLatest 8 = .ok (.invokevirtual 23, 3) := by decide +kernel
theorem dX4_setLatest_11 : decode cX4_setLatest 11 = .ok (.istore 4, 2) := by decide +kernel
theorem dX4_setLatest_13 : decode cX4_setLatest 13 = .ok (.iload 4, 2) := by decide +kernel
theorem dX4_setLatest_15 : decode cX4_setLatest 15 = .ok (.iconst (-1), 1) := by decide +kernel
theorem dX4_setLatest_16 : decode cX4_setLatest 16 = .ok (.if_icmp .eq 11, 3) := by decide +kernel
theorem dX4_setLatest_19 : decode cX4_setLatest 19 = .ok (.aload_n 0, 1) := by decide +kernel
theorem dX4_setLatest_20 : decode cX4_setLatest 20 = .ok (.getfield 9, 3) := by decide +kernel
theorem dX4_setLatest_23 : decode cX4_setLatest 23 = .ok (.iload 4, 2) := by decide +kernel
theorem dX4_setLatest_25 : decode cX4_setLatest 25 = .ok (.lload_n 2, 1) := by decide +kernel
theorem dX4_setLatest_26 : decode cX4_setLatest 26 = .ok (.lastore, 1) := by decide +kernel
theorem dX4_setLatest_27 : decode cX4_setLatest 27 = .ok (.return_, 1) := by decide +kernel
theorem dX4_echoAt_0 : decode cX4_echoAt 0 = .ok (.aload_n 0, 1) := by decide +kernel
theorem dX4_echoAt_1 : decode cX4_echoAt 1 = .ok (.iload_n 1, 1) := by decide +kernel
theorem dX4_echoAt_2 : decode cX4_echoAt 2 = .ok (.iload_n 2, 1) := by decide +kernel
theorem dX4_echoAt_3 : decode cX4_echoAt 3 = .ok (.invokevirtual 23, 3) := by decide +kernel
theorem dX4_echoAt_6 : decode cX4_echoAt 6 = .ok (.istore_n 3, 1) := by decide +kernel
theorem dX4_echoAt_7 : decode cX4_echoAt 7 = .ok (.iload_n 3, 1) := by decide +kernel
theorem dX4_echoAt_8 : decode cX4_echoAt 8 = .ok (.iconst (-1), 1) := by decide +kernel
theorem dX4_echoAt_9 : decode cX4_echoAt 9 = .ok (.if_icmp .ne 7, 3) := by decide +kernel
theorem dX4_echoAt_12 : decode cX4_echoAt 12 = .ok (.lconst 0, 1) := by decide +kernel
theorem dX4_echoAt_13 : decode cX4_echoAt 13 = .ok (.goto 9, 3) := by decide +kernel
theorem dX4_echoAt_16 : decode cX4_echoAt 16 = .ok (.aload_n 0, 1) := by decide +kernel
theorem dX4_echoAt_17 : decode cX4_echoAt 17 = .ok (.getfield 9, 3) := by decide +kernel
theorem dX4_echoAt_20 : decode cX4_echoAt 20 = .ok (.iload_n 3, 1) := by decide +kernel
theorem dX4_echoAt_21 : decode cX4_echoAt 21 = .ok (.laload, 1) := by decide +kernel
theorem dX4_echoAt_22 : decode cX4_echoAt 22 = .ok (.lreturn, 1) := by decide +kernel
theorem dX4_ruleAt_0 : decode cX4_ruleAt 0 = .ok (.iload_n 1, 1) := by decide +kernel
theorem dX4_ruleAt_1 : decode cX4_ruleAt 1 = .ok (.ifCond .lt 26, 3) := by decide +kernel
theorem dX4_ruleAt_4 : decode cX4_ruleAt 4 = .ok (.iload_n 1, 1) := by decide +kernel
theorem dX4_ruleAt_5 : decode cX4_ruleAt 5 = .ok (.aload_n 0, 1) := by decide +kernel
theorem dX4_ruleAt_6 : decode cX4_ruleAt 6 = .ok (.getfield 19, 3) := by decide +kernel
theorem dX4_ruleAt_9 : decode cX4_ruleAt 9 = .ok (.if_icmp .ge 18, 3) := by decide +kernel
theorem dX4_ruleAt_12 : decode cX4_ruleAt 12 = .ok (.iload_n 1, 1) := by decide +kernel
theorem dX4_ruleAt_13 : decode cX4_ruleAt 13 = .ok (.bipush 30, 2) := by decide +kernel
theorem dX4_ruleAt_15 : decode cX4_ruleAt 15 = .ok (.if_icmp .ge 12, 3) := by decide +kernel
theorem dX4_ruleAt_18 : decode cX4_ruleAt 18 = .ok (.aload_n 0, 1) := by decide +kernel
theorem dX4_ruleAt_19 : decode cX4_ruleAt 19 = .ok (.getfield 15, 3) := by decide +kernel
theorem dX4_ruleAt_22 : decode cX4_ruleAt 22 = .ok (.iload_n 1, 1) := by decide +kernel
theorem dX4_ruleAt_23 : decode cX4_ruleAt 23 = .ok (.iaload, 1) := by decide +kernel
theorem dX4_ruleAt_24 : decode cX4_ruleAt 24 = .ok (.goto 4, 3) := by decide +kernel
theorem dX4_ruleAt_27 : decode cX4_ruleAt 27 = .ok (.iconst 0, 1) := by decide +kernel
theorem dX4_ruleAt_28 : decode cX4_ruleAt 28 = .ok (.ireturn, 1) := by decide +kernel
theorem dX4_differenceBy_0 : decode cX4_differenceBy 0 = .ok (.lconst 0, 1) := by decide +kernel
theorem dX4_differenceBy_1 : decode cX4_differenceBy 1 = .ok (.lstore_n 2, 1) := by decide +kernel
theorem dX4_differenceBy_2 : decode cX4_differenceBy 2 = .ok (.iconst 0, 1) := by decide +kernel
theorem dX4_differenceBy_3 : decode cX4_differenceBy 3 = .ok (.istore 4, 2) := by decide +kernel
theorem dX4_differenceBy_5 : decode cX4_differenceBy 5 = .ok (.iload 4, 2) := by decide +kernel
theorem dX4_differenceBy_7 : decode cX4_differenceBy 7 = .ok (.bipush 20, 2) := by decide +kernel
theorem dX4_differenceBy_9 : decode cX4_differenceBy 9 = .ok (.if_icmp .ge 50, 3) := by decide +kernel
theorem dX4_differenceBy_12 : decode cX4_differenceBy 12 = .ok (.aload_n 0, 1) := by decide +kernel
theorem dX4_differenceBy_13 : decode cX4_differenceBy 13 = .ok (.aload_n 0, 1) := by decide +kernel
theorem dX4_differenceBy_14 : decode cX4_differenceBy 14 = .ok (.getfield 19, 3) := by decide +kernel
theorem dX4_differenceBy_17 : decode cX4_differenceBy 17 = .ok (.iconst 1, 1) := by decide +kernel
theorem dX4_differenceBy_18 : decode cX4_differenceBy 18 = .ok (.isub, 1) := by decide +kernel
theorem dX4_differenceBy_19 : decode cX4_differenceBy 19 = .ok (.iload 4, 2) := by decide +kernel
theorem dX4_differenceBy_21 : decode cX4_differenceBy 21 = .ok (.invokevirtual 27, 3) := by decide +kernel
theorem dX4_differenceBy_24 : decode cX4_differenceBy 24 = .ok (.lstore 5, 2) := by decide +kernel
theorem dX4_differenceBy_26 : decode cX4_differenceBy 26 = .ok (.aload_n 0, 1) := by decide +kernel
theorem dX4_differenceBy_27 : decode cX4_differenceBy 27 = .ok (.aload_n 0, 1) := by decide +kernel
theorem dX4_differenceBy_28 : decode cX4_differenceBy 28 = .ok (.getfield 19, 3) := by decide +kernel
theorem dX4_differenceBy_31 : decode cX4_differenceBy 31 = .ok (.iconst 2, 1) := by decide +kernel
theorem dX4_differenceBy_32 : decode cX4_differenceBy 32 = .ok (.isub, 1) := by decide +kernel
theorem dX4_differenceBy_33 : decode cX4_differenceBy 33 = .ok (.iload 4, 2) := by decide +kernel
theorem dX4_differenceBy_35 : decode cX4_differenceBy 35 = .ok (.iload_n 1, 1) := by decide +kernel
theorem dX4_differenceBy_36 : decode cX4_differenceBy 36 = .ok (.isub, 1) := by decide +kernel
theorem dX4_differenceBy_37 : decode cX4_differenceBy 37 = .ok (.invokevirtual 27, 3) := by decide +kernel
theorem dX4_differenceBy_40 : decode cX4_differenceBy 40 = .ok (.lstore 7, 2) := by decide +kernel
theorem dX4_differenceBy_42 : decode cX4_differenceBy 42 = .ok (.lload_n 2, 1) := by decide +kernel
theorem dX4_differenceBy_43 : decode cX4_differenceBy 43 = .ok (.lload 5, 2) := by decide +kernel
theorem dX4_differenceBy_45 : decode cX4_differenceBy 45 = .ok (.lload 7, 2) := by decide +kernel
theorem dX4_differenceBy_47 : decode cX4_differenceBy 47 = .ok (.lsub, 1) := by decide +kernel
theorem dX4_differenceBy_48 : decode cX4_differenceBy 48 = .ok (.invokestatic 31, 3) := by decide +kernel
theorem dX4_differenceBy_51 : decode cX4_differenceBy 51 = .ok (.ladd, 1) := by decide +kernel
theorem dX4_differenceBy_52 : decode cX4_differenceBy 52 = .ok (.lstore_n 2, 1) := by decide +kernel
theorem dX4_differenceBy_53 : decode cX4_differenceBy 53 = .ok (.iinc 4 1, 3) := by decide +kernel
theorem dX4_differenceBy_56 : decode cX4_differenceBy 56 = .ok (.goto (-51), 3) := by decide +kernel
theorem dX4_differenceBy_59 : decode cX4_differenceBy 59 = .ok (.lload_n 2, 1) := by decide +kernel
theorem dX4_differenceBy_60 : decode cX4_differenceBy 60 = .ok (.lreturn, 1) := by decide +kernel
theorem dX5_init_0 : decode cX5_init 0 = .ok (.aload_n 0, 1) := by decide +kernel
theorem dX5_init_1 : decode cX5_init 1 = .ok (.invokespecial 3, 3) := by decide +kernel
theorem dX5_init_4 : decode cX5_init 4 = .ok (.aload_n 0, 1) := by decide +kernel
theorem dX5_init_5 : decode cX5_init 5 = .ok (.new 9, 3) := by decide +kernel
theorem dX5_init_8 : decode cX5_init 8 = .ok (.dup, 1) := by decide +kernel
theorem dX5_init_9 : decode cX5_init 9 = .ok (.invokespecial 11, 3) := by decide +kernel
theorem dX5_init_12 : decode cX5_init 12 = .ok (.putfield 12, 3) := by decide +kernel
theorem dX5_init_15 : decode cX5_init 15 = .ok (.aload_n 0, 1) := by decide +kernel
theorem dX5_init_16 : decode cX5_init 16 = .ok (.new 16, 3) := by decide +kernel
theorem dX5_init_19 : decode cX5_init 19 = .ok (.dup, 1) := by decide +kernel
theorem dX5_init_20 : decode cX5_init 20 = .ok (.invokespecial 18, 3) := by decide +kernel
theorem dX5_init_23 : decode cX5_init 23 = .ok (.putfield 19, 3) := by decide +kernel
theorem dX5_init_26 : decode cX5_init 26 = .ok (.aload_n 0, 1) := by decide +kernel
theorem dX5_init_27 : decode cX5_init 27 = .ok (.new 23, 3) := by decide +kernel
theorem dX5_init_30 : decode cX5_init 30 = .ok (.dup, 1) := by decide +kernel
theorem dX5_init_31 : decode cX5_init 31 = .ok (.invokespecial 25, 3) := by decide +kernel
theorem dX5_init_34 : decode cX5_init 34 = .ok (.putfield 26, 3) := by decide +kernel
theorem dX5_init_37 : decode cX5_init 37 = .ok (.aload_n 0, 1) := by decide +kernel
theorem dX5_init_38 : decode cX5_init 38 = .ok (.new 30, 3) := by decide +kernel
theorem dX5_init_41 : decode cX5_init 41 = .ok (.dup, 1) := by decide +kernel
theorem dX5_init_42 : decode cX5_init 42 = .ok (.invokespecial 32, 3) := by decide +kernel
theorem dX5_init_45 : decode cX5_init 45 = .ok (.putfield 33, 3) := by decide +kernel
theorem dX5_init_48 : decode cX5_init 48 = .ok (.aload_n 0, 1) := by decide +kernel
theorem dX5_init_49 : decode cX5_init 49 = .ok (.new 37, 3) := by decide +kernel
theorem dX5_init_52 : decode cX5_init 52 = .ok (.dup, 1) := by decide +kernel
theorem dX5_init_53 : decode cX5_init 53 = .ok (.invokespecial 39, 3) := by decide +kernel
theorem dX5_init_56 : decode cX5_init 56 = .ok (.putfield 40, 3) := by decide +kernel
theorem dX5_init_59 : decode cX5_init 59 = .ok (.aload_n 0, 1) := by decide +kernel
theorem dX5_init_60 : decode cX5_init 60 = .ok (.bipush 20, 2) := by decide +kernel
theorem dX5_init_62 : decode cX5_init 62 = .ok (.newarray .int, 2) := by decide +kernel
theorem dX5_init_64 : decode cX5_init 64 = .ok (.putfield 44, 3) := by decide +kernel
theorem dX5_init_67 : decode cX5_init 67 = .ok (.aload_n 0, 1) := by decide +kernel
theorem dX5_init_68 : decode cX5_init 68 = .ok (.bipush 20, 2) := by decide +kernel
theorem dX5_init_70 : decode cX5_init 70 = .ok (.newarray .long, 2) := by decide +kernel
theorem dX5_init_72 : decode cX5_init 72 = .ok (.putfield 48, 3) := by decide +kernel
theorem dX5_init_75 : decode cX5_init 75 = .ok (.aload_n 0, 1) := by decide +kernel
theorem dX5_init_76 : decode cX5_init 76 = .ok (.iconst 5, 1) := by decide +kernel
theorem dX5_init_77 : decode cX5_init 77 = .ok (.putfield 52, 3) := by decide +kernel
theorem dX5_init_80 : decode cX5_init 80 = .ok (.aload_n 0, 1) := by decide +kernel
theorem dX5_init_81 : decode cX5_init 81 = .ok (.iconst 0, 1) := by decide +kernel
theorem dX5_init_82 : decode cX5_init 82 = .ok (.putfield 56, 3) := by decide +kernel
theorem dX5_init_85 : decode cX5_init 85 = .ok (.aload_n 0, 1) := by decide +kernel
theorem dX5_init_86 : decode cX5_init 86 = .ok (.iconst 0, 1) := by decide +kernel
theorem dX5_init_87 : decode cX5_init 87 = .ok (.putfield 59, 3) := by decide +kernel
theorem dX5_init_90 : decode cX5_init 90 = .ok (.aload_n 0, 1) := by decide +kernel
theorem dX5_init_91 : decode cX5_init 91 = .ok (.iconst 0, 1) := by decide +kernel
theorem dX5_init_92 : decode cX5_init 92 = .ok (.putfield 63, 3) := by decide +kernel
theorem dX5_init_95 : decode cX5_init 95 = .ok (.aload_n 0, 1) := by decide +kernel
theorem dX5_init_96 : decode cX5_init 96 = .ok (.bipush 10, 2) := by decide +kernel
theorem dX5_init_98 : decode cX5_init 98 = .ok (.putfield 66, 3) := by decide +kernel
theorem dX5_init_101 : decode cX5_init 101 = .ok (.aload_n 0, 1) := by decide +kernel
theorem dX5_init_102 : decode cX5_init 102 = .ok (.lconst 0, 1) := by decide +kernel
theorem dX5_init_103 : decode cX5_init 103 = .ok (.putfield 69, 3) := by decide +kernel
theorem dX5_init_106 : decode cX5_init 106 = .ok (.aload_n 0, 1) := by decide +kernel
theorem dX5_init_107 : decode cX5_init 107 = .ok (.lconst 0, 1) := by decide +kernel
theorem dX5_init_108 : decode cX5_init 108 = .ok (.putfield 73, 3) := by decide +kernel
theorem dX5_init_111 : decode cX5_init 111 = .ok (.return_, 1) := by decide +kernel
theorem dX5_drops_0 : decode cX5_drops 0 = .ok (.iload_n 1, 1) := by decide +kernel
theorem dX5_drops_1 : decode cX5_drops 1 = .ok (.invokestatic 76, 3) := by decide +kernel
theorem dX5_drops_4 : decode cX5_drops 4 = .ok (.iload_n 2, 1) := by decide +kernel
theorem dX5_drops_5 : decode cX5_drops 5 = .ok (.invokestatic 80, 3) := by decide +kernel
theorem dX5_drops_8 : decode cX5_drops 8 = .ok (.iload_n 3, 1) := by decide +kernel
theorem dX5_drops_9 : decode cX5_drops 9 = .ok (.iconst 1, 1) := by decide +kernel
theorem dX5_drops_10 : decode cX5_drops 10 = .ok (.iconst 3, 1) := by decide +kernel
theorem dX5_drops_11 : decode cX5_drops 11 = .ok (.invokestatic 83, 3) := by decide +kernel
theorem dX5_drops_14 : decode cX5_drops 14 = .ok (.iload 4, 2) := by decide +kernel
theorem dX5_drops_16 : decode cX5_drops 16 = .ok (.iconst 1, 1) := by decide +kernel
theorem dX5_drops_17 : decode cX5_drops 17 = .ok (.sipush 1000, 3) := by decide +kernel
theorem dX5_drops_20 : decode cX5_drops 20 = .ok (.invokestatic 83, 3) := by decide +kernel
theorem dX5_drops_23 : decode cX5_drops 23 = .ok (.aload_n 0, 1) := by decide +kernel
theorem dX5_drops_24 : decode cX5_drops 24 = .ok (.getfield 19, 3) := by decide +kernel
theorem dX5_drops_27 : decode cX5_drops 27 = .ok (.getfield 87, 3) := by decide +kernel
theorem dX5_drops_30 : decode cX5_drops 30 = .ok (.bipush 100, 2) := by decide +kernel
theorem dX5_drops_32 : decode cX5_drops 32 = .ok (.if_icmp .lt 13, 3) := by decide +kernel
theorem dX5_drops_35 : decode cX5_drops 35 = .ok (.new 90, 3) := by decide +kernel
theorem dX5_drops_38 : decode cX5_drops 38 = .ok (.dup, 1) := by decide +kernel
theorem dX5_drops_39 : decode cX5_drops 39 = .ok (.ldc 92, 2) := by decide +kernel
theorem dX5_drops_41 : decode cX5_drops 41 = .ok (.invokespecial 94, 3) := by decide +kernel
theorem dX5_drops_44 : decode cX5_drops 44 = .ok (.athrow, 1) := by decide +kernel
theorem dX5_drops_45 : decode cX5_drops 45 = .ok (.aload_n 0, 1) := by decide +kernel
theorem dX5_drops_46 : decode cX5_drops 46 = .ok (.getfield 12, 3) := by decide +kernel
theorem dX5_drops_49 : decode cX5_drops 49 = .ok (.iload_n 1, 1) := by decide +kernel
theorem dX5_drops_50 : decode cX5_drops 50 = .ok (.iload_n 2, 1) := by decide +kernel
theorem dX5_drops_51 : decode cX5_drops 51 = .ok (.iload_n 3, 1) := by decide +kernel
theorem dX5_drops_52 : decode cX5_drops 52 = .ok (.iload 4, 2) := by decide +kernel
theorem dX5_drops_54 : decode cX5_drops 54 = .ok (.invokevirtual 97, 3) := by decide +kernel
theorem dX5_drops_57 : decode cX5_drops 57 = .ok (.aload_n 0, 1) := by decide +kernel
theorem dX5_drops_58 : decode cX5_drops 58 = .ok (.getfield 19, 3) := by decide +kernel
theorem dX5_drops_61 : decode cX5_drops 61 = .ok (.iload_n 1, 1) := by decide +kernel
theorem dX5_drops_62 : decode cX5_drops 62 = .ok (.iload_n 2, 1) := by decide +kernel
theorem dX5_drops_63 : decode cX5_drops 63 = .ok (.iload_n 3, 1) := by decide +kernel
theorem dX5_drops_64 : decode cX5_drops 64 = .ok (.iload 4, 2) := by decide +kernel
theorem dX5_drops_66 : decode cX5_drops 66 = .ok (.aload_n 0, 1) := by decide +kernel
theorem dX5_drops_67 : decode cX5_drops 67 = .ok (.getfield 63, 3) := by decide +kernel
theorem dX5_drops_70 : decode cX5_drops 70 = .ok (.invokevirtual 101, 3) := by decide +kernel
theorem dX5_drops_73 : decode cX5_drops 73 = .ok (.aload_n 0, 1) := by decide +kernel
theorem dX5_drops_74 : decode cX5_drops 74 = .ok (.dup, 1) := by decide +kernel
theorem dX5_drops_75 : decode cX5_drops 75 = .ok (.getfield 69, 3) := by decide +kernel
theorem dX5_drops_78 : decode cX5_drops 78 = .ok (.iload_n 3, 1) := by decide +kernel
theorem dX5_drops_79 : decode cX5_drops 79 = .ok (.iload 4, 2) := by decide +kernel
theorem dX5_drops_81 : decode cX5_drops 81 = .ok (.invokestatic 105, 3) := by decide +kernel
theorem dX5_drops_84 : decode cX5_drops 84 = .ok (.ladd, 1) := by decide +kernel
theorem dX5_drops_85 : decode cX5_drops 85 = .ok (.putfield 69, 3) := by decide +kernel
theorem dX5_drops_88 : decode cX5_drops 88 = .ok (.aload_n 0, 1) := by decide +kernel
theorem dX5_drops_89 : decode cX5_drops 89 = .ok (.getfield 12, 3) := by decide +kernel
theorem dX5_drops_92 : decode cX5_drops 92 = .ok (.iload_n 1, 1) := by decide +kernel
theorem dX5_drops_93 : decode cX5_drops 93 = .ok (.iload_n 2, 1) := by decide +kernel
theorem dX5_drops_94 : decode cX5_drops 94 = .ok (.iload_n 3, 1) := by decide +kernel
theorem dX5_drops_95 : decode cX5_drops 95 = .ok (.invokevirtual 109, 3) := by decide +kernel
theorem dX5_drops_98 : decode cX5_drops 98 = .ok (.ireturn, 1) := by decide +kernel
theorem dX5_melt_0 : decode cX5_melt 0 = .ok (.iload_n 1, 1) := by decide +kernel
theorem dX5_melt_1 : decode cX5_melt 1 = .ok (.invokestatic 80, 3) := by decide +kernel
theorem dX5_melt_4 : decode cX5_melt 4 = .ok (.aload_n 0, 1) := by decide +kernel
theorem dX5_melt_5 : decode cX5_melt 5 = .ok (.getfield 52, 3) := by decide +kernel
theorem dX5_melt_8 : decode cX5_melt 8 = .ok (.istore_n 2, 1) := by decide +kernel
theorem dX5_melt_9 : decode cX5_melt 9 = .ok (.aload_n 0, 1) := by decide +kernel
theorem dX5_melt_10 : decode cX5_melt 10 = .ok (.iload_n 1, 1) := by decide +kernel
theorem dX5_melt_11 : decode cX5_melt 11 = .ok (.putfield 52, 3) := by decide +kernel
theorem dX5_melt_14 : decode cX5_melt 14 = .ok (.iload_n 2, 1) := by decide +kernel
theorem dX5_melt_15 : decode cX5_melt 15 = .ok (.ireturn, 1) := by decide +kernel
theorem dX5_hill_0 : decode cX5_hill 0 = .ok (.iload_n 1, 1) := by decide +kernel
theorem dX5_hill_1 : decode cX5_hill 1 = .ok (.invokestatic 76, 3) := by decide +kernel
theorem dX5_hill_4 : decode cX5_hill 4 = .ok (.iload_n 2, 1) := by decide +kernel
theorem dX5_hill_5 : decode cX5_hill 5 = .ok (.iconst 0, 1) := by decide +kernel
theorem dX5_hill_6 : decode cX5_hill 6 = .ok (.bipush 9, 2) := by decide +kernel
theorem dX5_hill_8 : decode cX5_hill 8 = .ok (.invokestatic 83, 3) := by decide +kernel
theorem dX5_hill_11 : decode cX5_hill 11 = .ok (.aload_n 0, 1) := by decide +kernel
theorem dX5_hill_12 : decode cX5_hill 12 = .ok (.getfield 44, 3) := by decide +kernel
theorem dX5_hill_15 : decode cX5_hill 15 = .ok (.iload_n 1, 1) := by decide +kernel
theorem dX5_hill_16 : decode cX5_hill 16 = .ok (.iaload, 1) := by decide +kernel
theorem dX5_hill_17 : decode cX5_hill 17 = .ok (.istore_n 3, 1) := by decide +kernel
theorem dX5_hill_18 : decode cX5_hill 18 = .ok (.aload_n 0, 1) := by decide +kernel
theorem dX5_hill_19 : decode cX5_hill 19 = .ok (.getfield 44, 3) := by decide +kernel
theorem dX5_hill_22 : decode cX5_hill 22 = .ok (.iload_n 1, 1) := by decide +kernel
theorem dX5_hill_23 : decode cX5_hill 23 = .ok (.iload_n 2, 1) := by decide +kernel
theorem dX5_hill_24 : decode cX5_hill 24 = .ok (.iastore, 1) := by decide +kernel
theorem dX5_hill_25 : decode cX5_hill 25 = .ok (.iload_n 3, 1) := by decide +kernel
theorem dX5_hill_26 : decode cX5_hill 26 = .ok (.ireturn, 1) := by decide +kernel
theorem dX5_drift_0 : decode cX5_drift 0 = .ok (.iload_n 1, 1) := by decide +kernel
theorem dX5_drift_1 : decode cX5_drift 1 = .ok (.iconst 0, 1) := by decide +kernel
theorem dX5_drift_2 : decode cX5_drift 2 = .ok (.bipush 60, 2) := by decide +kernel
theorem dX5_drift_4 : decode cX5_drift 4 = .ok (.invokestatic 83, 3) := by decide +kernel
theorem dX5_drift_7 : decode cX5_drift 7 = .ok (.aload_n 0, 1) := by decide +kernel
theorem dX5_drift_8 : decode cX5_drift 8 = .ok (.getfield 56, 3) := by decide +kernel
theorem dX5_drift_11 : decode cX5_drift 11 = .ok (.istore_n 3, 1) := by decide +kernel
theorem dX5_drift_12 : decode cX5_drift 12 = .ok (.aload_n 0, 1) := by decide +kernel
theorem dX5_drift_13 : decode cX5_drift 13 = .ok (.iload_n 1, 1) := by decide +kernel
theorem dX5_drift_14 : decode cX5_drift 14 = .ok (.putfield 56, 3) := by decide +kernel
theorem dX5_drift_17 : decode cX5_drift 17 = .ok (.aload_n 0, 1) := by decide +kernel
theorem dX5_drift_18 : decode cX5_drift 18 = .ok (.iload_n 2, 1) := by decide +kernel
theorem dX5_drift_19 : decode cX5_drift 19 = .ok (.putfield 59, 3) := by decide +kernel
theorem dX5_drift_22 : decode cX5_drift 22 = .ok (.iload_n 3, 1) := by decide +kernel
theorem dX5_drift_23 : decode cX5_drift 23 = .ok (.ireturn, 1) := by decide +kernel
theorem dX5_gauge_0 : decode cX5_gauge 0 = .ok (.iload_n 1, 1) := by decide +kernel
theorem dX5_gauge_1 : decode cX5_gauge 1 = .ok (.invokestatic 76, 3) := by decide +kernel
theorem dX5_gauge_4 : decode cX5_gauge 4 = .ok (.aload_n 0, 1) := by decide +kernel
theorem dX5_gauge_5 : decode cX5_gauge 5 = .ok (.getfield 33, 3) := by decide +kernel
theorem dX5_gauge_8 : decode cX5_gauge 8 = .ok (.iload_n 1, 1) := by decide +kernel
theorem dX5_gauge_9 : decode cX5_gauge 9 = .ok (.invokevirtual 113, 3) := by decide +kernel
theorem dX5_gauge_12 : decode cX5_gauge 12 = .ok (.istore_n 3, 1) := by decide +kernel
theorem dX5_gauge_13 : decode cX5_gauge 13 = .ok (.iload_n 3, 1) := by decide +kernel
theorem dX5_gauge_14 : decode cX5_gauge 14 = .ok (.iload_n 2, 1) := by decide +kernel
theorem dX5_gauge_15 : decode cX5_gauge 15 = .ok (.if_icmp .eq 12, 3) := by decide +kernel
theorem dX5_gauge_18 : decode cX5_gauge 18 = .ok (.aload_n 0, 1) := by decide +kernel
theorem dX5_gauge_19 : decode cX5_gauge 19 = .ok (.getfield 33, 3) := by decide +kernel
theorem dX5_gauge_22 : decode cX5_gauge 22 = .ok (.iload_n 1, 1) := by decide +kernel
theorem dX5_gauge_23 : decode cX5_gauge 23 = .ok (.iload_n 2, 1) := by decide +kernel
theorem dX5_gauge_24 : decode cX5_gauge 24 = .ok (.invokevirtual 117, 3) := by decide +kernel
theorem dX5_gauge_27 : decode cX5_gauge 27 = .ok (.iload_n 3, 1) := by decide +kernel
theorem dX5_gauge_28 : decode cX5_gauge 28 = .ok (.ireturn, 1) := by decide +kernel
theorem dX5_clog_0 : decode cX5_clog 0 = .ok (.iload_n 1, 1) := by decide +kernel
theorem dX5_clog_1 : decode cX5_clog 1 = .ok (.invokestatic 76, 3) := by decide +kernel
theorem dX5_clog_4 : decode cX5_clog 4 = .ok (.aload_n 0, 1) := by decide +kernel
theorem dX5_clog_5 : decode cX5_clog 5 = .ok (.iload_n 1, 1) := by decide +kernel
theorem dX5_clog_6 : decode cX5_clog 6 = .ok (.invokevirtual 121, 3) := by decide +kernel
theorem dX5_clog_9 : decode cX5_clog 9 = .ok (.aload_n 0, 1) := by decide +kernel
theorem dX5_clog_10 : decode cX5_clog 10 = .ok (.getfield 33, 3) := by decide +kernel
theorem dX5_clog_13 : decode cX5_clog 13 = .ok (.iload_n 1, 1) := by decide +kernel
theorem dX5_clog_14 : decode cX5_clog 14 = .ok (.invokevirtual 124, 3) := by decide +kernel
theorem dX5_clog_17 : decode cX5_clog 17 = .ok (.istore_n 3, 1) := by decide +kernel
theorem dX5_clog_18 : decode cX5_clog 18 = .ok (.aload_n 0, 1) := by decide +kernel
theorem dX5_clog_19 : decode cX5_clog 19 = .ok (.getfield 33, 3) := by decide +kernel
theorem dX5_clog_22 : decode cX5_clog 22 = .ok (.iload_n 1, 1) := by decide +kernel
theorem dX5_clog_23 : decode cX5_clog 23 = .ok (.iload_n 2, 1) := by decide +kernel
theorem dX5_clog_24 : decode cX5_clog 24 = .ok (.invokevirtual 127, 3) := by decide +kernel
theorem dX5_clog_27 : decode cX5_clog 27 = .ok (.iload_n 3, 1) := by decide +kernel
theorem dX5_clog_28 : decode cX5_clog 28 = .ok (.ireturn, 1) := by decide +kernel
theorem dX5_pass_0 : decode cX5_pass 0 = .ok (.iload_n 1, 1) := by decide +kernel
theorem dX5_pass_1 : decode cX5_pass 1 = .ok (.iconst 1, 1) := by decide +kernel
theorem dX5_pass_2 : decode cX5_pass 2 = .ok (.bipush 60, 2) := by decide +kernel
theorem dX5_pass_4 : decode cX5_pass 4 = .ok (.invokestatic 83, 3) := by decide +kernel
theorem dX5_pass_7 : decode cX5_pass 7 = .ok (.iload_n 1, 1) := by decide +kernel
theorem dX5_pass_8 : decode cX5_pass 8 = .ok (.sipush 600, 3) := by decide +kernel
theorem dX5_pass_11 : decode cX5_pass 11 = .ok (.aload_n 0, 1) := by decide +kernel
theorem dX5_pass_12 : decode cX5_pass 12 = .ok (.getfield 63, 3) := by decide +kernel
theorem dX5_pass_15 : decode cX5_pass 15 = .ok (.isub, 1) := by decide +kernel
theorem dX5_pass_16 : decode cX5_pass 16 = .ok (.if_icmp .le 13, 3) := by decide +kernel
theorem dX5_pass_19 : decode cX5_pass 19 = .ok (.new 90, 3) := by decide +kernel
theorem dX5_pass_22 : decode cX5_pass 22 = .ok (.dup, 1) := by decide +kernel
theorem dX5_pass_23 : decode cX5_pass 23 = .ok (.ldc 130, 2) := by decide +kernel
theorem dX5_pass_25 : decode cX5_pass 25 = .ok (.invokespecial 94, 3) := by decide +kernel
theorem dX5_pass_28 : decode cX5_pass 28 = .ok (.athrow, 1) := by decide +kernel
theorem dX5_pass_29 : decode cX5_pass 29 = .ok (.iconst 0, 1) := by decide +kernel
theorem dX5_pass_30 : decode cX5_pass 30 = .ok (.istore_n 2, 1) := by decide +kernel
theorem dX5_pass_31 : decode cX5_pass 31 = .ok (.iload_n 2, 1) := by decide +kernel
theorem dX5_pass_32 : decode cX5_pass 32 = .ok (.iload_n 1, 1) := by decide +kernel
theorem dX5_pass_33 : decode cX5_pass 33 = .ok (.if_icmp .ge 13, 3) := by decide +kernel
theorem dX5_pass_36 : decode cX5_pass 36 = .ok (.aload_n 0, 1) := by decide +kernel
theorem dX5_pass_37 : decode cX5_pass 37 = .ok (.invokevirtual 132, 3) := by decide +kernel
theorem dX5_pass_40 : decode cX5_pass 40 = .ok (.iinc 2 1, 3) := by decide +kernel
theorem dX5_pass_43 : decode cX5_pass 43 = .ok (.goto (-12), 3) := by decide +kernel
theorem dX5_pass_46 : decode cX5_pass 46 = .ok (.aload_n 0, 1) := by decide +kernel
theorem dX5_pass_47 : decode cX5_pass 47 = .ok (.getfield 63, 3) := by decide +kernel
theorem dX5_pass_50 : decode cX5_pass 50 = .ok (.ireturn, 1) := by decide +kernel
theorem dX5_scan_0 : decode cX5_scan 0 = .ok (.iload_n 1, 1) := by decide +kernel
theorem dX5_scan_1 : decode cX5_scan 1 = .ok (.iconst 0, 1) := by decide +kernel
theorem dX5_scan_2 : decode cX5_scan 2 = .ok (.iconst 3, 1) := by decide +kernel
theorem dX5_scan_3 : decode cX5_scan 3 = .ok (.invokestatic 83, 3) := by decide +kernel
theorem dX5_scan_6 : decode cX5_scan 6 = .ok (.aload_n 0, 1) := by decide +kernel
theorem dX5_scan_7 : decode cX5_scan 7 = .ok (.getfield 40, 3) := by decide +kernel
theorem dX5_scan_10 : decode cX5_scan 10 = .ok (.getfield 135, 3) := by decide +kernel
theorem dX5_scan_13 : decode cX5_scan 13 = .ok (.bipush 30, 2) := by decide +kernel
theorem dX5_scan_15 : decode cX5_scan 15 = .ok (.if_icmp .lt 13, 3) := by decide +kernel
theorem dX5_scan_18 : decode cX5_scan 18 = .ok (.new 90, 3) := by decide +kernel
theorem dX5_scan_21 : decode cX5_scan 21 = .ok (.dup, 1) := by decide +kernel
theorem dX5_scan_22 : decode cX5_scan 22 = .ok (.ldc 136, 2) := by decide +kernel
theorem dX5_scan_24 : decode cX5_scan 24 = .ok (.invokespecial 94, 3) := by decide +kernel
theorem dX5_scan_27 : decode cX5_scan 27 = .ok (.athrow, 1) := by decide +kernel
theorem dX5_scan_28 : decode cX5_scan 28 = .ok (.aload_n 0, 1) := by decide +kernel
theorem dX5_scan_29 : decode cX5_scan 29 = .ok (.iload_n 1, 1) := by decide +kernel
theorem dX5_scan_30 : decode cX5_scan 30 = .ok (.invokevirtual 138, 3) := by decide +kernel
theorem dX5_scan_33 : decode cX5_scan 33 = .ok (.istore_n 2, 1) := by decide +kernel
theorem dX5_scan_34 : decode cX5_scan 34 = .ok (.aload_n 0, 1) := by decide +kernel
theorem dX5_scan_35 : decode cX5_scan 35 = .ok (.getfield 40, 3) := by decide +kernel
theorem dX5_scan_38 : decode cX5_scan 38 = .ok (.aload_n 0, 1) := by decide +kernel
theorem dX5_scan_39 : decode cX5_scan 39 = .ok (.getfield 66, 3) := by decide +kernel
theorem dX5_scan_42 : decode cX5_scan 42 = .ok (.invokevirtual 142, 3) := by decide +kernel
theorem dX5_scan_45 : decode cX5_scan 45 = .ok (.iconst 0, 1) := by decide +kernel
theorem dX5_scan_46 : decode cX5_scan 46 = .ok (.istore_n 3, 1) := by decide +kernel
theorem dX5_scan_47 : decode cX5_scan 47 = .ok (.iload_n 3, 1) := by decide +kernel
theorem dX5_scan_48 : decode cX5_scan 48 = .ok (.iload_n 2, 1) := by decide +kernel
theorem dX5_scan_49 : decode cX5_scan 49 = .ok (.if_icmp .ge 23, 3) := by decide +kernel
theorem dX5_scan_52 : decode cX5_scan 52 = .ok (.aload_n 0, 1) := by decide +kernel
theorem dX5_scan_53 : decode cX5_scan 53 = .ok (.getfield 40, 3) := by decide +kernel
theorem dX5_scan_56 : decode cX5_scan 56 = .ok (.iload_n 3, 1) := by decide +kernel
theorem dX5_scan_57 : decode cX5_scan 57 = .ok (.aload_n 0, 1) := by decide +kernel
theorem dX5_scan_58 : decode cX5_scan 58 = .ok (.iload_n 3, 1) := by decide +kernel
theorem dX5_scan_59 : decode cX5_scan 59 = .ok (.iload_n 1, 1) := by decide +kernel
theorem dX5_scan_60 : decode cX5_scan 60 = .ok (.invokevirtual 145, 3) := by decide +kernel
theorem dX5_scan_63 : decode cX5_scan 63 = .ok (.invokevirtual 148, 3) := by decide +kernel
theorem dX5_scan_66 : decode cX5_scan 66 = .ok (.iinc 3 1, 3) := by decide +kernel
theorem dX5_scan_69 : decode cX5_scan 69 = .ok (.goto (-22), 3) := by decide +kernel
theorem dX5_scan_72 : decode cX5_scan 72 = .ok (.iload_n 2, 1) := by decide +kernel
theorem dX5_scan_73 : decode cX5_scan 73 = .ok (.ireturn, 1) := by decide +kernel
theorem dX5_rule_0 : decode cX5_rule 0 = .ok (.iload_n 1, 1) := by decide +kernel
theorem dX5_rule_1 : decode cX5_rule 1 = .ok (.iconst 1, 1) := by decide +kernel
theorem dX5_rule_2 : decode cX5_rule 2 = .ok (.sipush 1000, 3) := by decide +kernel
theorem dX5_rule_5 : decode cX5_rule 5 = .ok (.invokestatic 83, 3) := by decide +kernel
theorem dX5_rule_8 : decode cX5_rule 8 = .ok (.aload_n 0, 1) := by decide +kernel
theorem dX5_rule_9 : decode cX5_rule 9 = .ok (.getfield 66, 3) := by decide +kernel
theorem dX5_rule_12 : decode cX5_rule 12 = .ok (.istore_n 2, 1) := by decide +kernel
theorem dX5_rule_13 : decode cX5_rule 13 = .ok (.aload_n 0, 1) := by decide +kernel
theorem dX5_rule_14 : decode cX5_rule 14 = .ok (.iload_n 1, 1) := by decide +kernel
theorem dX5_rule_15 : decode cX5_rule 15 = .ok (.putfield 66, 3) := by decide +kernel
theorem dX5_rule_18 : decode cX5_rule 18 = .ok (.iload_n 2, 1) := by decide +kernel
theorem dX5_rule_19 : decode cX5_rule 19 = .ok (.ireturn, 1) := by decide +kernel
theorem dX5_count_0 : decode cX5_count 0 = .ok (.iload_n 1, 1) := by decide +kernel
theorem dX5_count_1 : decode cX5_count 1 = .ok (.invokestatic 76, 3) := by decide +kernel
theorem dX5_count_4 : decode cX5_count 4 = .ok (.iload_n 2, 1) := by decide +kernel
theorem dX5_count_5 : decode cX5_count 5 = .ok (.invokestatic 80, 3) := by decide +kernel
theorem dX5_count_8 : decode cX5_count 8 = .ok (.iload_n 3, 1) := by decide +kernel
theorem dX5_count_9 : decode cX5_count 9 = .ok (.iconst 1, 1) := by decide +kernel
theorem dX5_count_10 : decode cX5_count 10 = .ok (.iconst 3, 1) := by decide +kernel
theorem dX5_count_11 : decode cX5_count 11 = .ok (.invokestatic 83, 3) := by decide +kernel
theorem dX5_count_14 : decode cX5_count 14 = .ok (.aload_n 0, 1) := by decide +kernel
theorem dX5_count_15 : decode cX5_count 15 = .ok (.getfield 12, 3) := by decide +kernel
theorem dX5_count_18 : decode cX5_count 18 = .ok (.iload_n 1, 1) := by decide +kernel
theorem dX5_count_19 : decode cX5_count 19 = .ok (.iload_n 2, 1) := by decide +kernel
theorem dX5_count_20 : decode cX5_count 20 = .ok (.iload_n 3, 1) := by decide +kernel
theorem dX5_count_21 : decode cX5_count 21 = .ok (.invokevirtual 109, 3) := by decide +kernel
theorem dX5_count_24 : decode cX5_count 24 = .ok (.ireturn, 1) := by decide +kernel
theorem dX5_phase_0 : decode cX5_phase 0 = .ok (.iload_n 1, 1) := by decide +kernel
theorem dX5_phase_1 : decode cX5_phase 1 = .ok (.invokestatic 80, 3) := by decide +kernel
theorem dX5_phase_4 : decode cX5_phase 4 = .ok (.iload_n 1, 1) := by decide +kernel
theorem dX5_phase_5 : decode cX5_phase 5 = .ok (.aload_n 0, 1) := by decide +kernel
theorem dX5_phase_6 : decode cX5_phase 6 = .ok (.getfield 52, 3) := by decide +kernel
theorem dX5_phase_9 : decode cX5_phase 9 = .ok (.invokestatic 152, 3) := by decide +kernel
theorem dX5_phase_12 : decode cX5_phase 12 = .ok (.ireturn, 1) := by decide +kernel
theorem dX5_echo_0 : decode cX5_echo 0 = .ok (.iload_n 1, 1) := by decide +kernel
theorem dX5_echo_1 : decode cX5_echo 1 = .ok (.invokestatic 76, 3) := by decide +kernel
theorem dX5_echo_4 : decode cX5_echo 4 = .ok (.iload_n 2, 1) := by decide +kernel
theorem dX5_echo_5 : decode cX5_echo 5 = .ok (.iconst 0, 1) := by decide +kernel
theorem dX5_echo_6 : decode cX5_echo 6 = .ok (.iconst 3, 1) := by decide +kernel
theorem dX5_echo_7 : decode cX5_echo 7 = .ok (.invokestatic 83, 3) := by decide +kernel
theorem dX5_echo_10 : decode cX5_echo 10 = .ok (.iload_n 1, 1) := by decide +kernel
theorem dX5_echo_11 : decode cX5_echo 11 = .ok (.aload_n 0, 1) := by decide +kernel
theorem dX5_echo_12 : decode cX5_echo 12 = .ok (.iload_n 2, 1) := by decide +kernel
theorem dX5_echo_13 : decode cX5_echo 13 = .ok (.invokevirtual 138, 3) := by decide +kernel
theorem dX5_echo_16 : decode cX5_echo 16 = .ok (.if_icmp .ge 12, 3) := by decide +kernel
theorem dX5_echo_19 : decode cX5_echo 19 = .ok (.aload_n 0, 1) := by decide +kernel
theorem dX5_echo_20 : decode cX5_echo 20 = .ok (.iload_n 1, 1) := by decide +kernel
theorem dX5_echo_21 : decode cX5_echo 21 = .ok (.iload_n 2, 1) := by decide +kernel
theorem dX5_echo_22 : decode cX5_echo 22 = .ok (.invokevirtual 145, 3) := by decide +kernel
theorem dX5_echo_25 : decode cX5_echo 25 = .ok (.goto 6, 3) := by decide +kernel
theorem dX5_echo_28 : decode cX5_echo 28 = .ok (.ldc2_w 156, 3) := by decide +kernel
theorem dX5_echo_31 : decode cX5_echo 31 = .ok (.lreturn, 1) := by decide +kernel
theorem dX5_seen_0 : decode cX5_seen 0 = .ok (.iload_n 1, 1) := by decide +kernel
theorem dX5_seen_1 : decode cX5_seen 1 = .ok (.invokestatic 76, 3) := by decide +kernel
theorem dX5_seen_4 : decode cX5_seen 4 = .ok (.iload_n 2, 1) := by decide +kernel
theorem dX5_seen_5 : decode cX5_seen 5 = .ok (.iconst 0, 1) := by decide +kernel
theorem dX5_seen_6 : decode cX5_seen 6 = .ok (.iconst 3, 1) := by decide +kernel
theorem dX5_seen_7 : decode cX5_seen 7 = .ok (.invokestatic 83, 3) := by decide +kernel
theorem dX5_seen_10 : decode cX5_seen 10 = .ok (.iload_n 1, 1) := by decide +kernel
theorem dX5_seen_11 : decode cX5_seen 11 = .ok (.aload_n 0, 1) := by decide +kernel
theorem dX5_seen_12 : decode cX5_seen 12 = .ok (.iload_n 2, 1) := by decide +kernel
theorem dX5_seen_13 : decode cX5_seen 13 = .ok (.invokevirtual 138, 3) := by decide +kernel
theorem dX5_seen_16 : decode cX5_seen 16 = .ok (.if_icmp .ge 15, 3) := by decide +kernel
theorem dX5_seen_19 : decode cX5_seen 19 = .ok (.aload_n 0, 1) := by decide +kernel
theorem dX5_seen_20 : decode cX5_seen 20 = .ok (.iload_n 1, 1) := by decide +kernel
theorem dX5_seen_21 : decode cX5_seen 21 = .ok (.iload_n 2, 1) := by decide +kernel
theorem dX5_seen_22 : decode cX5_seen 22 = .ok (.invokevirtual 158, 3) := by decide +kernel
theorem dX5_seen_25 : decode cX5_seen 25 = .ok (.invokestatic 162, 3) := by decide +kernel
theorem dX5_seen_28 : decode cX5_seen 28 = .ok (.goto 6, 3) := by decide +kernel
theorem dX5_seen_31 : decode cX5_seen 31 = .ok (.ldc2_w 156, 3) := by decide +kernel
theorem dX5_seen_34 : decode cX5_seen 34 = .ok (.lreturn, 1) := by decide +kernel
theorem dX5_rain_0 : decode cX5_rain 0 = .ok (.iload_n 1, 1) := by decide +kernel
theorem dX5_rain_1 : decode cX5_rain 1 = .ok (.invokestatic 76, 3) := by decide +kernel
theorem dX5_rain_4 : decode cX5_rain 4 = .ok (.lconst 0, 1) := by decide +kernel
theorem dX5_rain_5 : decode cX5_rain 5 = .ok (.lstore_n 2, 1) := by decide +kernel
theorem dX5_rain_6 : decode cX5_rain 6 = .ok (.iconst 0, 1) := by decide +kernel
theorem dX5_rain_7 : decode cX5_rain 7 = .ok (.istore 4, 2) := by decide +kernel
theorem dX5_rain_9 : decode cX5_rain 9 = .ok (.iload 4, 2) := by decide +kernel
theorem dX5_rain_11 : decode cX5_rain 11 = .ok (.aload_n 0, 1) := by decide +kernel
theorem dX5_rain_12 : decode cX5_rain 12 = .ok (.getfield 40, 3) := by decide +kernel
theorem dX5_rain_15 : decode cX5_rain 15 = .ok (.getfield 135, 3) := by decide +kernel
theorem dX5_rain_18 : decode cX5_rain 18 = .ok (.if_icmp .ge 34, 3) := by decide +kernel
theorem dX5_rain_21 : decode cX5_rain 21 = .ok (.lload_n 2, 1) := by decide +kernel
theorem dX5_rain_22 : decode cX5_rain 22 = .ok (.aload_n 0, 1) := by decide +kernel
theorem dX5_rain_23 : decode cX5_rain 23 = .ok (.getfield 40, 3) := by decide +kernel
theorem dX5_rain_26 : decode cX5_rain 26 = .ok (.iload 4, 2) := by decide +kernel
theorem dX5_rain_28 : decode cX5_rain 28 = .ok (.iload_n 1, 1) := by decide +kernel
theorem dX5_rain_29 : decode cX5_rain 29 = .ok (.invokevirtual 166, 3) := by decide +kernel
theorem dX5_rain_32 : decode cX5_rain 32 = .ok (.aload_n 0, 1) := by decide +kernel
theorem dX5_rain_33 : decode cX5_rain 33 = .ok (.getfield 40, 3) := by decide +kernel
theorem dX5_rain_36 : decode cX5_rain 36 = .ok (.iload 4, 2) := by decide +kernel
theorem dX5_rain_38 : decode cX5_rain 38 = .ok (.invokevirtual 169, 3) := by decide +kernel
theorem dX5_rain_41 : decode cX5_rain 41 = .ok (.invokestatic 172, 3) := by decide +kernel
theorem dX5_rain_44 : decode cX5_rain 44 = .ok (.ladd, 1) := by decide +kernel
theorem dX5_rain_45 : decode cX5_rain 45 = .ok (.lstore_n 2, 1) := by decide +kernel
theorem dX5_rain_46 : decode cX5_rain 46 = .ok (.iinc 4 1, 3) := by decide +kernel
theorem dX5_rain_49 : decode cX5_rain 49 = .ok (.goto (-40), 3) := by decide +kernel
theorem dX5_rain_52 : decode cX5_rain 52 = .ok (.lload_n 2, 1) := by decide +kernel
theorem dX5_rain_53 : decode cX5_rain 53 = .ok (.lreturn, 1) := by decide +kernel
theorem dX5_rainBy_0 : decode cX5_rainBy 0 = .ok (.iload_n 1, 1) := by decide +kernel
theorem dX5_rainBy_1 : decode cX5_rainBy 1 = .ok (.invokestatic 76, 3) := by decide +kernel
theorem dX5_rainBy_4 : decode cX5_rainBy 4 = .ok (.iload_n 2, 1) := by decide +kernel
theorem dX5_rainBy_5 : decode cX5_rainBy 5 = .ok (.iconst 1, 1) := by decide +kernel
theorem dX5_rainBy_6 : decode cX5_rainBy 6 = .ok (.sipush 1000, 3) := by decide +kernel
theorem dX5_rainBy_9 : decode cX5_rainBy 9 = .ok (.invokestatic 83, 3) := by decide +kernel
theorem dX5_rainBy_12 : decode cX5_rainBy 12 = .ok (.lconst 0, 1) := by decide +kernel
theorem dX5_rainBy_13 : decode cX5_rainBy 13 = .ok (.lstore_n 3, 1) := by decide +kernel
theorem dX5_rainBy_14 : decode cX5_rainBy 14 = .ok (.iconst 0, 1) := by decide +kernel
theorem dX5_rainBy_15 : decode cX5_rainBy 15 = .ok (.istore 5, 2) := by decide +kernel
theorem dX5_rainBy_17 : decode cX5_rainBy 17 = .ok (.iload 5, 2) := by decide +kernel
theorem dX5_rainBy_19 : decode cX5_rainBy 19 = .ok (.aload_n 0, 1) := by decide +kernel
theorem dX5_rainBy_20 : decode cX5_rainBy 20 = .ok (.getfield 40, 3) := by decide +kernel
theorem dX5_rainBy_23 : decode cX5_rainBy 23 = .ok (.getfield 135, 3) := by decide +kernel
theorem dX5_rainBy_26 : decode cX5_rainBy 26 = .ok (.if_icmp .ge 26, 3) := by decide +kernel
theorem dX5_rainBy_29 : decode cX5_rainBy 29 = .ok (.lload_n 3, 1) := by decide +kernel
theorem dX5_rainBy_30 : decode cX5_rainBy 30 = .ok (.aload_n 0, 1) := by decide +kernel
theorem dX5_rainBy_31 : decode cX5_rainBy 31 = .ok (.getfield 40, 3) := by decide +kernel
theorem dX5_rainBy_34 : decode cX5_rainBy 34 = .ok (.iload 5, 2) := by decide +kernel
theorem dX5_rainBy_36 : decode cX5_rainBy 36 = .ok (.iload_n 1, 1) := by decide +kernel
theorem dX5_rainBy_37 : decode cX5_rainBy 37 = .ok (.invokevirtual 166, 3) := by decide +kernel
theorem dX5_rainBy_40 : decode cX5_rainBy 40 = .ok (.iload_n 2, 1) := by decide +kernel
theorem dX5_rainBy_41 : decode cX5_rainBy 41 = .ok (.invokestatic 172, 3) := by decide +kernel
theorem dX5_rainBy_44 : decode cX5_rainBy 44 = .ok (.ladd, 1) := by decide +kernel
theorem dX5_rainBy_45 : decode cX5_rainBy 45 = .ok (.lstore_n 3, 1) := by decide +kernel
theorem dX5_rainBy_46 : decode cX5_rainBy 46 = .ok (.iinc 5 1, 3) := by decide +kernel
theorem dX5_rainBy_49 : decode cX5_rainBy 49 = .ok (.goto (-32), 3) := by decide +kernel
theorem dX5_rainBy_52 : decode cX5_rainBy 52 = .ok (.lload_n 3, 1) := by decide +kernel
theorem dX5_rainBy_53 : decode cX5_rainBy 53 = .ok (.lreturn, 1) := by decide +kernel
theorem dX5_motion_0 : decode cX5_motion 0 = .ok (.aload_n 0, 1) := by decide +kernel
theorem dX5_motion_1 : decode cX5_motion 1 = .ok (.getfield 40, 3) := by decide +kernel
theorem dX5_motion_4 : decode cX5_motion 4 = .ok (.getfield 135, 3) := by decide +kernel
theorem dX5_motion_7 : decode cX5_motion 7 = .ok (.iconst 2, 1) := by decide +kernel
theorem dX5_motion_8 : decode cX5_motion 8 = .ok (.if_icmp .ge 13, 3) := by decide +kernel
theorem dX5_motion_11 : decode cX5_motion 11 = .ok (.new 90, 3) := by decide +kernel
theorem dX5_motion_14 : decode cX5_motion 14 = .ok (.dup, 1) := by decide +kernel
theorem dX5_motion_15 : decode cX5_motion 15 = .ok (.ldc 176, 2) := by decide +kernel
theorem dX5_motion_17 : decode cX5_motion 17 = .ok (.invokespecial 94, 3) := by decide +kernel
theorem dX5_motion_20 : decode cX5_motion 20 = .ok (.athrow, 1) := by decide +kernel
theorem dX5_motion_21 : decode cX5_motion 21 = .ok (.iconst 0, 1) := by decide +kernel
theorem dX5_motion_22 : decode cX5_motion 22 = .ok (.istore_n 1, 1) := by decide +kernel
theorem dX5_motion_23 : decode cX5_motion 23 = .ok (.aload_n 0, 1) := by decide +kernel
theorem dX5_motion_24 : decode cX5_motion 24 = .ok (.getfield 40, 3) := by decide +kernel
theorem dX5_motion_27 : decode cX5_motion 27 = .ok (.iconst 0, 1) := by decide +kernel
theorem dX5_motion_28 : decode cX5_motion 28 = .ok (.invokevirtual 178, 3) := by decide +kernel
theorem dX5_motion_31 : decode cX5_motion 31 = .ok (.lstore_n 2, 1) := by decide +kernel
theorem dX5_motion_32 : decode cX5_motion 32 = .ok (.iconst 1, 1) := by decide +kernel
theorem dX5_motion_33 : decode cX5_motion 33 = .ok (.istore 4, 2) := by decide +kernel
theorem dX5_motion_35 : decode cX5_motion 35 = .ok (.iload 4, 2) := by decide +kernel
theorem dX5_motion_37 : decode cX5_motion 37 = .ok (.iconst 3, 1) := by decide +kernel
theorem dX5_motion_38 : decode cX5_motion 38 = .ok (.if_icmp .gt 59, 3) := by decide +kernel
theorem dX5_motion_41 : decode cX5_motion 41 = .ok (.aload_n 0, 1) := by decide +kernel
theorem dX5_motion_42 : decode cX5_motion 42 = .ok (.getfield 40, 3) := by decide +kernel
theorem dX5_motion_45 : decode cX5_motion 45 = .ok (.iload 4, 2) := by decide +kernel
theorem dX5_motion_47 : decode cX5_motion 47 = .ok (.ineg, 1) := by decide +kernel
theorem dX5_motion_48 : decode cX5_motion 48 = .ok (.invokevirtual 178, 3) := by decide +kernel
theorem dX5_motion_51 : decode cX5_motion 51 = .ok (.lstore 5, 2) := by decide +kernel
theorem dX5_motion_53 : decode cX5_motion 53 = .ok (.lload 5, 2) := by decide +kernel
theorem dX5_motion_55 : decode cX5_motion 55 = .ok (.lload_n 2, 1) := by decide +kernel
theorem dX5_motion_56 : decode cX5_motion 56 = .ok (.lcmp, 1) := by decide +kernel
theorem dX5_motion_57 : decode cX5_motion 57 = .ok (.ifCond .ge 10, 3) := by decide +kernel
theorem dX5_motion_60 : decode cX5_motion 60 = .ok (.lload 5, 2) := by decide +kernel
theorem dX5_motion_62 : decode cX5_motion 62 = .ok (.lstore_n 2, 1) := by decide +kernel
theorem dX5_motion_63 : decode cX5_motion 63 = .ok (.iload 4, 2) := by decide +kernel
theorem dX5_motion_65 : decode cX5_motion 65 = .ok (.ineg, 1) := by decide +kernel
theorem dX5_motion_66 : decode cX5_motion 66 = .ok (.istore_n 1, 1) := by decide +kernel
theorem dX5_motion_67 : decode cX5_motion 67 = .ok (.aload_n 0, 1) := by decide +kernel
theorem dX5_motion_68 : decode cX5_motion 68 = .ok (.getfield 40, 3) := by decide +kernel
theorem dX5_motion_71 : decode cX5_motion 71 = .ok (.iload 4, 2) := by decide +kernel
theorem dX5_motion_73 : decode cX5_motion 73 = .ok (.invokevirtual 178, 3) := by decide +kernel
theorem dX5_motion_76 : decode cX5_motion 76 = .ok (.lstore 7, 2) := by decide +kernel
theorem dX5_motion_78 : decode cX5_motion 78 = .ok (.lload 7, 2) := by decide +kernel
theorem dX5_motion_80 : decode cX5_motion 80 = .ok (.lload_n 2, 1) := by decide +kernel
theorem dX5_motion_81 : decode cX5_motion 81 = .ok (.lcmp, 1) := by decide +kernel
theorem dX5_motion_82 : decode cX5_motion 82 = .ok (.ifCond .ge 9, 3) := by decide +kernel
theorem dX5_motion_85 : decode cX5_motion 85 = .ok (.lload 7, 2) := by decide +kernel
theorem dX5_motion_87 : decode cX5_motion 87 = .ok (.lstore_n 2, 1) := by decide +kernel
theorem dX5_motion_88 : decode cX5_motion 88 = .ok (.iload 4, 2) := by decide +kernel
theorem dX5_motion_90 : decode cX5_motion 90 = .ok (.istore_n 1, 1) := by decide +kernel
theorem dX5_motion_91 : decode cX5_motion 91 = .ok (.iinc 4 1, 3) := by decide +kernel
theorem dX5_motion_94 : decode cX5_motion 94 = .ok (.goto (-59), 3) := by decide +kernel
theorem dX5_motion_97 : decode cX5_motion 97 = .ok (.iload_n 1, 1) := by decide +kernel
theorem dX5_motion_98 : decode cX5_motion 98 = .ok (.ireturn, 1) := by decide +kernel
theorem dX5_collected_0 : decode cX5_collected 0 = .ok (.iload_n 1, 1) := by decide +kernel
theorem dX5_collected_1 : decode cX5_collected 1 = .ok (.invokestatic 76, 3) := by decide +kernel
theorem dX5_collected_4 : decode cX5_collected 4 = .ok (.aload_n 0, 1) := by decide +kernel
theorem dX5_collected_5 : decode cX5_collected 5 = .ok (.iload_n 1, 1) := by decide +kernel
theorem dX5_collected_6 : decode cX5_collected 6 = .ok (.invokevirtual 121, 3) := by decide +kernel
theorem dX5_collected_9 : decode cX5_collected 9 = .ok (.aload_n 0, 1) := by decide +kernel
theorem dX5_collected_10 : decode cX5_collected 10 = .ok (.getfield 33, 3) := by decide +kernel
theorem dX5_collected_13 : decode cX5_collected 13 = .ok (.iload_n 1, 1) := by decide +kernel
theorem dX5_collected_14 : decode cX5_collected 14 = .ok (.invokevirtual 182, 3) := by decide +kernel
theorem dX5_collected_17 : decode cX5_collected 17 = .ok (.lreturn, 1) := by decide +kernel
theorem dX5_ground_0 : decode cX5_ground 0 = .ok (.iload_n 1, 1) := by decide +kernel
theorem dX5_ground_1 : decode cX5_ground 1 = .ok (.invokestatic 76, 3) := by decide +kernel
theorem dX5_ground_4 : decode cX5_ground 4 = .ok (.aload_n 0, 1) := by decide +kernel
theorem dX5_ground_5 : decode cX5_ground 5 = .ok (.getfield 48, 3) := by decide +kernel
theorem dX5_ground_8 : decode cX5_ground 8 = .ok (.iload_n 1, 1) := by decide +kernel
theorem dX5_ground_9 : decode cX5_ground 9 = .ok (.laload, 1) := by decide +kernel
theorem dX5_ground_10 : decode cX5_ground 10 = .ok (.lreturn, 1) := by decide +kernel
theorem dX5_groundAnew_0 : decode cX5_groundAnew 0 = .ok (.iload_n 1, 1) := by decide +kernel
theorem dX5_groundAnew_1 : decode cX5_groundAnew 1 = .ok (.invokestatic 76, 3) := by decide +kernel
theorem dX5_groundAnew_4 : decode cX5_groundAnew 4 = .ok (.lconst 0, 1) := by decide +kernel
theorem dX5_groundAnew_5 : decode cX5_groundAnew 5 = .ok (.lstore_n 2, 1) := by decide +kernel
theorem dX5_groundAnew_6 : decode cX5_groundAnew 6 = .ok (.iconst 0, 1) := by decide +kernel
theorem dX5_groundAnew_7 : decode cX5_groundAnew 7 = .ok (.istore 4, 2) := by decide +kernel
theorem dX5_groundAnew_9 : decode cX5_groundAnew 9 = .ok (.iload 4, 2) := by decide +kernel
theorem dX5_groundAnew_11 : decode cX5_groundAnew 11 = .ok (.aload_n 0, 1) := by decide +kernel
theorem dX5_groundAnew_12 : decode cX5_groundAnew 12 = .ok (.getfield 19, 3) := by decide +kernel
theorem dX5_groundAnew_15 : decode cX5_groundAnew 15 = .ok (.getfield 87, 3) := by decide +kernel
theorem dX5_groundAnew_18 : decode cX5_groundAnew 18 = .ok (.if_icmp .ge 31, 3) := by decide +kernel
theorem dX5_groundAnew_21 : decode cX5_groundAnew 21 = .ok (.aload_n 0, 1) := by decide +kernel
theorem dX5_groundAnew_22 : decode cX5_groundAnew 22 = .ok (.iload 4, 2) := by decide +kernel
theorem dX5_groundAnew_24 : decode cX5_groundAnew 24 = .ok (.invokevirtual 185, 3) := by decide +kernel
theorem dX5_groundAnew_27 : decode cX5_groundAnew 27 = .ok (.iload_n 1, 1) := by decide +kernel
theorem dX5_groundAnew_28 : decode cX5_groundAnew 28 = .ok (.if_icmp .ne 15, 3) := by decide +kernel
theorem dX5_groundAnew_31 : decode cX5_groundAnew 31 = .ok (.lload_n 2, 1) := by decide +kernel
theorem dX5_groundAnew_32 : decode cX5_groundAnew 32 = .ok (.aload_n 0, 1) := by decide +kernel
theorem dX5_groundAnew_33 : decode cX5_groundAnew 33 = .ok (.getfield 19, 3) := by decide +kernel
theorem dX5_groundAnew_36 : decode cX5_groundAnew 36 = .ok (.iload 4, 2) := by decide +kernel
theorem dX5_groundAnew_38 : decode cX5_groundAnew 38 = .ok (.invokevirtual 188, 3) := by decide +kernel
theorem dX5_groundAnew_41 : decode cX5_groundAnew 41 = .ok (.ladd, 1) := by decide +kernel
theorem dX5_groundAnew_42 : decode cX5_groundAnew 42 = .ok (.lstore_n 2, 1) := by decide +kernel
theorem dX5_groundAnew_43 : decode cX5_groundAnew 43 = .ok (.iinc 4 1, 3) := by decide +kernel
theorem dX5_groundAnew_46 : decode cX5_groundAnew 46 = .ok (.goto (-37), 3) := by decide +kernel
theorem dX5_groundAnew_49 : decode cX5_groundAnew 49 = .ok (.lload_n 2, 1) := by decide +kernel
theorem dX5_groundAnew_50 : decode cX5_groundAnew 50 = .ok (.lreturn, 1) := by decide +kernel
theorem dX5_water_0 : decode cX5_water 0 = .ok (.iload_n 1, 1) := by decide +kernel
theorem dX5_water_1 : decode cX5_water 1 = .ok (.iconst 0, 1) := by decide +kernel
theorem dX5_water_2 : decode cX5_water 2 = .ok (.iconst 3, 1) := by decide +kernel
theorem dX5_water_3 : decode cX5_water 3 = .ok (.invokestatic 83, 3) := by decide +kernel
theorem dX5_water_6 : decode cX5_water 6 = .ok (.iload_n 1, 1) := by decide +kernel
theorem dX5_water_7 : decode cX5_water 7 = .ok (.tableswitch 43 0 2 #[25, 30, 38], 25) := by decide +kernel
theorem dX5_water_32 : decode cX5_water 32 = .ok (.aload_n 0, 1) := by decide +kernel
theorem dX5_water_33 : decode cX5_water 33 = .ok (.getfield 69, 3) := by decide +kernel
theorem dX5_water_36 : decode cX5_water 36 = .ok (.lreturn, 1) := by decide +kernel
theorem dX5_water_37 : decode cX5_water 37 = .ok (.aload_n 0, 1) := by decide +kernel
theorem dX5_water_38 : decode cX5_water 38 = .ok (.getfield 12, 3) := by decide +kernel
theorem dX5_water_41 : decode cX5_water 41 = .ok (.invokevirtual 191, 3) := by decide +kernel
theorem dX5_water_44 : decode cX5_water 44 = .ok (.lreturn, 1) := by decide +kernel
theorem dX5_water_45 : decode cX5_water 45 = .ok (.aload_n 0, 1) := by decide +kernel
theorem dX5_water_46 : decode cX5_water 46 = .ok (.invokevirtual 195, 3) := by decide +kernel
theorem dX5_water_49 : decode cX5_water 49 = .ok (.lreturn, 1) := by decide +kernel
theorem dX5_water_50 : decode cX5_water 50 = .ok (.aload_n 0, 1) := by decide +kernel
theorem dX5_water_51 : decode cX5_water 51 = .ok (.getfield 73, 3) := by decide +kernel
theorem dX5_water_54 : decode cX5_water 54 = .ok (.lreturn, 1) := by decide +kernel
theorem dX5_requireKilometre_0 : decode cX5_requireKilometre 0 = .ok (.iload_n 0, 1) := by decide +kernel
theorem dX5_requireKilometre_1 : decode cX5_requireKilometre 1 = .ok (.ifCond .lt 9, 3) := by decide +kernel
theorem dX5_requireKilometre_4 : decode cX5_requireKilometre 4 = .ok (.iload_n 0, 1) := by decide +kernel
theorem dX5_requireKilometre_5 : decode cX5_requireKilometre 5 = .ok (.bipush 20, 2) := by decide +kernel
theorem dX5_requireKilometre_7 : decode cX5_requireKilometre 7 = .ok (.if_icmp .lt 13, 3) := by decide +kernel
theorem dX5_requireKilometre_10 : decode cX5_requireKilometre 10 = .ok (.new 198, 3) := by decide +kernel
theorem dX5_requireKilometre_13 : decode cX5_requireKilometre 13 = .ok (.dup, 1) := by decide +kernel
theorem dX5_requireKilometre_14 : decode cX5_requireKilometre 14 = .ok (.ldc 200, 2) := by decide +kernel
theorem dX5_requireKilometre_16 : decode cX5_requireKilometre 16 = .ok (.invokespecial 202, 3) := by decide +kernel
theorem dX5_requireKilometre_19 : decode cX5_requireKilometre 19 = .ok (.athrow, 1) := by decide +kernel
theorem dX5_requireKilometre_20 : decode cX5_requireKilometre 20 = .ok (.return_, 1) := by decide +kernel
theorem dX5_requireLayer_0 : decode cX5_requireLayer 0 = .ok (.iload_n 0, 1) := by decide +kernel
theorem dX5_requireLayer_1 : decode cX5_requireLayer 1 = .ok (.ifCond .lt 9, 3) := by decide +kernel
theorem dX5_requireLayer_4 : decode cX5_requireLayer 4 = .ok (.iload_n 0, 1) := by decide +kernel
theorem dX5_requireLayer_5 : decode cX5_requireLayer 5 = .ok (.bipush 10, 2) := by decide +kernel
theorem dX5_requireLayer_7 : decode cX5_requireLayer 7 = .ok (.if_icmp .lt 13, 3) := by decide +kernel
theorem dX5_requireLayer_10 : decode cX5_requireLayer 10 = .ok (.new 198, 3) := by decide +kernel
theorem dX5_requireLayer_13 : decode cX5_requireLayer 13 = .ok (.dup, 1) := by decide +kernel
theorem dX5_requireLayer_14 : decode cX5_requireLayer 14 = .ok (.ldc 203, 2) := by decide +kernel
theorem dX5_requireLayer_16 : decode cX5_requireLayer 16 = .ok (.invokespecial 202, 3) := by decide +kernel
theorem dX5_requireLayer_19 : decode cX5_requireLayer 19 = .ok (.athrow, 1) := by decide +kernel
theorem dX5_requireLayer_20 : decode cX5_requireLayer 20 = .ok (.return_, 1) := by decide +kernel
theorem dX5_requireGauge_0 : decode cX5_requireGauge 0 = .ok (.aload_n 0, 1) := by decide +kernel
theorem dX5_requireGauge_1 : decode cX5_requireGauge 1 = .ok (.getfield 33, 3) := by decide +kernel
theorem dX5_requireGauge_4 : decode cX5_requireGauge 4 = .ok (.iload_n 1, 1) := by decide +kernel
theorem dX5_requireGauge_5 : decode cX5_requireGauge 5 = .ok (.invokevirtual 113, 3) := by decide +kernel
theorem dX5_requireGauge_8 : decode cX5_requireGauge 8 = .ok (.ifCond .ne 13, 3) := by decide +kernel
theorem dX5_requireGauge_11 : decode cX5_requireGauge 11 = .ok (.new 198, 3) := by decide +kernel
theorem dX5_requireGauge_14 : decode cX5_requireGauge 14 = .ok (.dup, 1) := by decide +kernel
theorem dX5_requireGauge_15 : decode cX5_requireGauge 15 = .ok (.ldc 205, 2) := by decide +kernel
theorem dX5_requireGauge_17 : decode cX5_requireGauge 17 = .ok (.invokespecial 202, 3) := by decide +kernel
theorem dX5_requireGauge_20 : decode cX5_requireGauge 20 = .ok (.athrow, 1) := by decide +kernel
theorem dX5_requireGauge_21 : decode cX5_requireGauge 21 = .ok (.return_, 1) := by decide +kernel
theorem dX5_requireRange_0 : decode cX5_requireRange 0 = .ok (.iload_n 0, 1) := by decide +kernel
theorem dX5_requireRange_1 : decode cX5_requireRange 1 = .ok (.iload_n 1, 1) := by decide +kernel
theorem dX5_requireRange_2 : decode cX5_requireRange 2 = .ok (.if_icmp .lt 8, 3) := by decide +kernel
theorem dX5_requireRange_5 : decode cX5_requireRange 5 = .ok (.iload_n 0, 1) := by decide +kernel
theorem dX5_requireRange_6 : decode cX5_requireRange 6 = .ok (.iload_n 2, 1) := by decide +kernel
theorem dX5_requireRange_7 : decode cX5_requireRange 7 = .ok (.if_icmp .le 13, 3) := by decide +kernel
theorem dX5_requireRange_10 : decode cX5_requireRange 10 = .ok (.new 207, 3) := by decide +kernel
theorem dX5_requireRange_13 : decode cX5_requireRange 13 = .ok (.dup, 1) := by decide +kernel
theorem dX5_requireRange_14 : decode cX5_requireRange 14 = .ok (.ldc 209, 2) := by decide +kernel
theorem dX5_requireRange_16 : decode cX5_requireRange 16 = .ok (.invokespecial 211, 3) := by decide +kernel
theorem dX5_requireRange_19 : decode cX5_requireRange 19 = .ok (.athrow, 1) := by decide +kernel
theorem dX5_requireRange_20 : decode cX5_requireRange 20 = .ok (.return_, 1) := by decide +kernel
theorem dX5_phaseIn_0 : decode cX5_phaseIn 0 = .ok (.iload_n 0, 1) := by decide +kernel
theorem dX5_phaseIn_1 : decode cX5_phaseIn 1 = .ok (.iload_n 1, 1) := by decide +kernel
theorem dX5_phaseIn_2 : decode cX5_phaseIn 2 = .ok (.if_icmp .le 5, 3) := by decide +kernel
theorem dX5_phaseIn_5 : decode cX5_phaseIn 5 = .ok (.iconst 0, 1) := by decide +kernel
theorem dX5_phaseIn_6 : decode cX5_phaseIn 6 = .ok (.ireturn, 1) := by decide +kernel
theorem dX5_phaseIn_7 : decode cX5_phaseIn 7 = .ok (.iload_n 0, 1) := by decide +kernel
theorem dX5_phaseIn_8 : decode cX5_phaseIn 8 = .ok (.iload_n 1, 1) := by decide +kernel
theorem dX5_phaseIn_9 : decode cX5_phaseIn 9 = .ok (.if_icmp .ne 7, 3) := by decide +kernel
theorem dX5_phaseIn_12 : decode cX5_phaseIn 12 = .ok (.iconst 1, 1) := by decide +kernel
theorem dX5_phaseIn_13 : decode cX5_phaseIn 13 = .ok (.goto 4, 3) := by decide +kernel
theorem dX5_phaseIn_16 : decode cX5_phaseIn 16 = .ok (.iconst 2, 1) := by decide +kernel
theorem dX5_phaseIn_17 : decode cX5_phaseIn 17 = .ok (.ireturn, 1) := by decide +kernel
theorem dX5_fallOf_0 : decode cX5_fallOf 0 = .ok (.iload_n 0, 1) := by decide +kernel
theorem dX5_fallOf_1 : decode cX5_fallOf 1 = .ok (.iload_n 2, 1) := by decide +kernel
theorem dX5_fallOf_2 : decode cX5_fallOf 2 = .ok (.invokestatic 152, 3) := by decide +kernel
theorem dX5_fallOf_5 : decode cX5_fallOf 5 = .ok (.ifCond .ne 7, 3) := by decide +kernel
theorem dX5_fallOf_8 : decode cX5_fallOf 8 = .ok (.iconst 1, 1) := by decide +kernel
theorem dX5_fallOf_9 : decode cX5_fallOf 9 = .ok (.goto 4, 3) := by decide +kernel
theorem dX5_fallOf_12 : decode cX5_fallOf 12 = .ok (.iload_n 1, 1) := by decide +kernel
theorem dX5_fallOf_13 : decode cX5_fallOf 13 = .ok (.ireturn, 1) := by decide +kernel
theorem dX5_waterOf_0 : decode cX5_waterOf 0 = .ok (.iload_n 0, 1) := by decide +kernel
theorem dX5_waterOf_1 : decode cX5_waterOf 1 = .ok (.i2l, 1) := by decide +kernel
theorem dX5_waterOf_2 : decode cX5_waterOf 2 = .ok (.iload_n 0, 1) := by decide +kernel
theorem dX5_waterOf_3 : decode cX5_waterOf 3 = .ok (.i2l, 1) := by decide +kernel
theorem dX5_waterOf_4 : decode cX5_waterOf 4 = .ok (.lmul, 1) := by decide +kernel
theorem dX5_waterOf_5 : decode cX5_waterOf 5 = .ok (.iload_n 0, 1) := by decide +kernel
theorem dX5_waterOf_6 : decode cX5_waterOf 6 = .ok (.i2l, 1) := by decide +kernel
theorem dX5_waterOf_7 : decode cX5_waterOf 7 = .ok (.lmul, 1) := by decide +kernel
theorem dX5_waterOf_8 : decode cX5_waterOf 8 = .ok (.iload_n 1, 1) := by decide +kernel
theorem dX5_waterOf_9 : decode cX5_waterOf 9 = .ok (.i2l, 1) := by decide +kernel
theorem dX5_waterOf_10 : decode cX5_waterOf 10 = .ok (.lmul, 1) := by decide +kernel
theorem dX5_waterOf_11 : decode cX5_waterOf 11 = .ok (.lreturn, 1) := by decide +kernel
theorem dX5_waterOnGround_0 : decode cX5_waterOnGround 0 = .ok (.lconst 0, 1) := by decide +kernel
theorem dX5_waterOnGround_1 : decode cX5_waterOnGround 1 = .ok (.lstore_n 1, 1) := by decide +kernel
theorem dX5_waterOnGround_2 : decode cX5_waterOnGround 2 = .ok (.iconst 0, 1) := by decide +kernel
theorem dX5_waterOnGround_3 : decode cX5_waterOnGround 3 = .ok (.istore_n 3, 1) := by decide +kernel
theorem dX5_waterOnGround_4 : decode cX5_waterOnGround 4 = .ok (.iload_n 3, 1) := by decide +kernel
theorem dX5_waterOnGround_5 : decode cX5_waterOnGround 5 = .ok (.bipush 20, 2) := by decide +kernel
theorem dX5_waterOnGround_7 : decode cX5_waterOnGround 7 = .ok (.if_icmp .ge 18, 3) := by decide +kernel
theorem dX5_waterOnGround_10 : decode cX5_waterOnGround 10 = .ok (.lload_n 1, 1) := by decide +kernel
theorem dX5_waterOnGround_11 : decode cX5_waterOnGround 11 = .ok (.aload_n 0, 1) := by decide +kernel
theorem dX5_waterOnGround_12 : decode cX5_waterOnGround 12 = .ok (.getfield 48, 3) := by decide +kernel
theorem dX5_waterOnGround_15 : decode cX5_waterOnGround 15 = .ok (.iload_n 3, 1) := by decide +kernel
theorem dX5_waterOnGround_16 : decode cX5_waterOnGround 16 = .ok (.laload, 1) := by decide +kernel
theorem dX5_waterOnGround_17 : decode cX5_waterOnGround 17 = .ok (.ladd, 1) := by decide +kernel
theorem dX5_waterOnGround_18 : decode cX5_waterOnGround 18 = .ok (.lstore_n 1, 1) := by decide +kernel
theorem dX5_waterOnGround_19 : decode cX5_waterOnGround 19 = .ok (.iinc 3 1, 3) := by decide +kernel
theorem dX5_waterOnGround_22 : decode cX5_waterOnGround 22 = .ok (.goto (-18), 3) := by decide +kernel
theorem dX5_waterOnGround_25 : decode cX5_waterOnGround 25 = .ok (.lload_n 1, 1) := by decide +kernel
theorem dX5_waterOnGround_26 : decode cX5_waterOnGround 26 = .ok (.lreturn, 1) := by decide +kernel
theorem dX5_passOne_0 : decode cX5_passOne 0 = .ok (.aload_n 0, 1) := by decide +kernel
theorem dX5_passOne_1 : decode cX5_passOne 1 = .ok (.dup, 1) := by decide +kernel
theorem dX5_passOne_2 : decode cX5_passOne 2 = .ok (.getfield 63, 3) := by decide +kernel
theorem dX5_passOne_5 : decode cX5_passOne 5 = .ok (.iconst 1, 1) := by decide +kernel
theorem dX5_passOne_6 : decode cX5_passOne 6 = .ok (.iadd, 1) := by decide +kernel
theorem dX5_passOne_7 : decode cX5_passOne 7 = .ok (.putfield 63, 3) := by decide +kernel
theorem dX5_passOne_10 : decode cX5_passOne 10 = .ok (.aload_n 0, 1) := by decide +kernel
theorem dX5_passOne_11 : decode cX5_passOne 11 = .ok (.aload_n 0, 1) := by decide +kernel
theorem dX5_passOne_12 : decode cX5_passOne 12 = .ok (.getfield 63, 3) := by decide +kernel
theorem dX5_passOne_15 : decode cX5_passOne 15 = .ok (.invokevirtual 212, 3) := by decide +kernel
theorem dX5_passOne_18 : decode cX5_passOne 18 = .ok (.istore_n 1, 1) := by decide +kernel
theorem dX5_passOne_19 : decode cX5_passOne 19 = .ok (.aload_n 0, 1) := by decide +kernel
theorem dX5_passOne_20 : decode cX5_passOne 20 = .ok (.getfield 26, 3) := by decide +kernel
theorem dX5_passOne_23 : decode cX5_passOne 23 = .ok (.aload_n 0, 1) := by decide +kernel
theorem dX5_passOne_24 : decode cX5_passOne 24 = .ok (.getfield 63, 3) := by decide +kernel
theorem dX5_passOne_27 : decode cX5_passOne 27 = .ok (.aload_n 0, 1) := by decide +kernel
theorem dX5_passOne_28 : decode cX5_passOne 28 = .ok (.getfield 52, 3) := by decide +kernel
theorem dX5_passOne_31 : decode cX5_passOne 31 = .ok (.iload_n 1, 1) := by decide +kernel
theorem dX5_passOne_32 : decode cX5_passOne 32 = .ok (.invokevirtual 215, 3) := by decide +kernel
theorem dX5_passOne_35 : decode cX5_passOne 35 = .ok (.iconst 0, 1) := by decide +kernel
theorem dX5_passOne_36 : decode cX5_passOne 36 = .ok (.istore_n 2, 1) := by decide +kernel
theorem dX5_passOne_37 : decode cX5_passOne 37 = .ok (.iload_n 2, 1) := by decide +kernel
theorem dX5_passOne_38 : decode cX5_passOne 38 = .ok (.bipush 20, 2) := by decide +kernel
theorem dX5_passOne_40 : decode cX5_passOne 40 = .ok (.if_icmp .ge 41, 3) := by decide +kernel
theorem dX5_passOne_43 : decode cX5_passOne 43 = .ok (.aload_n 0, 1) := by decide +kernel
theorem dX5_passOne_44 : decode cX5_passOne 44 = .ok (.getfield 12, 3) := by decide +kernel
theorem dX5_passOne_47 : decode cX5_passOne 47 = .ok (.iload_n 2, 1) := by decide +kernel
theorem dX5_passOne_48 : decode cX5_passOne 48 = .ok (.aload_n 0, 1) := by decide +kernel
theorem dX5_passOne_49 : decode cX5_passOne 49 = .ok (.getfield 52, 3) := by decide +kernel
theorem dX5_passOne_52 : decode cX5_passOne 52 = .ok (.invokevirtual 217, 3) := by decide +kernel
theorem dX5_passOne_55 : decode cX5_passOne 55 = .ok (.lstore_n 3, 1) := by decide +kernel
theorem dX5_passOne_56 : decode cX5_passOne 56 = .ok (.aload_n 0, 1) := by decide +kernel
theorem dX5_passOne_57 : decode cX5_passOne 57 = .ok (.getfield 48, 3) := by decide +kernel
theorem dX5_passOne_60 : decode cX5_passOne 60 = .ok (.iload_n 2, 1) := by decide +kernel
theorem dX5_passOne_61 : decode cX5_passOne 61 = .ok (.dup2, 1) := by decide +kernel
theorem dX5_passOne_62 : decode cX5_passOne 62 = .ok (.laload, 1) := by decide +kernel
theorem dX5_passOne_63 : decode cX5_passOne 63 = .ok (.lload_n 3, 1) := by decide +kernel
theorem dX5_passOne_64 : decode cX5_passOne 64 = .ok (.ladd, 1) := by decide +kernel
theorem dX5_passOne_65 : decode cX5_passOne 65 = .ok (.lastore, 1) := by decide +kernel
theorem dX5_passOne_66 : decode cX5_passOne 66 = .ok (.aload_n 0, 1) := by decide +kernel
theorem dX5_passOne_67 : decode cX5_passOne 67 = .ok (.getfield 33, 3) := by decide +kernel
theorem dX5_passOne_70 : decode cX5_passOne 70 = .ok (.iload_n 2, 1) := by decide +kernel
theorem dX5_passOne_71 : decode cX5_passOne 71 = .ok (.lload_n 3, 1) := by decide +kernel
theorem dX5_passOne_72 : decode cX5_passOne 72 = .ok (.invokevirtual 220, 3) := by decide +kernel
theorem dX5_passOne_75 : decode cX5_passOne 75 = .ok (.iinc 2 1, 3) := by decide +kernel
theorem dX5_passOne_78 : decode cX5_passOne 78 = .ok (.goto (-41), 3) := by decide +kernel
theorem dX5_passOne_81 : decode cX5_passOne 81 = .ok (.iload_n 1, 1) := by decide +kernel
theorem dX5_passOne_82 : decode cX5_passOne 82 = .ok (.ifCond .eq 20, 3) := by decide +kernel
theorem dX5_passOne_85 : decode cX5_passOne 85 = .ok (.aload_n 0, 1) := by decide +kernel
theorem dX5_passOne_86 : decode cX5_passOne 86 = .ok (.dup, 1) := by decide +kernel
theorem dX5_passOne_87 : decode cX5_passOne 87 = .ok (.getfield 73, 3) := by decide +kernel
theorem dX5_passOne_90 : decode cX5_passOne 90 = .ok (.aload_n 0, 1) := by decide +kernel
theorem dX5_passOne_91 : decode cX5_passOne 91 = .ok (.getfield 12, 3) := by decide +kernel
theorem dX5_passOne_94 : decode cX5_passOne 94 = .ok (.iload_n 1, 1) := by decide +kernel
theorem dX5_passOne_95 : decode cX5_passOne 95 = .ok (.invokevirtual 223, 3) := by decide +kernel
theorem dX5_passOne_98 : decode cX5_passOne 98 = .ok (.ladd, 1) := by decide +kernel
theorem dX5_passOne_99 : decode cX5_passOne 99 = .ok (.putfield 73, 3) := by decide +kernel
theorem dX5_passOne_102 : decode cX5_passOne 102 = .ok (.return_, 1) := by decide +kernel
theorem dX5_stepOf_0 : decode cX5_stepOf 0 = .ok (.aload_n 0, 1) := by decide +kernel
theorem dX5_stepOf_1 : decode cX5_stepOf 1 = .ok (.getfield 56, 3) := by decide +kernel
theorem dX5_stepOf_4 : decode cX5_stepOf 4 = .ok (.ifCond .eq 12, 3) := by decide +kernel
theorem dX5_stepOf_7 : decode cX5_stepOf 7 = .ok (.iload_n 1, 1) := by decide +kernel
theorem dX5_stepOf_8 : decode cX5_stepOf 8 = .ok (.aload_n 0, 1) := by decide +kernel
theorem dX5_stepOf_9 : decode cX5_stepOf 9 = .ok (.getfield 56, 3) := by decide +kernel
theorem dX5_stepOf_12 : decode cX5_stepOf 12 = .ok (.irem, 1) := by decide +kernel
theorem dX5_stepOf_13 : decode cX5_stepOf 13 = .ok (.ifCond .eq 5, 3) := by decide +kernel
theorem dX5_stepOf_16 : decode cX5_stepOf 16 = .ok (.iconst 0, 1) := by decide +kernel
theorem dX5_stepOf_17 : decode cX5_stepOf 17 = .ok (.ireturn, 1) := by decide +kernel
theorem dX5_stepOf_18 : decode cX5_stepOf 18 = .ok (.aload_n 0, 1) := by decide +kernel
theorem dX5_stepOf_19 : decode cX5_stepOf 19 = .ok (.getfield 59, 3) := by decide +kernel
theorem dX5_stepOf_22 : decode cX5_stepOf 22 = .ok (.ifCond .eq 7, 3) := by decide +kernel
theorem dX5_stepOf_25 : decode cX5_stepOf 25 = .ok (.iconst 1, 1) := by decide +kernel
theorem dX5_stepOf_26 : decode cX5_stepOf 26 = .ok (.goto 4, 3) := by decide +kernel
theorem dX5_stepOf_29 : decode cX5_stepOf 29 = .ok (.iconst (-1), 1) := by decide +kernel
theorem dX5_stepOf_30 : decode cX5_stepOf 30 = .ok (.ireturn, 1) := by decide +kernel
theorem dX5_landingOf_0 : decode cX5_landingOf 0 = .ok (.aload_n 0, 1) := by decide +kernel
theorem dX5_landingOf_1 : decode cX5_landingOf 1 = .ok (.getfield 19, 3) := by decide +kernel
theorem dX5_landingOf_4 : decode cX5_landingOf 4 = .ok (.iload_n 1, 1) := by decide +kernel
theorem dX5_landingOf_5 : decode cX5_landingOf 5 = .ok (.invokevirtual 226, 3) := by decide +kernel
theorem dX5_landingOf_8 : decode cX5_landingOf 8 = .ok (.istore_n 2, 1) := by decide +kernel
theorem dX5_landingOf_9 : decode cX5_landingOf 9 = .ok (.aload_n 0, 1) := by decide +kernel
theorem dX5_landingOf_10 : decode cX5_landingOf 10 = .ok (.getfield 19, 3) := by decide +kernel
theorem dX5_landingOf_13 : decode cX5_landingOf 13 = .ok (.iload_n 1, 1) := by decide +kernel
theorem dX5_landingOf_14 : decode cX5_landingOf 14 = .ok (.invokevirtual 229, 3) := by decide +kernel
theorem dX5_landingOf_17 : decode cX5_landingOf 17 = .ok (.istore_n 3, 1) := by decide +kernel
theorem dX5_landingOf_18 : decode cX5_landingOf 18 = .ok (.aload_n 0, 1) := by decide +kernel
theorem dX5_landingOf_19 : decode cX5_landingOf 19 = .ok (.getfield 19, 3) := by decide +kernel
theorem dX5_landingOf_22 : decode cX5_landingOf 22 = .ok (.iload_n 1, 1) := by decide +kernel
theorem dX5_landingOf_23 : decode cX5_landingOf 23 = .ok (.invokevirtual 232, 3) := by decide +kernel
theorem dX5_landingOf_26 : decode cX5_landingOf 26 = .ok (.istore 4, 2) := by decide +kernel
theorem dX5_landingOf_28 : decode cX5_landingOf 28 = .ok (.aload_n 0, 1) := by decide +kernel
theorem dX5_landingOf_29 : decode cX5_landingOf 29 = .ok (.getfield 19, 3) := by decide +kernel
theorem dX5_landingOf_32 : decode cX5_landingOf 32 = .ok (.iload_n 1, 1) := by decide +kernel
theorem dX5_landingOf_33 : decode cX5_landingOf 33 = .ok (.invokevirtual 235, 3) := by decide +kernel
theorem dX5_landingOf_36 : decode cX5_landingOf 36 = .ok (.iconst 1, 1) := by decide +kernel
theorem dX5_landingOf_37 : decode cX5_landingOf 37 = .ok (.iadd, 1) := by decide +kernel
theorem dX5_landingOf_38 : decode cX5_landingOf 38 = .ok (.istore 5, 2) := by decide +kernel
theorem dX5_landingOf_40 : decode cX5_landingOf 40 = .ok (.iload 5, 2) := by decide +kernel
theorem dX5_landingOf_42 : decode cX5_landingOf 42 = .ok (.aload_n 0, 1) := by decide +kernel
theorem dX5_landingOf_43 : decode cX5_landingOf 43 = .ok (.getfield 63, 3) := by decide +kernel
theorem dX5_landingOf_46 : decode cX5_landingOf 46 = .ok (.if_icmp .gt 57, 3) := by decide +kernel
theorem dX5_landingOf_49 : decode cX5_landingOf 49 = .ok (.iload_n 3, 1) := by decide +kernel
theorem dX5_landingOf_50 : decode cX5_landingOf 50 = .ok (.iload_n 3, 1) := by decide +kernel
theorem dX5_landingOf_51 : decode cX5_landingOf 51 = .ok (.iload 4, 2) := by decide +kernel
theorem dX5_landingOf_53 : decode cX5_landingOf 53 = .ok (.aload_n 0, 1) := by decide +kernel
theorem dX5_landingOf_54 : decode cX5_landingOf 54 = .ok (.getfield 26, 3) := by decide +kernel
theorem dX5_landingOf_57 : decode cX5_landingOf 57 = .ok (.iload 5, 2) := by decide +kernel
theorem dX5_landingOf_59 : decode cX5_landingOf 59 = .ok (.invokevirtual 238, 3) := by decide +kernel
theorem dX5_landingOf_62 : decode cX5_landingOf 62 = .ok (.invokestatic 241, 3) := by decide +kernel
theorem dX5_landingOf_65 : decode cX5_landingOf 65 = .ok (.isub, 1) := by decide +kernel
theorem dX5_landingOf_66 : decode cX5_landingOf 66 = .ok (.istore_n 3, 1) := by decide +kernel
theorem dX5_landingOf_67 : decode cX5_landingOf 67 = .ok (.iload_n 3, 1) := by decide +kernel
theorem dX5_landingOf_68 : decode cX5_landingOf 68 = .ok (.ifCond .ge 5, 3) := by decide +kernel
theorem dX5_landingOf_71 : decode cX5_landingOf 71 = .ok (.iload_n 2, 1) := by decide +kernel
theorem dX5_landingOf_72 : decode cX5_landingOf 72 = .ok (.ireturn, 1) := by decide +kernel
theorem dX5_landingOf_73 : decode cX5_landingOf 73 = .ok (.iload_n 2, 1) := by decide +kernel
theorem dX5_landingOf_74 : decode cX5_landingOf 74 = .ok (.aload_n 0, 1) := by decide +kernel
theorem dX5_landingOf_75 : decode cX5_landingOf 75 = .ok (.getfield 26, 3) := by decide +kernel
theorem dX5_landingOf_78 : decode cX5_landingOf 78 = .ok (.iload 5, 2) := by decide +kernel
theorem dX5_landingOf_80 : decode cX5_landingOf 80 = .ok (.invokevirtual 244, 3) := by decide +kernel
theorem dX5_landingOf_83 : decode cX5_landingOf 83 = .ok (.iadd, 1) := by decide +kernel
theorem dX5_landingOf_84 : decode cX5_landingOf 84 = .ok (.istore_n 2, 1) := by decide +kernel
theorem dX5_landingOf_85 : decode cX5_landingOf 85 = .ok (.iload_n 2, 1) := by decide +kernel
theorem dX5_landingOf_86 : decode cX5_landingOf 86 = .ok (.ifCond .lt 9, 3) := by decide +kernel
theorem dX5_landingOf_89 : decode cX5_landingOf 89 = .ok (.iload_n 2, 1) := by decide +kernel
theorem dX5_landingOf_90 : decode cX5_landingOf 90 = .ok (.bipush 20, 2) := by decide +kernel
theorem dX5_landingOf_92 : decode cX5_landingOf 92 = .ok (.if_icmp .lt 5, 3) := by decide +kernel
theorem dX5_landingOf_95 : decode cX5_landingOf 95 = .ok (.iconst (-1), 1) := by decide +kernel
theorem dX5_landingOf_96 : decode cX5_landingOf 96 = .ok (.ireturn, 1) := by decide +kernel
theorem dX5_landingOf_97 : decode cX5_landingOf 97 = .ok (.iinc 5 1, 3) := by decide +kernel
theorem dX5_landingOf_100 : decode cX5_landingOf 100 = .ok (.goto (-60), 3) := by decide +kernel
theorem dX5_landingOf_103 : decode cX5_landingOf 103 = .ok (.iconst (-1), 1) := by decide +kernel
theorem dX5_landingOf_104 : decode cX5_landingOf 104 = .ok (.ireturn, 1) := by decide +kernel
theorem dX5_layerOfBeam_0 : decode cX5_layerOfBeam 0 = .ok (.iload_n 1, 1) := by decide +kernel
theorem dX5_layerOfBeam_1 : decode cX5_layerOfBeam 1 = .ok (.iload_n 0, 1) := by decide +kernel
theorem dX5_layerOfBeam_2 : decode cX5_layerOfBeam 2 = .ok (.imul, 1) := by decide +kernel
theorem dX5_layerOfBeam_3 : decode cX5_layerOfBeam 3 = .ok (.iconst 4, 1) := by decide +kernel
theorem dX5_layerOfBeam_4 : decode cX5_layerOfBeam 4 = .ok (.idiv, 1) := by decide +kernel
theorem dX5_layerOfBeam_5 : decode cX5_layerOfBeam 5 = .ok (.iload_n 0, 1) := by decide +kernel
theorem dX5_layerOfBeam_6 : decode cX5_layerOfBeam 6 = .ok (.iload_n 0, 1) := by decide +kernel
theorem dX5_layerOfBeam_7 : decode cX5_layerOfBeam 7 = .ok (.imul, 1) := by decide +kernel
theorem dX5_layerOfBeam_8 : decode cX5_layerOfBeam 8 = .ok (.bipush 100, 2) := by decide +kernel
theorem dX5_layerOfBeam_10 : decode cX5_layerOfBeam 10 = .ok (.idiv, 1) := by decide +kernel
theorem dX5_layerOfBeam_11 : decode cX5_layerOfBeam 11 = .ok (.iadd, 1) := by decide +kernel
theorem dX5_layerOfBeam_12 : decode cX5_layerOfBeam 12 = .ok (.ireturn, 1) := by decide +kernel
theorem dX5_reachOf_0 : decode cX5_reachOf 0 = .ok (.iconst 0, 1) := by decide +kernel
theorem dX5_reachOf_1 : decode cX5_reachOf 1 = .ok (.istore_n 2, 1) := by decide +kernel
theorem dX5_reachOf_2 : decode cX5_reachOf 2 = .ok (.iload_n 2, 1) := by decide +kernel
theorem dX5_reachOf_3 : decode cX5_reachOf 3 = .ok (.bipush 20, 2) := by decide +kernel
theorem dX5_reachOf_5 : decode cX5_reachOf 5 = .ok (.if_icmp .ge 25, 3) := by decide +kernel
theorem dX5_reachOf_8 : decode cX5_reachOf 8 = .ok (.aload_n 0, 1) := by decide +kernel
theorem dX5_reachOf_9 : decode cX5_reachOf 9 = .ok (.getfield 44, 3) := by decide +kernel
theorem dX5_reachOf_12 : decode cX5_reachOf 12 = .ok (.iload_n 2, 1) := by decide +kernel
theorem dX5_reachOf_13 : decode cX5_reachOf 13 = .ok (.iaload, 1) := by decide +kernel
theorem dX5_reachOf_14 : decode cX5_reachOf 14 = .ok (.iload_n 2, 1) := by decide +kernel
theorem dX5_reachOf_15 : decode cX5_reachOf 15 = .ok (.iload_n 1, 1) := by decide +kernel
theorem dX5_reachOf_16 : decode cX5_reachOf 16 = .ok (.invokestatic 247, 3) := by decide +kernel
theorem dX5_reachOf_19 : decode cX5_reachOf 19 = .ok (.if_icmp .le 5, 3) := by decide +kernel
theorem dX5_reachOf_22 : decode cX5_reachOf 22 = .ok (.iload_n 2, 1) := by decide +kernel
theorem dX5_reachOf_23 : decode cX5_reachOf 23 = .ok (.ireturn, 1) := by decide +kernel
theorem dX5_reachOf_24 : decode cX5_reachOf 24 = .ok (.iinc 2 1, 3) := by decide +kernel
theorem dX5_reachOf_27 : decode cX5_reachOf 27 = .ok (.goto (-25), 3) := by decide +kernel
theorem dX5_reachOf_30 : decode cX5_reachOf 30 = .ok (.bipush 20, 2) := by decide +kernel
theorem dX5_reachOf_32 : decode cX5_reachOf 32 = .ok (.ireturn, 1) := by decide +kernel
theorem dX5_echoInBeam_0 : decode cX5_echoInBeam 0 = .ok (.iload_n 1, 1) := by decide +kernel
theorem dX5_echoInBeam_1 : decode cX5_echoInBeam 1 = .ok (.iload_n 2, 1) := by decide +kernel
theorem dX5_echoInBeam_2 : decode cX5_echoInBeam 2 = .ok (.invokestatic 247, 3) := by decide +kernel
theorem dX5_echoInBeam_5 : decode cX5_echoInBeam 5 = .ok (.istore_n 3, 1) := by decide +kernel
theorem dX5_echoInBeam_6 : decode cX5_echoInBeam 6 = .ok (.aload_n 0, 1) := by decide +kernel
theorem dX5_echoInBeam_7 : decode cX5_echoInBeam 7 = .ok (.getfield 12, 3) := by decide +kernel
theorem dX5_echoInBeam_10 : decode cX5_echoInBeam 10 = .ok (.iload_n 1, 1) := by decide +kernel
theorem dX5_echoInBeam_11 : decode cX5_echoInBeam 11 = .ok (.iload_n 3, 1) := by decide +kernel
theorem dX5_echoInBeam_12 : decode cX5_echoInBeam 12 = .ok (.invokevirtual 250, 3) := by decide +kernel
theorem dX5_echoInBeam_15 : decode cX5_echoInBeam 15 = .ok (.lstore 4, 2) := by decide +kernel
theorem dX5_echoInBeam_17 : decode cX5_echoInBeam 17 = .ok (.iload_n 3, 1) := by decide +kernel
theorem dX5_echoInBeam_18 : decode cX5_echoInBeam 18 = .ok (.aload_n 0, 1) := by decide +kernel
theorem dX5_echoInBeam_19 : decode cX5_echoInBeam 19 = .ok (.getfield 52, 3) := by decide +kernel
theorem dX5_echoInBeam_22 : decode cX5_echoInBeam 22 = .ok (.invokestatic 152, 3) := by decide +kernel
theorem dX5_echoInBeam_25 : decode cX5_echoInBeam 25 = .ok (.istore 6, 2) := by decide +kernel
theorem dX5_echoInBeam_27 : decode cX5_echoInBeam 27 = .ok (.iload 6, 2) := by decide +kernel
theorem dX5_echoInBeam_29 : decode cX5_echoInBeam 29 = .ok (.ifCond .ne 10, 3) := by decide +kernel
theorem dX5_echoInBeam_32 : decode cX5_echoInBeam 32 = .ok (.lload 4, 2) := by decide +kernel
theorem dX5_echoInBeam_34 : decode cX5_echoInBeam 34 = .ok (.ldc2_w 253, 3) := by decide +kernel
theorem dX5_echoInBeam_37 : decode cX5_echoInBeam 37 = .ok (.ldiv, 1) := by decide +kernel
theorem dX5_echoInBeam_38 : decode cX5_echoInBeam 38 = .ok (.lreturn, 1) := by decide +kernel
theorem dX5_echoInBeam_39 : decode cX5_echoInBeam 39 = .ok (.iload 6, 2) := by decide +kernel
theorem dX5_echoInBeam_41 : decode cX5_echoInBeam 41 = .ok (.iconst 1, 1) := by decide +kernel
theorem dX5_echoInBeam_42 : decode cX5_echoInBeam 42 = .ok (.if_icmp .ne 12, 3) := by decide +kernel
theorem dX5_echoInBeam_45 : decode cX5_echoInBeam 45 = .ok (.lload 4, 2) := by decide +kernel
theorem dX5_echoInBeam_47 : decode cX5_echoInBeam 47 = .ok (.ldc2_w 255, 3) := by decide +kernel
theorem dX5_echoInBeam_50 : decode cX5_echoInBeam 50 = .ok (.lmul, 1) := by decide +kernel
theorem dX5_echoInBeam_51 : decode cX5_echoInBeam 51 = .ok (.goto 5, 3) := by decide +kernel
theorem dX5_echoInBeam_54 : decode cX5_echoInBeam 54 = .ok (.lload 4, 2) := by decide +kernel
theorem dX5_echoInBeam_56 : decode cX5_echoInBeam 56 = .ok (.lreturn, 1) := by decide +kernel
theorem dX5_weakenedEcho_0 : decode cX5_weakenedEcho 0 = .ok (.aload_n 0, 1) := by decide +kernel
theorem dX5_weakenedEcho_1 : decode cX5_weakenedEcho 1 = .ok (.iload_n 1, 1) := by decide +kernel
theorem dX5_weakenedEcho_2 : decode cX5_weakenedEcho 2 = .ok (.iload_n 2, 1) := by decide +kernel
theorem dX5_weakenedEcho_3 : decode cX5_weakenedEcho 3 = .ok (.invokevirtual 145, 3) := by decide +kernel
theorem dX5_weakenedEcho_6 : decode cX5_weakenedEcho 6 = .ok (.l2d, 1) := by decide +kernel
theorem dX5_weakenedEcho_7 : decode cX5_weakenedEcho 7 = .ok (.dstore_n 3, 1) := by decide +kernel
theorem dX5_weakenedEcho_8 : decode cX5_weakenedEcho 8 = .ok (.iconst 0, 1) := by decide +kernel
theorem dX5_weakenedEcho_9 : decode cX5_weakenedEcho 9 = .ok (.istore 5, 2) := by decide +kernel
theorem dX5_weakenedEcho_11 : decode cX5_weakenedEcho 11 = .ok (.iload 5, 2) := by decide +kernel
theorem dX5_weakenedEcho_13 : decode cX5_weakenedEcho 13 = .ok (.iload_n 1, 1) := by decide +kernel
theorem dX5_weakenedEcho_14 : decode cX5_weakenedEcho 14 = .ok (.if_icmp .ge 51, 3) := by decide +kernel
theorem dX5_weakenedEcho_17 : decode cX5_weakenedEcho 17 = .ok (.aload_n 0, 1) := by decide +kernel
theorem dX5_weakenedEcho_18 : decode cX5_weakenedEcho 18 = .ok (.iload 5, 2) := by decide +kernel
theorem dX5_weakenedEcho_20 : decode cX5_weakenedEcho 20 = .ok (.iload_n 2, 1) := by decide +kernel
theorem dX5_weakenedEcho_21 : decode cX5_weakenedEcho 21 = .ok (.invokevirtual 145, 3) := by decide +kernel
theorem dX5_weakenedEcho_24 : decode cX5_weakenedEcho 24 = .ok (.lstore 6, 2) := by decide +kernel
theorem dX5_weakenedEcho_26 : decode cX5_weakenedEcho 26 = .ok (.lload 6, 2) := by decide +kernel
theorem dX5_weakenedEcho_28 : decode cX5_weakenedEcho 28 = .ok (.ldc2_w 257, 3) := by decide +kernel
theorem dX5_weakenedEcho_31 : decode cX5_weakenedEcho 31 = .ok (.lcmp, 1) := by decide +kernel
theorem dX5_weakenedEcho_32 : decode cX5_weakenedEcho 32 = .ok (.ifCond .lt 12, 3) := by decide +kernel
theorem dX5_weakenedEcho_35 : decode cX5_weakenedEcho 35 = .ok (.dload_n 3, 1) := by decide +kernel
theorem dX5_weakenedEcho_36 : decode cX5_weakenedEcho 36 = .ok (.ldc2_w 259, 3) := by decide +kernel
theorem dX5_weakenedEcho_39 : decode cX5_weakenedEcho 39 = .ok (.dmul, 1) := by decide +kernel
theorem dX5_weakenedEcho_40 : decode cX5_weakenedEcho 40 = .ok (.dstore_n 3, 1) := by decide +kernel
theorem dX5_weakenedEcho_41 : decode cX5_weakenedEcho 41 = .ok (.goto 18, 3) := by decide +kernel
theorem dX5_weakenedEcho_44 : decode cX5_weakenedEcho 44 = .ok (.lload 6, 2) := by decide +kernel
theorem dX5_weakenedEcho_46 : decode cX5_weakenedEcho 46 = .ok (.ldc2_w 261, 3) := by decide +kernel
theorem dX5_weakenedEcho_49 : decode cX5_weakenedEcho 49 = .ok (.lcmp, 1) := by decide +kernel
theorem dX5_weakenedEcho_50 : decode cX5_weakenedEcho 50 = .ok (.ifCond .lt 9, 3) := by decide +kernel
theorem dX5_weakenedEcho_53 : decode cX5_weakenedEcho 53 = .ok (.dload_n 3, 1) := by decide +kernel
theorem dX5_weakenedEcho_54 : decode cX5_weakenedEcho 54 = .ok (.ldc2_w 263, 3) := by decide +kernel
theorem dX5_weakenedEcho_57 : decode cX5_weakenedEcho 57 = .ok (.dmul, 1) := by decide +kernel
theorem dX5_weakenedEcho_58 : decode cX5_weakenedEcho 58 = .ok (.dstore_n 3, 1) := by decide +kernel
theorem dX5_weakenedEcho_59 : decode cX5_weakenedEcho 59 = .ok (.iinc 5 1, 3) := by decide +kernel
theorem dX5_weakenedEcho_62 : decode cX5_weakenedEcho 62 = .ok (.goto (-51), 3) := by decide +kernel
theorem dX5_weakenedEcho_65 : decode cX5_weakenedEcho 65 = .ok (.dload_n 3, 1) := by decide +kernel
theorem dX5_weakenedEcho_66 : decode cX5_weakenedEcho 66 = .ok (.dreturn, 1) := by decide +kernel
theorem dX5_bitsOf_0 : decode cX5_bitsOf 0 = .ok (.dload_n 0, 1) := by decide +kernel
theorem dX5_bitsOf_1 : decode cX5_bitsOf 1 = .ok (.dconst 0, 1) := by decide +kernel
theorem dX5_bitsOf_2 : decode cX5_bitsOf 2 = .ok (.dcmp .g, 1) := by decide +kernel
theorem dX5_bitsOf_3 : decode cX5_bitsOf 3 = .ok (.ifCond .gt 5, 3) := by decide +kernel
theorem dX5_bitsOf_6 : decode cX5_bitsOf 6 = .ok (.lconst 0, 1) := by decide +kernel
theorem dX5_bitsOf_7 : decode cX5_bitsOf 7 = .ok (.lreturn, 1) := by decide +kernel
theorem dX5_bitsOf_8 : decode cX5_bitsOf 8 = .ok (.dload_n 0, 1) := by decide +kernel
theorem dX5_bitsOf_9 : decode cX5_bitsOf 9 = .ok (.dstore_n 2, 1) := by decide +kernel
theorem dX5_bitsOf_10 : decode cX5_bitsOf 10 = .ok (.ldc2_w 265, 3) := by decide +kernel
theorem dX5_bitsOf_13 : decode cX5_bitsOf 13 = .ok (.lstore 4, 2) := by decide +kernel
theorem dX5_bitsOf_15 : decode cX5_bitsOf 15 = .ok (.dload_n 2, 1) := by decide +kernel
theorem dX5_bitsOf_16 : decode cX5_bitsOf 16 = .ok (.ldc2_w 267, 3) := by decide +kernel
theorem dX5_bitsOf_19 : decode cX5_bitsOf 19 = .ok (.dcmp .g, 1) := by decide +kernel
theorem dX5_bitsOf_20 : decode cX5_bitsOf 20 = .ok (.ifCond .ge 25, 3) := by decide +kernel
theorem dX5_bitsOf_23 : decode cX5_bitsOf 23 = .ok (.lload 4, 2) := by decide +kernel
theorem dX5_bitsOf_25 : decode cX5_bitsOf 25 = .ok (.lconst 0, 1) := by decide +kernel
theorem dX5_bitsOf_26 : decode cX5_bitsOf 26 = .ok (.lcmp, 1) := by decide +kernel
theorem dX5_bitsOf_27 : decode cX5_bitsOf 27 = .ok (.ifCond .le 18, 3) := by decide +kernel
theorem dX5_bitsOf_30 : decode cX5_bitsOf 30 = .ok (.dload_n 2, 1) := by decide +kernel
theorem dX5_bitsOf_31 : decode cX5_bitsOf 31 = .ok (.ldc2_w 269, 3) := by decide +kernel
theorem dX5_bitsOf_34 : decode cX5_bitsOf 34 = .ok (.dmul, 1) := by decide +kernel
theorem dX5_bitsOf_35 : decode cX5_bitsOf 35 = .ok (.dstore_n 2, 1) := by decide +kernel
theorem dX5_bitsOf_36 : decode cX5_bitsOf 36 = .ok (.lload 4, 2) := by decide +kernel
theorem dX5_bitsOf_38 : decode cX5_bitsOf 38 = .ok (.lconst 1, 1) := by decide +kernel
theorem dX5_bitsOf_39 : decode cX5_bitsOf 39 = .ok (.lsub, 1) := by decide +kernel
theorem dX5_bitsOf_40 : decode cX5_bitsOf 40 = .ok (.lstore 4, 2) := by decide +kernel
theorem dX5_bitsOf_42 : decode cX5_bitsOf 42 = .ok (.goto (-27), 3) := by decide +kernel
theorem dX5_bitsOf_45 : decode cX5_bitsOf 45 = .ok (.lload 4, 2) := by decide +kernel
theorem dX5_bitsOf_47 : decode cX5_bitsOf 47 = .ok (.bipush 52, 2) := by decide +kernel
theorem dX5_bitsOf_49 : decode cX5_bitsOf 49 = .ok (.lshl, 1) := by decide +kernel
theorem dX5_bitsOf_50 : decode cX5_bitsOf 50 = .ok (.dload_n 2, 1) := by decide +kernel
theorem dX5_bitsOf_51 : decode cX5_bitsOf 51 = .ok (.d2l, 1) := by decide +kernel
theorem dX5_bitsOf_52 : decode cX5_bitsOf 52 = .ok (.ldc2_w 271, 3) := by decide +kernel
theorem dX5_bitsOf_55 : decode cX5_bitsOf 55 = .ok (.lsub, 1) := by decide +kernel
theorem dX5_bitsOf_56 : decode cX5_bitsOf 56 = .ok (.ladd, 1) := by decide +kernel
theorem dX5_bitsOf_57 : decode cX5_bitsOf 57 = .ok (.lreturn, 1) := by decide +kernel
theorem dX5_rainOf_0 : decode cX5_rainOf 0 = .ok (.iload_n 2, 1) := by decide +kernel
theorem dX5_rainOf_1 : decode cX5_rainOf 1 = .ok (.ifCond .le 10, 3) := by decide +kernel
theorem dX5_rainOf_4 : decode cX5_rainOf 4 = .ok (.lload_n 0, 1) := by decide +kernel
theorem dX5_rainOf_5 : decode cX5_rainOf 5 = .ok (.iload_n 2, 1) := by decide +kernel
theorem dX5_rainOf_6 : decode cX5_rainOf 6 = .ok (.i2l, 1) := by decide +kernel
theorem dX5_rainOf_7 : decode cX5_rainOf 7 = .ok (.ldiv, 1) := by decide +kernel
theorem dX5_rainOf_8 : decode cX5_rainOf 8 = .ok (.goto 4, 3) := by decide +kernel
theorem dX5_rainOf_11 : decode cX5_rainOf 11 = .ok (.lconst 0, 1) := by decide +kernel
theorem dX5_rainOf_12 : decode cX5_rainOf 12 = .ok (.lreturn, 1) := by decide +kernel
theorem dJ9_abs_067f4_0 : decode cJ9_abs_067f4 0 = .ok (.lload_n 0, 1) := by decide +kernel
theorem dJ9_abs_067f4_1 : decode cJ9_abs_067f4 1 = .ok (.lconst 0, 1) := by decide +kernel
theorem dJ9_abs_067f4_2 : decode cJ9_abs_067f4 2 = .ok (.lcmp, 1) := by decide +kernel
theorem dJ9_abs_067f4_3 : decode cJ9_abs_067f4 3 = .ok (.ifCond .ge 8, 3) := by decide +kernel
theorem dJ9_abs_067f4_6 : decode cJ9_abs_067f4 6 = .ok (.lload_n 0, 1) := by decide +kernel
theorem dJ9_abs_067f4_7 : decode cJ9_abs_067f4 7 = .ok (.lneg, 1) := by decide +kernel
theorem dJ9_abs_067f4_8 : decode cJ9_abs_067f4 8 = .ok (.goto 4, 3) := by decide +kernel
theorem dJ9_abs_067f4_11 : decode cJ9_abs_067f4 11 = .ok (.lload_n 0, 1) := by decide +kernel
theorem dJ9_abs_067f4_12 : decode cJ9_abs_067f4 12 = .ok (.lreturn, 1) := by decide +kernel
theorem dL_cell_0 : decode cL_cell 0 = .ok (.iload_n 1, 1) := by decide +kernel
theorem dL_cell_1 : decode cL_cell 1 = .ok (.aload_n 0, 1) := by decide +kernel
theorem dL_cell_2 : decode cL_cell 2 = .ok (.arraylength, 1) := by decide +kernel
theorem dL_cell_3 : decode cL_cell 3 = .ok (.if_icmp .ge 9, 3) := by decide +kernel
theorem dL_cell_6 : decode cL_cell 6 = .ok (.aload_n 0, 1) := by decide +kernel
theorem dL_cell_7 : decode cL_cell 7 = .ok (.iload_n 1, 1) := by decide +kernel
theorem dL_cell_8 : decode cL_cell 8 = .ok (.iaload, 1) := by decide +kernel
theorem dL_cell_9 : decode cL_cell 9 = .ok (.goto 18, 3) := by decide +kernel
theorem dL_cell_12 : decode cL_cell 12 = .ok (.sipush 7919, 3) := by decide +kernel
theorem dL_cell_15 : decode cL_cell 15 = .ok (.iload_n 1, 1) := by decide +kernel
theorem dL_cell_16 : decode cL_cell 16 = .ok (.sipush 2633, 3) := by decide +kernel
theorem dL_cell_19 : decode cL_cell 19 = .ok (.iadd, 1) := by decide +kernel
theorem dL_cell_20 : decode cL_cell 20 = .ok (.imul, 1) := by decide +kernel
theorem dL_cell_21 : decode cL_cell 21 = .ok (.iload_n 1, 1) := by decide +kernel
theorem dL_cell_22 : decode cL_cell 22 = .ok (.sipush 373, 3) := by decide +kernel
theorem dL_cell_25 : decode cL_cell 25 = .ok (.iadd, 1) := by decide +kernel
theorem dL_cell_26 : decode cL_cell 26 = .ok (.imul, 1) := by decide +kernel
theorem dL_cell_27 : decode cL_cell 27 = .ok (.ireturn, 1) := by decide +kernel
theorem dL_low_0 : decode cL_low 0 = .ok (.iload_n 0, 1) := by decide +kernel
theorem dL_low_1 : decode cL_low 1 = .ok (.ldc 7, 2) := by decide +kernel
theorem dL_low_3 : decode cL_low 3 = .ok (.iand, 1) := by decide +kernel
theorem dL_low_4 : decode cL_low 4 = .ok (.iload_n 1, 1) := by decide +kernel
theorem dL_low_5 : decode cL_low 5 = .ok (.irem, 1) := by decide +kernel
theorem dL_low_6 : decode cL_low 6 = .ok (.ireturn, 1) := by decide +kernel
theorem dL_drops_0 : decode cL_drops 0 = .ok (.aload_n 0, 1) := by decide +kernel
theorem dL_drops_1 : decode cL_drops 1 = .ok (.iload_n 1, 1) := by decide +kernel
theorem dL_drops_2 : decode cL_drops 2 = .ok (.iload_n 2, 1) := by decide +kernel
theorem dL_drops_3 : decode cL_drops 3 = .ok (.iload_n 3, 1) := by decide +kernel
theorem dL_drops_4 : decode cL_drops 4 = .ok (.iload 4, 2) := by decide +kernel
theorem dL_drops_6 : decode cL_drops 6 = .ok (.invokevirtual 8, 3) := by decide +kernel
theorem dL_drops_9 : decode cL_drops 9 = .ok (.i2l, 1) := by decide +kernel
theorem dL_drops_10 : decode cL_drops 10 = .ok (.lreturn, 1) := by decide +kernel
theorem dL_drops_11 : decode cL_drops 11 = .ok (.astore 5, 2) := by decide +kernel
theorem dL_drops_13 : decode cL_drops 13 = .ok (.ldc2_w 16, 3) := by decide +kernel
theorem dL_drops_16 : decode cL_drops 16 = .ok (.lreturn, 1) := by decide +kernel
theorem dL_drops_17 : decode cL_drops 17 = .ok (.astore 5, 2) := by decide +kernel
theorem dL_drops_19 : decode cL_drops 19 = .ok (.ldc2_w 16, 3) := by decide +kernel
theorem dL_drops_22 : decode cL_drops 22 = .ok (.lreturn, 1) := by decide +kernel
theorem dL_drops_23 : decode cL_drops 23 = .ok (.astore 5, 2) := by decide +kernel
theorem dL_drops_25 : decode cL_drops 25 = .ok (.ldc2_w 16, 3) := by decide +kernel
theorem dL_drops_28 : decode cL_drops 28 = .ok (.lreturn, 1) := by decide +kernel
theorem dL_melt_0 : decode cL_melt 0 = .ok (.aload_n 0, 1) := by decide +kernel
theorem dL_melt_1 : decode cL_melt 1 = .ok (.iload_n 1, 1) := by decide +kernel
theorem dL_melt_2 : decode cL_melt 2 = .ok (.invokevirtual 22, 3) := by decide +kernel
theorem dL_melt_5 : decode cL_melt 5 = .ok (.i2l, 1) := by decide +kernel
theorem dL_melt_6 : decode cL_melt 6 = .ok (.lreturn, 1) := by decide +kernel
theorem dL_melt_7 : decode cL_melt 7 = .ok (.astore_n 2, 1) := by decide +kernel
theorem dL_melt_8 : decode cL_melt 8 = .ok (.ldc2_w 16, 3) := by decide +kernel
theorem dL_melt_11 : decode cL_melt 11 = .ok (.lreturn, 1) := by decide +kernel
theorem dL_hill_0 : decode cL_hill 0 = .ok (.aload_n 0, 1) := by decide +kernel
theorem dL_hill_1 : decode cL_hill 1 = .ok (.iload_n 1, 1) := by decide +kernel
theorem dL_hill_2 : decode cL_hill 2 = .ok (.iload_n 2, 1) := by decide +kernel
theorem dL_hill_3 : decode cL_hill 3 = .ok (.invokevirtual 26, 3) := by decide +kernel
theorem dL_hill_6 : decode cL_hill 6 = .ok (.i2l, 1) := by decide +kernel
theorem dL_hill_7 : decode cL_hill 7 = .ok (.lreturn, 1) := by decide +kernel
theorem dL_hill_8 : decode cL_hill 8 = .ok (.astore_n 3, 1) := by decide +kernel
theorem dL_hill_9 : decode cL_hill 9 = .ok (.ldc2_w 16, 3) := by decide +kernel
theorem dL_hill_12 : decode cL_hill 12 = .ok (.lreturn, 1) := by decide +kernel
theorem dL_hill_13 : decode cL_hill 13 = .ok (.astore_n 3, 1) := by decide +kernel
theorem dL_hill_14 : decode cL_hill 14 = .ok (.ldc2_w 16, 3) := by decide +kernel
theorem dL_hill_17 : decode cL_hill 17 = .ok (.lreturn, 1) := by decide +kernel
theorem dL_drift_0 : decode cL_drift 0 = .ok (.aload_n 0, 1) := by decide +kernel
theorem dL_drift_1 : decode cL_drift 1 = .ok (.iload_n 1, 1) := by decide +kernel
theorem dL_drift_2 : decode cL_drift 2 = .ok (.iload_n 2, 1) := by decide +kernel
theorem dL_drift_3 : decode cL_drift 3 = .ok (.invokevirtual 30, 3) := by decide +kernel
theorem dL_drift_6 : decode cL_drift 6 = .ok (.i2l, 1) := by decide +kernel
theorem dL_drift_7 : decode cL_drift 7 = .ok (.lreturn, 1) := by decide +kernel
theorem dL_drift_8 : decode cL_drift 8 = .ok (.astore_n 3, 1) := by decide +kernel
theorem dL_drift_9 : decode cL_drift 9 = .ok (.ldc2_w 16, 3) := by decide +kernel
theorem dL_drift_12 : decode cL_drift 12 = .ok (.lreturn, 1) := by decide +kernel
theorem dL_gauge_0 : decode cL_gauge 0 = .ok (.aload_n 0, 1) := by decide +kernel
theorem dL_gauge_1 : decode cL_gauge 1 = .ok (.iload_n 1, 1) := by decide +kernel
theorem dL_gauge_2 : decode cL_gauge 2 = .ok (.iload_n 2, 1) := by decide +kernel
theorem dL_gauge_3 : decode cL_gauge 3 = .ok (.invokevirtual 34, 3) := by decide +kernel
theorem dL_gauge_6 : decode cL_gauge 6 = .ok (.ifCond .eq 7, 3) := by decide +kernel
theorem dL_gauge_9 : decode cL_gauge 9 = .ok (.lconst 1, 1) := by decide +kernel
theorem dL_gauge_10 : decode cL_gauge 10 = .ok (.goto 4, 3) := by decide +kernel
theorem dL_gauge_13 : decode cL_gauge 13 = .ok (.lconst 0, 1) := by decide +kernel
theorem dL_gauge_14 : decode cL_gauge 14 = .ok (.lreturn, 1) := by decide +kernel
theorem dL_gauge_15 : decode cL_gauge 15 = .ok (.astore_n 3, 1) := by decide +kernel
theorem dL_gauge_16 : decode cL_gauge 16 = .ok (.ldc2_w 16, 3) := by decide +kernel
theorem dL_gauge_19 : decode cL_gauge 19 = .ok (.lreturn, 1) := by decide +kernel
theorem dL_clog_0 : decode cL_clog 0 = .ok (.aload_n 0, 1) := by decide +kernel
theorem dL_clog_1 : decode cL_clog 1 = .ok (.iload_n 1, 1) := by decide +kernel
theorem dL_clog_2 : decode cL_clog 2 = .ok (.iload_n 2, 1) := by decide +kernel
theorem dL_clog_3 : decode cL_clog 3 = .ok (.invokevirtual 38, 3) := by decide +kernel
theorem dL_clog_6 : decode cL_clog 6 = .ok (.ifCond .eq 7, 3) := by decide +kernel
theorem dL_clog_9 : decode cL_clog 9 = .ok (.lconst 1, 1) := by decide +kernel
theorem dL_clog_10 : decode cL_clog 10 = .ok (.goto 4, 3) := by decide +kernel
theorem dL_clog_13 : decode cL_clog 13 = .ok (.lconst 0, 1) := by decide +kernel
theorem dL_clog_14 : decode cL_clog 14 = .ok (.lreturn, 1) := by decide +kernel
theorem dL_clog_15 : decode cL_clog 15 = .ok (.astore_n 3, 1) := by decide +kernel
theorem dL_clog_16 : decode cL_clog 16 = .ok (.ldc2_w 16, 3) := by decide +kernel
theorem dL_clog_19 : decode cL_clog 19 = .ok (.lreturn, 1) := by decide +kernel
theorem dL_pass_0 : decode cL_pass 0 = .ok (.aload_n 0, 1) := by decide +kernel
theorem dL_pass_1 : decode cL_pass 1 = .ok (.iload_n 1, 1) := by decide +kernel
theorem dL_pass_2 : decode cL_pass 2 = .ok (.invokevirtual 41, 3) := by decide +kernel
theorem dL_pass_5 : decode cL_pass 5 = .ok (.i2l, 1) := by decide +kernel
theorem dL_pass_6 : decode cL_pass 6 = .ok (.lreturn, 1) := by decide +kernel
theorem dL_pass_7 : decode cL_pass 7 = .ok (.astore_n 2, 1) := by decide +kernel
theorem dL_pass_8 : decode cL_pass 8 = .ok (.ldc2_w 16, 3) := by decide +kernel
theorem dL_pass_11 : decode cL_pass 11 = .ok (.lreturn, 1) := by decide +kernel
theorem dL_pass_12 : decode cL_pass 12 = .ok (.astore_n 2, 1) := by decide +kernel
theorem dL_pass_13 : decode cL_pass 13 = .ok (.ldc2_w 16, 3) := by decide +kernel
theorem dL_pass_16 : decode cL_pass 16 = .ok (.lreturn, 1) := by decide +kernel
theorem dL_scan_0 : decode cL_scan 0 = .ok (.aload_n 0, 1) := by decide +kernel
theorem dL_scan_1 : decode cL_scan 1 = .ok (.iload_n 1, 1) := by decide +kernel
theorem dL_scan_2 : decode cL_scan 2 = .ok (.invokevirtual 44, 3) := by decide +kernel
theorem dL_scan_5 : decode cL_scan 5 = .ok (.i2l, 1) := by decide +kernel
theorem dL_scan_6 : decode cL_scan 6 = .ok (.lreturn, 1) := by decide +kernel
theorem dL_scan_7 : decode cL_scan 7 = .ok (.astore_n 2, 1) := by decide +kernel
theorem dL_scan_8 : decode cL_scan 8 = .ok (.ldc2_w 16, 3) := by decide +kernel
theorem dL_scan_11 : decode cL_scan 11 = .ok (.lreturn, 1) := by decide +kernel
theorem dL_scan_12 : decode cL_scan 12 = .ok (.astore_n 2, 1) := by decide +kernel
theorem dL_scan_13 : decode cL_scan 13 = .ok (.ldc2_w 16, 3) := by decide +kernel
theorem dL_scan_16 : decode cL_scan 16 = .ok (.lreturn, 1) := by decide +kernel
theorem dL_rule_0 : decode cL_rule 0 = .ok (.aload_n 0, 1) := by decide +kernel
theorem dL_rule_1 : decode cL_rule 1 = .ok (.iload_n 1, 1) := by decide +kernel
theorem dL_rule_2 : decode cL_rule 2 = .ok (.invokevirtual 47, 3) := by decide +kernel
theorem dL_rule_5 : decode cL_rule 5 = .ok (.i2l, 1) := by decide +kernel
theorem dL_rule_6 : decode cL_rule 6 = .ok (.lreturn, 1) := by decide +kernel
theorem dL_rule_7 : decode cL_rule 7 = .ok (.astore_n 2, 1) := by decide +kernel
theorem dL_rule_8 : decode cL_rule 8 = .ok (.ldc2_w 16, 3) := by decide +kernel
theorem dL_rule_11 : decode cL_rule 11 = .ok (.lreturn, 1) := by decide +kernel
theorem dL_count_0 : decode cL_count 0 = .ok (.aload_n 0, 1) := by decide +kernel
theorem dL_count_1 : decode cL_count 1 = .ok (.iload_n 1, 1) := by decide +kernel
theorem dL_count_2 : decode cL_count 2 = .ok (.iload_n 2, 1) := by decide +kernel
theorem dL_count_3 : decode cL_count 3 = .ok (.iload_n 3, 1) := by decide +kernel
theorem dL_count_4 : decode cL_count 4 = .ok (.invokevirtual 50, 3) := by decide +kernel
theorem dL_count_7 : decode cL_count 7 = .ok (.i2l, 1) := by decide +kernel
theorem dL_count_8 : decode cL_count 8 = .ok (.lreturn, 1) := by decide +kernel
theorem dL_count_9 : decode cL_count 9 = .ok (.astore 4, 2) := by decide +kernel
theorem dL_count_11 : decode cL_count 11 = .ok (.ldc2_w 16, 3) := by decide +kernel
theorem dL_count_14 : decode cL_count 14 = .ok (.lreturn, 1) := by decide +kernel
theorem dL_count_15 : decode cL_count 15 = .ok (.astore 4, 2) := by decide +kernel
theorem dL_count_17 : decode cL_count 17 = .ok (.ldc2_w 16, 3) := by decide +kernel
theorem dL_count_20 : decode cL_count 20 = .ok (.lreturn, 1) := by decide +kernel
theorem dL_phase_0 : decode cL_phase 0 = .ok (.aload_n 0, 1) := by decide +kernel
theorem dL_phase_1 : decode cL_phase 1 = .ok (.iload_n 1, 1) := by decide +kernel
theorem dL_phase_2 : decode cL_phase 2 = .ok (.invokevirtual 54, 3) := by decide +kernel
theorem dL_phase_5 : decode cL_phase 5 = .ok (.i2l, 1) := by decide +kernel
theorem dL_phase_6 : decode cL_phase 6 = .ok (.lreturn, 1) := by decide +kernel
theorem dL_phase_7 : decode cL_phase 7 = .ok (.astore_n 2, 1) := by decide +kernel
theorem dL_phase_8 : decode cL_phase 8 = .ok (.ldc2_w 16, 3) := by decide +kernel
theorem dL_phase_11 : decode cL_phase 11 = .ok (.lreturn, 1) := by decide +kernel
theorem dL_echo_0 : decode cL_echo 0 = .ok (.aload_n 0, 1) := by decide +kernel
theorem dL_echo_1 : decode cL_echo 1 = .ok (.iload_n 1, 1) := by decide +kernel
theorem dL_echo_2 : decode cL_echo 2 = .ok (.iload_n 2, 1) := by decide +kernel
theorem dL_echo_3 : decode cL_echo 3 = .ok (.invokevirtual 57, 3) := by decide +kernel
theorem dL_echo_6 : decode cL_echo 6 = .ok (.lreturn, 1) := by decide +kernel
theorem dL_echo_7 : decode cL_echo 7 = .ok (.astore_n 3, 1) := by decide +kernel
theorem dL_echo_8 : decode cL_echo 8 = .ok (.ldc2_w 16, 3) := by decide +kernel
theorem dL_echo_11 : decode cL_echo 11 = .ok (.lreturn, 1) := by decide +kernel
theorem dL_echo_12 : decode cL_echo 12 = .ok (.astore_n 3, 1) := by decide +kernel
theorem dL_echo_13 : decode cL_echo 13 = .ok (.ldc2_w 16, 3) := by decide +kernel
theorem dL_echo_16 : decode cL_echo 16 = .ok (.lreturn, 1) := by decide +kernel
theorem dL_seen_0 : decode cL_seen 0 = .ok (.aload_n 0, 1) := by decide +kernel
theorem dL_seen_1 : decode cL_seen 1 = .ok (.iload_n 1, 1) := by decide +kernel
theorem dL_seen_2 : decode cL_seen 2 = .ok (.iload_n 2, 1) := by decide +kernel
theorem dL_seen_3 : decode cL_seen 3 = .ok (.invokevirtual 61, 3) := by decide +kernel
theorem dL_seen_6 : decode cL_seen 6 = .ok (.lreturn, 1) := by decide +kernel
theorem dL_seen_7 : decode cL_seen 7 = .ok (.astore_n 3, 1) := by decide +kernel
theorem dL_seen_8 : decode cL_seen 8 = .ok (.ldc2_w 16, 3) := by decide +kernel
theorem dL_seen_11 : decode cL_seen 11 = .ok (.lreturn, 1) := by decide +kernel
theorem dL_seen_12 : decode cL_seen 12 = .ok (.astore_n 3, 1) := by decide +kernel
theorem dL_seen_13 : decode cL_seen 13 = .ok (.ldc2_w 16, 3) := by decide +kernel
theorem dL_seen_16 : decode cL_seen 16 = .ok (.lreturn, 1) := by decide +kernel
theorem dL_rain_0 : decode cL_rain 0 = .ok (.aload_n 0, 1) := by decide +kernel
theorem dL_rain_1 : decode cL_rain 1 = .ok (.iload_n 1, 1) := by decide +kernel
theorem dL_rain_2 : decode cL_rain 2 = .ok (.invokevirtual 64, 3) := by decide +kernel
theorem dL_rain_5 : decode cL_rain 5 = .ok (.lreturn, 1) := by decide +kernel
theorem dL_rain_6 : decode cL_rain 6 = .ok (.astore_n 2, 1) := by decide +kernel
theorem dL_rain_7 : decode cL_rain 7 = .ok (.ldc2_w 16, 3) := by decide +kernel
theorem dL_rain_10 : decode cL_rain 10 = .ok (.lreturn, 1) := by decide +kernel
theorem dL_rainBy_0 : decode cL_rainBy 0 = .ok (.aload_n 0, 1) := by decide +kernel
theorem dL_rainBy_1 : decode cL_rainBy 1 = .ok (.iload_n 1, 1) := by decide +kernel
theorem dL_rainBy_2 : decode cL_rainBy 2 = .ok (.iload_n 2, 1) := by decide +kernel
theorem dL_rainBy_3 : decode cL_rainBy 3 = .ok (.invokevirtual 68, 3) := by decide +kernel
theorem dL_rainBy_6 : decode cL_rainBy 6 = .ok (.lreturn, 1) := by decide +kernel
theorem dL_rainBy_7 : decode cL_rainBy 7 = .ok (.astore_n 3, 1) := by decide +kernel
theorem dL_rainBy_8 : decode cL_rainBy 8 = .ok (.ldc2_w 16, 3) := by decide +kernel
theorem dL_rainBy_11 : decode cL_rainBy 11 = .ok (.lreturn, 1) := by decide +kernel
theorem dL_rainBy_12 : decode cL_rainBy 12 = .ok (.astore_n 3, 1) := by decide +kernel
theorem dL_rainBy_13 : decode cL_rainBy 13 = .ok (.ldc2_w 16, 3) := by decide +kernel
theorem dL_rainBy_16 : decode cL_rainBy 16 = .ok (.lreturn, 1) := by decide +kernel
theorem dL_motion_0 : decode cL_motion 0 = .ok (.aload_n 0, 1) := by decide +kernel
theorem dL_motion_1 : decode cL_motion 1 = .ok (.invokevirtual 71, 3) := by decide +kernel
theorem dL_motion_4 : decode cL_motion 4 = .ok (.i2l, 1) := by decide +kernel
theorem dL_motion_5 : decode cL_motion 5 = .ok (.lreturn, 1) := by decide +kernel
theorem dL_motion_6 : decode cL_motion 6 = .ok (.astore_n 1, 1) := by decide +kernel
theorem dL_motion_7 : decode cL_motion 7 = .ok (.ldc2_w 16, 3) := by decide +kernel
theorem dL_motion_10 : decode cL_motion 10 = .ok (.lreturn, 1) := by decide +kernel
theorem dL_collected_0 : decode cL_collected 0 = .ok (.aload_n 0, 1) := by decide +kernel
theorem dL_collected_1 : decode cL_collected 1 = .ok (.iload_n 1, 1) := by decide +kernel
theorem dL_collected_2 : decode cL_collected 2 = .ok (.invokevirtual 75, 3) := by decide +kernel
theorem dL_collected_5 : decode cL_collected 5 = .ok (.lreturn, 1) := by decide +kernel
theorem dL_collected_6 : decode cL_collected 6 = .ok (.astore_n 2, 1) := by decide +kernel
theorem dL_collected_7 : decode cL_collected 7 = .ok (.ldc2_w 16, 3) := by decide +kernel
theorem dL_collected_10 : decode cL_collected 10 = .ok (.lreturn, 1) := by decide +kernel
theorem dL_ground_0 : decode cL_ground 0 = .ok (.aload_n 0, 1) := by decide +kernel
theorem dL_ground_1 : decode cL_ground 1 = .ok (.iload_n 1, 1) := by decide +kernel
theorem dL_ground_2 : decode cL_ground 2 = .ok (.invokevirtual 78, 3) := by decide +kernel
theorem dL_ground_5 : decode cL_ground 5 = .ok (.lreturn, 1) := by decide +kernel
theorem dL_ground_6 : decode cL_ground 6 = .ok (.astore_n 2, 1) := by decide +kernel
theorem dL_ground_7 : decode cL_ground 7 = .ok (.ldc2_w 16, 3) := by decide +kernel
theorem dL_ground_10 : decode cL_ground 10 = .ok (.lreturn, 1) := by decide +kernel
theorem dL_water_0 : decode cL_water 0 = .ok (.aload_n 0, 1) := by decide +kernel
theorem dL_water_1 : decode cL_water 1 = .ok (.iload_n 1, 1) := by decide +kernel
theorem dL_water_2 : decode cL_water 2 = .ok (.invokevirtual 81, 3) := by decide +kernel
theorem dL_water_5 : decode cL_water 5 = .ok (.lreturn, 1) := by decide +kernel
theorem dL_water_6 : decode cL_water 6 = .ok (.astore_n 2, 1) := by decide +kernel
theorem dL_water_7 : decode cL_water 7 = .ok (.ldc2_w 16, 3) := by decide +kernel
theorem dL_water_10 : decode cL_water 10 = .ok (.lreturn, 1) := by decide +kernel
theorem dL_act_0 : decode cL_act 0 = .ok (.iload_n 1, 1) := by decide +kernel
theorem dL_act_1 : decode cL_act 1 = .ok (.bipush 26, 2) := by decide +kernel
theorem dL_act_3 : decode cL_act 3 = .ok (.ishr, 1) := by decide +kernel
theorem dL_act_4 : decode cL_act 4 = .ok (.bipush 14, 2) := by decide +kernel
theorem dL_act_6 : decode cL_act 6 = .ok (.invokestatic 84, 3) := by decide +kernel
theorem dL_act_9 : decode cL_act 9 = .ok (.ifCond .ne 7, 3) := by decide +kernel
theorem dL_act_12 : decode cL_act 12 = .ok (.iconst 1, 1) := by decide +kernel
theorem dL_act_13 : decode cL_act 13 = .ok (.goto 4, 3) := by decide +kernel
theorem dL_act_16 : decode cL_act 16 = .ok (.iconst 0, 1) := by decide +kernel
theorem dL_act_17 : decode cL_act 17 = .ok (.istore_n 3, 1) := by decide +kernel
theorem dL_act_18 : decode cL_act 18 = .ok (.iload_n 3, 1) := by decide +kernel
theorem dL_act_19 : decode cL_act 19 = .ok (.ifCond .eq 16, 3) := by decide +kernel
theorem dL_act_22 : decode cL_act 22 = .ok (.iload_n 1, 1) := by decide +kernel
theorem dL_act_23 : decode cL_act 23 = .ok (.iconst 4, 1) := by decide +kernel
theorem dL_act_24 : decode cL_act 24 = .ok (.ishr, 1) := by decide +kernel
theorem dL_act_25 : decode cL_act 25 = .ok (.bipush 26, 2) := by decide +kernel
theorem dL_act_27 : decode cL_act 27 = .ok (.invokestatic 84, 3) := by decide +kernel
theorem dL_act_30 : decode cL_act 30 = .ok (.iconst 3, 1) := by decide +kernel
theorem dL_act_31 : decode cL_act 31 = .ok (.isub, 1) := by decide +kernel
theorem dL_act_32 : decode cL_act 32 = .ok (.goto 11, 3) := by decide +kernel
theorem dL_act_35 : decode cL_act 35 = .ok (.iload_n 1, 1) := by decide +kernel
theorem dL_act_36 : decode cL_act 36 = .ok (.iconst 4, 1) := by decide +kernel
theorem dL_act_37 : decode cL_act 37 = .ok (.ishr, 1) := by decide +kernel
theorem dL_act_38 : decode cL_act 38 = .ok (.bipush 20, 2) := by decide +kernel
theorem dL_act_40 : decode cL_act 40 = .ok (.invokestatic 84, 3) := by decide +kernel
theorem dL_act_43 : decode cL_act 43 = .ok (.istore 4, 2) := by decide +kernel
theorem dL_act_45 : decode cL_act 45 = .ok (.iload_n 3, 1) := by decide +kernel
theorem dL_act_46 : decode cL_act 46 = .ok (.ifCond .eq 17, 3) := by decide +kernel
theorem dL_act_49 : decode cL_act 49 = .ok (.iload_n 1, 1) := by decide +kernel
theorem dL_act_50 : decode cL_act 50 = .ok (.bipush 8, 2) := by decide +kernel
theorem dL_act_52 : decode cL_act 52 = .ok (.ishr, 1) := by decide +kernel
theorem dL_act_53 : decode cL_act 53 = .ok (.bipush 14, 2) := by decide +kernel
theorem dL_act_55 : decode cL_act 55 = .ok (.invokestatic 84, 3) := by decide +kernel
theorem dL_act_58 : decode cL_act 58 = .ok (.iconst 2, 1) := by decide +kernel
theorem dL_act_59 : decode cL_act 59 = .ok (.isub, 1) := by decide +kernel
theorem dL_act_60 : decode cL_act 60 = .ok (.goto 12, 3) := by decide +kernel
theorem dL_act_63 : decode cL_act 63 = .ok (.iload_n 1, 1) := by decide +kernel
theorem dL_act_64 : decode cL_act 64 = .ok (.bipush 8, 2) := by decide +kernel
theorem dL_act_66 : decode cL_act 66 = .ok (.ishr, 1) := by decide +kernel
theorem dL_act_67 : decode cL_act 67 = .ok (.bipush 10, 2) := by decide +kernel
theorem dL_act_69 : decode cL_act 69 = .ok (.invokestatic 84, 3) := by decide +kernel
theorem dL_act_72 : decode cL_act 72 = .ok (.istore 5, 2) := by decide +kernel
theorem dL_act_74 : decode cL_act 74 = .ok (.iload_n 3, 1) := by decide +kernel
theorem dL_act_75 : decode cL_act 75 = .ok (.ifCond .eq 10, 3) := by decide +kernel
theorem dL_act_78 : decode cL_act 78 = .ok (.iload_n 1, 1) := by decide +kernel
theorem dL_act_79 : decode cL_act 79 = .ok (.bipush 9, 2) := by decide +kernel
theorem dL_act_81 : decode cL_act 81 = .ok (.ishr, 1) := by decide +kernel
theorem dL_act_82 : decode cL_act 82 = .ok (.goto 12, 3) := by decide +kernel
theorem dL_act_85 : decode cL_act 85 = .ok (.iload_n 1, 1) := by decide +kernel
theorem dL_act_86 : decode cL_act 86 = .ok (.bipush 9, 2) := by decide +kernel
theorem dL_act_88 : decode cL_act 88 = .ok (.ishr, 1) := by decide +kernel
theorem dL_act_89 : decode cL_act 89 = .ok (.bipush 90, 2) := by decide +kernel
theorem dL_act_91 : decode cL_act 91 = .ok (.invokestatic 84, 3) := by decide +kernel
theorem dL_act_94 : decode cL_act 94 = .ok (.istore 6, 2) := by decide +kernel
theorem dL_act_96 : decode cL_act 96 = .ok (.iload_n 3, 1) := by decide +kernel
theorem dL_act_97 : decode cL_act 97 = .ok (.ifCond .eq 10, 3) := by decide +kernel
theorem dL_act_100 : decode cL_act 100 = .ok (.iload_n 1, 1) := by decide +kernel
theorem dL_act_101 : decode cL_act 101 = .ok (.bipush 6, 2) := by decide +kernel
theorem dL_act_103 : decode cL_act 103 = .ok (.ishr, 1) := by decide +kernel
theorem dL_act_104 : decode cL_act 104 = .ok (.goto 11, 3) := by decide +kernel
theorem dL_act_107 : decode cL_act 107 = .ok (.iload_n 1, 1) := by decide +kernel
theorem dL_act_108 : decode cL_act 108 = .ok (.bipush 6, 2) := by decide +kernel
theorem dL_act_110 : decode cL_act 110 = .ok (.ishr, 1) := by decide +kernel
theorem dL_act_111 : decode cL_act 111 = .ok (.iconst 4, 1) := by decide +kernel
theorem dL_act_112 : decode cL_act 112 = .ok (.invokestatic 84, 3) := by decide +kernel
theorem dL_act_115 : decode cL_act 115 = .ok (.istore 7, 2) := by decide +kernel
theorem dL_act_117 : decode cL_act 117 = .ok (.iload_n 1, 1) := by decide +kernel
theorem dL_act_118 : decode cL_act 118 = .ok (.bipush 15, 2) := by decide +kernel
theorem dL_act_120 : decode cL_act 120 = .ok (.ishr, 1) := by decide +kernel
theorem dL_act_121 : decode cL_act 121 = .ok (.iconst 1, 1) := by decide +kernel
theorem dL_act_122 : decode cL_act 122 = .ok (.iand, 1) := by decide +kernel
theorem dL_act_123 : decode cL_act 123 = .ok (.iconst 1, 1) := by decide +kernel
theorem dL_act_124 : decode cL_act 124 = .ok (.if_icmp .ne 7, 3) := by decide +kernel
theorem dL_act_127 : decode cL_act 127 = .ok (.iconst 1, 1) := by decide +kernel
theorem dL_act_128 : decode cL_act 128 = .ok (.goto 4, 3) := by decide +kernel
theorem dL_act_131 : decode cL_act 131 = .ok (.iconst 0, 1) := by decide +kernel
theorem dL_act_132 : decode cL_act 132 = .ok (.istore 8, 2) := by decide +kernel
theorem dL_act_134 : decode cL_act 134 = .ok (.iload_n 1, 1) := by decide +kernel
theorem dL_act_135 : decode cL_act 135 = .ok (.bipush 32, 2) := by decide +kernel
theorem dL_act_137 : decode cL_act 137 = .ok (.invokestatic 84, 3) := by decide +kernel
theorem dL_act_140 : decode cL_act 140 = .ok (.tableswitch 490 0 30 #[140, 140, 140, 140, 140, 181, 188, 212, 212, 237, 237, 260, 269, 269, 269, 269, 293, 293, 293, 315, 333, 361, 368, 368, 392, 416, 423, 443, 448, 455, 455], 140) := by decide +kernel
theorem dL_act_280 : decode cL_act 280 = .ok (.aload_n 0, 1) := by decide +kernel
theorem dL_act_281 : decode cL_act 281 = .ok (.iload 4, 2) := by decide +kernel
theorem dL_act_283 : decode cL_act 283 = .ok (.iload 5, 2) := by decide +kernel
theorem dL_act_285 : decode cL_act 285 = .ok (.iload_n 3, 1) := by decide +kernel
theorem dL_act_286 : decode cL_act 286 = .ok (.ifCond .eq 8, 3) := by decide +kernel
theorem dL_act_289 : decode cL_act 289 = .ok (.iload 7, 2) := by decide +kernel
theorem dL_act_291 : decode cL_act 291 = .ok (.goto 13, 3) := by decide +kernel
theorem dL_act_294 : decode cL_act 294 = .ok (.iconst 1, 1) := by decide +kernel
theorem dL_act_295 : decode cL_act 295 = .ok (.iload_n 1, 1) := by decide +kernel
theorem dL_act_296 : decode cL_act 296 = .ok (.bipush 6, 2) := by decide +kernel
theorem dL_act_298 : decode cL_act 298 = .ok (.ishr, 1) := by decide +kernel
theorem dL_act_299 : decode cL_act 299 = .ok (.iconst 3, 1) := by decide +kernel
theorem dL_act_300 : decode cL_act 300 = .ok (.invokestatic 84, 3) := by decide +kernel
theorem dL_act_303 : decode cL_act 303 = .ok (.iadd, 1) := by decide +kernel
theorem dL_act_304 : decode cL_act 304 = .ok (.iload_n 3, 1) := by decide +kernel
theorem dL_act_305 : decode cL_act 305 = .ok (.ifCond .eq 8, 3) := by decide +kernel
theorem dL_act_308 : decode cL_act 308 = .ok (.iload 6, 2) := by decide +kernel
theorem dL_act_310 : decode cL_act 310 = .ok (.goto 7, 3) := by decide +kernel
theorem dL_act_313 : decode cL_act 313 = .ok (.iconst 1, 1) := by decide +kernel
theorem dL_act_314 : decode cL_act 314 = .ok (.iload 6, 2) := by decide +kernel
theorem dL_act_316 : decode cL_act 316 = .ok (.iadd, 1) := by decide +kernel
theorem dL_act_317 : decode cL_act 317 = .ok (.invokestatic 89, 3) := by decide +kernel
theorem dL_act_320 : decode cL_act 320 = .ok (.lreturn, 1) := by decide +kernel
theorem dL_act_321 : decode cL_act 321 = .ok (.aload_n 0, 1) := by decide +kernel
theorem dL_act_322 : decode cL_act 322 = .ok (.iload 5, 2) := by decide +kernel
theorem dL_act_324 : decode cL_act 324 = .ok (.invokestatic 92, 3) := by decide +kernel
theorem dL_act_327 : decode cL_act 327 = .ok (.lreturn, 1) := by decide +kernel
theorem dL_act_328 : decode cL_act 328 = .ok (.aload_n 0, 1) := by decide +kernel
theorem dL_act_329 : decode cL_act 329 = .ok (.iload 4, 2) := by decide +kernel
theorem dL_act_331 : decode cL_act 331 = .ok (.iload_n 3, 1) := by decide +kernel
theorem dL_act_332 : decode cL_act 332 = .ok (.ifCond .eq 8, 3) := by decide +kernel
theorem dL_act_335 : decode cL_act 335 = .ok (.iload 6, 2) := by decide +kernel
theorem dL_act_337 : decode cL_act 337 = .ok (.goto 11, 3) := by decide +kernel
theorem dL_act_340 : decode cL_act 340 = .ok (.iload_n 1, 1) := by decide +kernel
theorem dL_act_341 : decode cL_act 341 = .ok (.bipush 9, 2) := by decide +kernel
theorem dL_act_343 : decode cL_act 343 = .ok (.ishr, 1) := by decide +kernel
theorem dL_act_344 : decode cL_act 344 = .ok (.iconst 4, 1) := by decide +kernel
theorem dL_act_345 : decode cL_act 345 = .ok (.invokestatic 84, 3) := by decide +kernel
theorem dL_act_348 : decode cL_act 348 = .ok (.invokestatic 95, 3) := by decide +kernel
theorem dL_act_351 : decode cL_act 351 = .ok (.lreturn, 1) := by decide +kernel
theorem dL_act_352 : decode cL_act 352 = .ok (.aload_n 0, 1) := by decide +kernel
theorem dL_act_353 : decode cL_act 353 = .ok (.iload_n 3, 1) := by decide +kernel
theorem dL_act_354 : decode cL_act 354 = .ok (.ifCond .eq 8, 3) := by decide +kernel
theorem dL_act_357 : decode cL_act 357 = .ok (.iload 6, 2) := by decide +kernel
theorem dL_act_359 : decode cL_act 359 = .ok (.goto 12, 3) := by decide +kernel
theorem dL_act_362 : decode cL_act 362 = .ok (.iload_n 1, 1) := by decide +kernel
theorem dL_act_363 : decode cL_act 363 = .ok (.bipush 9, 2) := by decide +kernel
theorem dL_act_365 : decode cL_act 365 = .ok (.ishr, 1) := by decide +kernel
theorem dL_act_366 : decode cL_act 366 = .ok (.bipush 6, 2) := by decide +kernel
theorem dL_act_368 : decode cL_act 368 = .ok (.invokestatic 84, 3) := by decide +kernel
theorem dL_act_371 : decode cL_act 371 = .ok (.iload 8, 2) := by decide +kernel
theorem dL_act_373 : decode cL_act 373 = .ok (.invokestatic 98, 3) := by decide +kernel
theorem dL_act_376 : decode cL_act 376 = .ok (.lreturn, 1) := by decide +kernel
theorem dL_act_377 : decode cL_act 377 = .ok (.aload_n 0, 1) := by decide +kernel
theorem dL_act_378 : decode cL_act 378 = .ok (.iload 4, 2) := by decide +kernel
theorem dL_act_380 : decode cL_act 380 = .ok (.iload_n 1, 1) := by decide +kernel
theorem dL_act_381 : decode cL_act 381 = .ok (.bipush 16, 2) := by decide +kernel
theorem dL_act_383 : decode cL_act 383 = .ok (.ishr, 1) := by decide +kernel
theorem dL_act_384 : decode cL_act 384 = .ok (.iconst 4, 1) := by decide +kernel
theorem dL_act_385 : decode cL_act 385 = .ok (.invokestatic 84, 3) := by decide +kernel
theorem dL_act_388 : decode cL_act 388 = .ok (.ifCond .le 7, 3) := by decide +kernel
theorem dL_act_391 : decode cL_act 391 = .ok (.iconst 1, 1) := by decide +kernel
theorem dL_act_392 : decode cL_act 392 = .ok (.goto 4, 3) := by decide +kernel
theorem dL_act_395 : decode cL_act 395 = .ok (.iconst 0, 1) := by decide +kernel
theorem dL_act_396 : decode cL_act 396 = .ok (.invokestatic 101, 3) := by decide +kernel
theorem dL_act_399 : decode cL_act 399 = .ok (.lreturn, 1) := by decide +kernel
theorem dL_act_400 : decode cL_act 400 = .ok (.aload_n 0, 1) := by decide +kernel
theorem dL_act_401 : decode cL_act 401 = .ok (.iload 4, 2) := by decide +kernel
theorem dL_act_403 : decode cL_act 403 = .ok (.iload 8, 2) := by decide +kernel
theorem dL_act_405 : decode cL_act 405 = .ok (.invokestatic 103, 3) := by decide +kernel
theorem dL_act_408 : decode cL_act 408 = .ok (.lreturn, 1) := by decide +kernel
theorem dL_act_409 : decode cL_act 409 = .ok (.aload_n 0, 1) := by decide +kernel
theorem dL_act_410 : decode cL_act 410 = .ok (.iload_n 3, 1) := by decide +kernel
theorem dL_act_411 : decode cL_act 411 = .ok (.ifCond .eq 8, 3) := by decide +kernel
theorem dL_act_414 : decode cL_act 414 = .ok (.iload 6, 2) := by decide +kernel
theorem dL_act_416 : decode cL_act 416 = .ok (.goto 13, 3) := by decide +kernel
theorem dL_act_419 : decode cL_act 419 = .ok (.iconst 1, 1) := by decide +kernel
theorem dL_act_420 : decode cL_act 420 = .ok (.iload_n 1, 1) := by decide +kernel
theorem dL_act_421 : decode cL_act 421 = .ok (.bipush 9, 2) := by decide +kernel
theorem dL_act_423 : decode cL_act 423 = .ok (.ishr, 1) := by decide +kernel
theorem dL_act_424 : decode cL_act 424 = .ok (.iconst 2, 1) := by decide +kernel
theorem dL_act_425 : decode cL_act 425 = .ok (.invokestatic 84, 3) := by decide +kernel
theorem dL_act_428 : decode cL_act 428 = .ok (.iadd, 1) := by decide +kernel
theorem dL_act_429 : decode cL_act 429 = .ok (.invokestatic 105, 3) := by decide +kernel
theorem dL_act_432 : decode cL_act 432 = .ok (.lreturn, 1) := by decide +kernel
theorem dL_act_433 : decode cL_act 433 = .ok (.aload_n 0, 1) := by decide +kernel
theorem dL_act_434 : decode cL_act 434 = .ok (.iload_n 3, 1) := by decide +kernel
theorem dL_act_435 : decode cL_act 435 = .ok (.ifCond .eq 8, 3) := by decide +kernel
theorem dL_act_438 : decode cL_act 438 = .ok (.iload 7, 2) := by decide +kernel
theorem dL_act_440 : decode cL_act 440 = .ok (.goto 11, 3) := by decide +kernel
theorem dL_act_443 : decode cL_act 443 = .ok (.iload_n 1, 1) := by decide +kernel
theorem dL_act_444 : decode cL_act 444 = .ok (.bipush 6, 2) := by decide +kernel
theorem dL_act_446 : decode cL_act 446 = .ok (.ishr, 1) := by decide +kernel
theorem dL_act_447 : decode cL_act 447 = .ok (.iconst 4, 1) := by decide +kernel
theorem dL_act_448 : decode cL_act 448 = .ok (.invokestatic 84, 3) := by decide +kernel
theorem dL_act_451 : decode cL_act 451 = .ok (.invokestatic 107, 3) := by decide +kernel
theorem dL_act_454 : decode cL_act 454 = .ok (.lreturn, 1) := by decide +kernel
theorem dL_act_455 : decode cL_act 455 = .ok (.aload_n 0, 1) := by decide +kernel
theorem dL_act_456 : decode cL_act 456 = .ok (.iload_n 3, 1) := by decide +kernel
theorem dL_act_457 : decode cL_act 457 = .ok (.ifCond .eq 8, 3) := by decide +kernel
theorem dL_act_460 : decode cL_act 460 = .ok (.iload 6, 2) := by decide +kernel
theorem dL_act_462 : decode cL_act 462 = .ok (.goto 7, 3) := by decide +kernel
theorem dL_act_465 : decode cL_act 465 = .ok (.iconst 1, 1) := by decide +kernel
theorem dL_act_466 : decode cL_act 466 = .ok (.iload 6, 2) := by decide +kernel
theorem dL_act_468 : decode cL_act 468 = .ok (.iadd, 1) := by decide +kernel
theorem dL_act_469 : decode cL_act 469 = .ok (.invokestatic 109, 3) := by decide +kernel
theorem dL_act_472 : decode cL_act 472 = .ok (.lreturn, 1) := by decide +kernel
theorem dL_act_473 : decode cL_act 473 = .ok (.aload_n 0, 1) := by decide +kernel
theorem dL_act_474 : decode cL_act 474 = .ok (.iload 4, 2) := by decide +kernel
theorem dL_act_476 : decode cL_act 476 = .ok (.iload 5, 2) := by decide +kernel
theorem dL_act_478 : decode cL_act 478 = .ok (.iload_n 3, 1) := by decide +kernel
theorem dL_act_479 : decode cL_act 479 = .ok (.ifCond .eq 8, 3) := by decide +kernel
theorem dL_act_482 : decode cL_act 482 = .ok (.iload 7, 2) := by decide +kernel
theorem dL_act_484 : decode cL_act 484 = .ok (.goto 13, 3) := by decide +kernel
theorem dL_act_487 : decode cL_act 487 = .ok (.iconst 1, 1) := by decide +kernel
theorem dL_act_488 : decode cL_act 488 = .ok (.iload_n 1, 1) := by decide +kernel
theorem dL_act_489 : decode cL_act 489 = .ok (.bipush 6, 2) := by decide +kernel
theorem dL_act_491 : decode cL_act 491 = .ok (.ishr, 1) := by decide +kernel
theorem dL_act_492 : decode cL_act 492 = .ok (.iconst 3, 1) := by decide +kernel
theorem dL_act_493 : decode cL_act 493 = .ok (.invokestatic 84, 3) := by decide +kernel
theorem dL_act_496 : decode cL_act 496 = .ok (.iadd, 1) := by decide +kernel
theorem dL_act_497 : decode cL_act 497 = .ok (.invokestatic 111, 3) := by decide +kernel
theorem dL_act_500 : decode cL_act 500 = .ok (.lreturn, 1) := by decide +kernel
theorem dL_act_501 : decode cL_act 501 = .ok (.aload_n 0, 1) := by decide +kernel
theorem dL_act_502 : decode cL_act 502 = .ok (.iload 5, 2) := by decide +kernel
theorem dL_act_504 : decode cL_act 504 = .ok (.invokestatic 114, 3) := by decide +kernel
theorem dL_act_507 : decode cL_act 507 = .ok (.lreturn, 1) := by decide +kernel
theorem dL_act_508 : decode cL_act 508 = .ok (.aload_n 0, 1) := by decide +kernel
theorem dL_act_509 : decode cL_act 509 = .ok (.iload 4, 2) := by decide +kernel
theorem dL_act_511 : decode cL_act 511 = .ok (.iload_n 3, 1) := by decide +kernel
theorem dL_act_512 : decode cL_act 512 = .ok (.ifCond .eq 8, 3) := by decide +kernel
theorem dL_act_515 : decode cL_act 515 = .ok (.iload 7, 2) := by decide +kernel
theorem dL_act_517 : decode cL_act 517 = .ok (.goto 11, 3) := by decide +kernel
theorem dL_act_520 : decode cL_act 520 = .ok (.iload_n 1, 1) := by decide +kernel
theorem dL_act_521 : decode cL_act 521 = .ok (.bipush 6, 2) := by decide +kernel
theorem dL_act_523 : decode cL_act 523 = .ok (.ishr, 1) := by decide +kernel
theorem dL_act_524 : decode cL_act 524 = .ok (.iconst 4, 1) := by decide +kernel
theorem dL_act_525 : decode cL_act 525 = .ok (.invokestatic 84, 3) := by decide +kernel
theorem dL_act_528 : decode cL_act 528 = .ok (.invokestatic 116, 3) := by decide +kernel
theorem dL_act_531 : decode cL_act 531 = .ok (.lreturn, 1) := by decide +kernel
theorem dL_act_532 : decode cL_act 532 = .ok (.aload_n 0, 1) := by decide +kernel
theorem dL_act_533 : decode cL_act 533 = .ok (.iload 4, 2) := by decide +kernel
theorem dL_act_535 : decode cL_act 535 = .ok (.iload_n 3, 1) := by decide +kernel
theorem dL_act_536 : decode cL_act 536 = .ok (.ifCond .eq 8, 3) := by decide +kernel
theorem dL_act_539 : decode cL_act 539 = .ok (.iload 7, 2) := by decide +kernel
theorem dL_act_541 : decode cL_act 541 = .ok (.goto 11, 3) := by decide +kernel
theorem dL_act_544 : decode cL_act 544 = .ok (.iload_n 1, 1) := by decide +kernel
theorem dL_act_545 : decode cL_act 545 = .ok (.bipush 6, 2) := by decide +kernel
theorem dL_act_547 : decode cL_act 547 = .ok (.ishr, 1) := by decide +kernel
theorem dL_act_548 : decode cL_act 548 = .ok (.iconst 4, 1) := by decide +kernel
theorem dL_act_549 : decode cL_act 549 = .ok (.invokestatic 84, 3) := by decide +kernel
theorem dL_act_552 : decode cL_act 552 = .ok (.invokestatic 118, 3) := by decide +kernel
theorem dL_act_555 : decode cL_act 555 = .ok (.lreturn, 1) := by decide +kernel
theorem dL_act_556 : decode cL_act 556 = .ok (.aload_n 0, 1) := by decide +kernel
theorem dL_act_557 : decode cL_act 557 = .ok (.iload 4, 2) := by decide +kernel
theorem dL_act_559 : decode cL_act 559 = .ok (.invokestatic 120, 3) := by decide +kernel
theorem dL_act_562 : decode cL_act 562 = .ok (.lreturn, 1) := by decide +kernel
theorem dL_act_563 : decode cL_act 563 = .ok (.aload_n 0, 1) := by decide +kernel
theorem dL_act_564 : decode cL_act 564 = .ok (.iload 4, 2) := by decide +kernel
theorem dL_act_566 : decode cL_act 566 = .ok (.iload_n 3, 1) := by decide +kernel
theorem dL_act_567 : decode cL_act 567 = .ok (.ifCond .eq 8, 3) := by decide +kernel
theorem dL_act_570 : decode cL_act 570 = .ok (.iload 6, 2) := by decide +kernel
theorem dL_act_572 : decode cL_act 572 = .ok (.goto 7, 3) := by decide +kernel
theorem dL_act_575 : decode cL_act 575 = .ok (.iconst 1, 1) := by decide +kernel
theorem dL_act_576 : decode cL_act 576 = .ok (.iload 6, 2) := by decide +kernel
theorem dL_act_578 : decode cL_act 578 = .ok (.iadd, 1) := by decide +kernel
theorem dL_act_579 : decode cL_act 579 = .ok (.invokestatic 122, 3) := by decide +kernel
theorem dL_act_582 : decode cL_act 582 = .ok (.lreturn, 1) := by decide +kernel
theorem dL_act_583 : decode cL_act 583 = .ok (.aload_n 0, 1) := by decide +kernel
theorem dL_act_584 : decode cL_act 584 = .ok (.invokestatic 124, 3) := by decide +kernel
theorem dL_act_587 : decode cL_act 587 = .ok (.lreturn, 1) := by decide +kernel
theorem dL_act_588 : decode cL_act 588 = .ok (.aload_n 0, 1) := by decide +kernel
theorem dL_act_589 : decode cL_act 589 = .ok (.iload 4, 2) := by decide +kernel
theorem dL_act_591 : decode cL_act 591 = .ok (.invokestatic 127, 3) := by decide +kernel
theorem dL_act_594 : decode cL_act 594 = .ok (.lreturn, 1) := by decide +kernel
theorem dL_act_595 : decode cL_act 595 = .ok (.iload_n 2, 1) := by decide +kernel
theorem dL_act_596 : decode cL_act 596 = .ok (.bipush 9, 2) := by decide +kernel
theorem dL_act_598 : decode cL_act 598 = .ok (.irem, 1) := by decide +kernel
theorem dL_act_599 : decode cL_act 599 = .ok (.ifCond .ne 24, 3) := by decide +kernel
theorem dL_act_602 : decode cL_act 602 = .ok (.iload 4, 2) := by decide +kernel
theorem dL_act_604 : decode cL_act 604 = .ok (.ifCond .lt 19, 3) := by decide +kernel
theorem dL_act_607 : decode cL_act 607 = .ok (.iload 4, 2) := by decide +kernel
theorem dL_act_609 : decode cL_act 609 = .ok (.bipush 20, 2) := by decide +kernel
theorem dL_act_611 : decode cL_act 611 = .ok (.if_icmp .ge 12, 3) := by decide +kernel
theorem dL_act_614 : decode cL_act 614 = .ok (.aload_n 0, 1) := by decide +kernel
theorem dL_act_615 : decode cL_act 615 = .ok (.iload 4, 2) := by decide +kernel
theorem dL_act_617 : decode cL_act 617 = .ok (.invokevirtual 129, 3) := by decide +kernel
theorem dL_act_620 : decode cL_act 620 = .ok (.goto 9, 3) := by decide +kernel
theorem dL_act_623 : decode cL_act 623 = .ok (.aload_n 0, 1) := by decide +kernel
theorem dL_act_624 : decode cL_act 624 = .ok (.iload 4, 2) := by decide +kernel
theorem dL_act_626 : decode cL_act 626 = .ok (.invokestatic 132, 3) := by decide +kernel
theorem dL_act_629 : decode cL_act 629 = .ok (.lreturn, 1) := by decide +kernel
theorem dL_act_630 : decode cL_act 630 = .ok (.aload_n 0, 1) := by decide +kernel
theorem dL_act_631 : decode cL_act 631 = .ok (.iload_n 3, 1) := by decide +kernel
theorem dL_act_632 : decode cL_act 632 = .ok (.ifCond .eq 8, 3) := by decide +kernel
theorem dL_act_635 : decode cL_act 635 = .ok (.iload 6, 2) := by decide +kernel
theorem dL_act_637 : decode cL_act 637 = .ok (.goto 11, 3) := by decide +kernel
theorem dL_act_640 : decode cL_act 640 = .ok (.iload_n 1, 1) := by decide +kernel
theorem dL_act_641 : decode cL_act 641 = .ok (.bipush 9, 2) := by decide +kernel
theorem dL_act_643 : decode cL_act 643 = .ok (.ishr, 1) := by decide +kernel
theorem dL_act_644 : decode cL_act 644 = .ok (.iconst 4, 1) := by decide +kernel
theorem dL_act_645 : decode cL_act 645 = .ok (.invokestatic 84, 3) := by decide +kernel
theorem dL_act_648 : decode cL_act 648 = .ok (.invokestatic 134, 3) := by decide +kernel
theorem dL_act_651 : decode cL_act 651 = .ok (.lreturn, 1) := by decide +kernel
theorem dL_areAlike_0 : decode cL_areAlike 0 = .ok (.aload_n 0, 1) := by decide +kernel
theorem dL_areAlike_1 : decode cL_areAlike 1 = .ok (.iload_n 2, 1) := by decide +kernel
theorem dL_areAlike_2 : decode cL_areAlike 2 = .ok (.iconst 4, 1) := by decide +kernel
theorem dL_areAlike_3 : decode cL_areAlike 3 = .ok (.invokestatic 84, 3) := by decide +kernel
theorem dL_areAlike_6 : decode cL_areAlike 6 = .ok (.invokestatic 134, 3) := by decide +kernel
theorem dL_areAlike_9 : decode cL_areAlike 9 = .ok (.aload_n 1, 1) := by decide +kernel
theorem dL_areAlike_10 : decode cL_areAlike 10 = .ok (.iload_n 2, 1) := by decide +kernel
theorem dL_areAlike_11 : decode cL_areAlike 11 = .ok (.iconst 4, 1) := by decide +kernel
theorem dL_areAlike_12 : decode cL_areAlike 12 = .ok (.invokestatic 84, 3) := by decide +kernel
theorem dL_areAlike_15 : decode cL_areAlike 15 = .ok (.invokestatic 134, 3) := by decide +kernel
theorem dL_areAlike_18 : decode cL_areAlike 18 = .ok (.lcmp, 1) := by decide +kernel
theorem dL_areAlike_19 : decode cL_areAlike 19 = .ok (.ifCond .ne 19, 3) := by decide +kernel
theorem dL_areAlike_22 : decode cL_areAlike 22 = .ok (.aload_n 0, 1) := by decide +kernel
theorem dL_areAlike_23 : decode cL_areAlike 23 = .ok (.invokestatic 124, 3) := by decide +kernel
theorem dL_areAlike_26 : decode cL_areAlike 26 = .ok (.aload_n 1, 1) := by decide +kernel
theorem dL_areAlike_27 : decode cL_areAlike 27 = .ok (.invokestatic 124, 3) := by decide +kernel
theorem dL_areAlike_30 : decode cL_areAlike 30 = .ok (.lcmp, 1) := by decide +kernel
theorem dL_areAlike_31 : decode cL_areAlike 31 = .ok (.ifCond .ne 7, 3) := by decide +kernel
theorem dL_areAlike_34 : decode cL_areAlike 34 = .ok (.iconst 1, 1) := by decide +kernel
theorem dL_areAlike_35 : decode cL_areAlike 35 = .ok (.goto 4, 3) := by decide +kernel
theorem dL_areAlike_38 : decode cL_areAlike 38 = .ok (.iconst 0, 1) := by decide +kernel
theorem dL_areAlike_39 : decode cL_areAlike 39 = .ok (.istore_n 3, 1) := by decide +kernel
theorem dL_areAlike_40 : decode cL_areAlike 40 = .ok (.iconst 0, 1) := by decide +kernel
theorem dL_areAlike_41 : decode cL_areAlike 41 = .ok (.istore 4, 2) := by decide +kernel
theorem dL_areAlike_43 : decode cL_areAlike 43 = .ok (.iload 4, 2) := by decide +kernel
theorem dL_areAlike_45 : decode cL_areAlike 45 = .ok (.bipush 20, 2) := by decide +kernel
theorem dL_areAlike_47 : decode cL_areAlike 47 = .ok (.if_icmp .ge 135, 3) := by decide +kernel
theorem dL_areAlike_50 : decode cL_areAlike 50 = .ok (.iload_n 3, 1) := by decide +kernel
theorem dL_areAlike_51 : decode cL_areAlike 51 = .ok (.ifCond .eq 131, 3) := by decide +kernel
theorem dL_areAlike_54 : decode cL_areAlike 54 = .ok (.aload_n 0, 1) := by decide +kernel
theorem dL_areAlike_55 : decode cL_areAlike 55 = .ok (.iload 4, 2) := by decide +kernel
theorem dL_areAlike_57 : decode cL_areAlike 57 = .ok (.invokestatic 132, 3) := by decide +kernel
theorem dL_areAlike_60 : decode cL_areAlike 60 = .ok (.aload_n 1, 1) := by decide +kernel
theorem dL_areAlike_61 : decode cL_areAlike 61 = .ok (.iload 4, 2) := by decide +kernel
theorem dL_areAlike_63 : decode cL_areAlike 63 = .ok (.invokestatic 132, 3) := by decide +kernel
theorem dL_areAlike_66 : decode cL_areAlike 66 = .ok (.lcmp, 1) := by decide +kernel
theorem dL_areAlike_67 : decode cL_areAlike 67 = .ok (.ifCond .ne 107, 3) := by decide +kernel
theorem dL_areAlike_70 : decode cL_areAlike 70 = .ok (.aload_n 0, 1) := by decide +kernel
theorem dL_areAlike_71 : decode cL_areAlike 71 = .ok (.iload 4, 2) := by decide +kernel
theorem dL_areAlike_73 : decode cL_areAlike 73 = .ok (.invokestatic 120, 3) := by decide +kernel
theorem dL_areAlike_76 : decode cL_areAlike 76 = .ok (.aload_n 1, 1) := by decide +kernel
theorem dL_areAlike_77 : decode cL_areAlike 77 = .ok (.iload 4, 2) := by decide +kernel
theorem dL_areAlike_79 : decode cL_areAlike 79 = .ok (.invokestatic 120, 3) := by decide +kernel
theorem dL_areAlike_82 : decode cL_areAlike 82 = .ok (.lcmp, 1) := by decide +kernel
theorem dL_areAlike_83 : decode cL_areAlike 83 = .ok (.ifCond .ne 91, 3) := by decide +kernel
theorem dL_areAlike_86 : decode cL_areAlike 86 = .ok (.aload_n 0, 1) := by decide +kernel
theorem dL_areAlike_87 : decode cL_areAlike 87 = .ok (.iload 4, 2) := by decide +kernel
theorem dL_areAlike_89 : decode cL_areAlike 89 = .ok (.iload_n 2, 1) := by decide +kernel
theorem dL_areAlike_90 : decode cL_areAlike 90 = .ok (.iconst 4, 1) := by decide +kernel
theorem dL_areAlike_91 : decode cL_areAlike 91 = .ok (.invokestatic 84, 3) := by decide +kernel
theorem dL_areAlike_94 : decode cL_areAlike 94 = .ok (.invokestatic 116, 3) := by decide +kernel
theorem dL_areAlike_97 : decode cL_areAlike 97 = .ok (.aload_n 1, 1) := by decide +kernel
theorem dL_areAlike_98 : decode cL_areAlike 98 = .ok (.iload 4, 2) := by decide +kernel
theorem dL_areAlike_100 : decode cL_areAlike 100 = .ok (.iload_n 2, 1) := by decide +kernel
theorem dL_areAlike_101 : decode cL_areAlike 101 = .ok (.iconst 4, 1) := by decide +kernel
theorem dL_areAlike_102 : decode cL_areAlike 102 = .ok (.invokestatic 84, 3) := by decide +kernel
theorem dL_areAlike_105 : decode cL_areAlike 105 = .ok (.invokestatic 116, 3) := by decide +kernel
theorem dL_areAlike_108 : decode cL_areAlike 108 = .ok (.lcmp, 1) := by decide +kernel
theorem dL_areAlike_109 : decode cL_areAlike 109 = .ok (.ifCond .ne 65, 3) := by decide +kernel
theorem dL_areAlike_112 : decode cL_areAlike 112 = .ok (.aload_n 0, 1) := by decide +kernel
theorem dL_areAlike_113 : decode cL_areAlike 113 = .ok (.iload 4, 2) := by decide +kernel
theorem dL_areAlike_115 : decode cL_areAlike 115 = .ok (.invokestatic 127, 3) := by decide +kernel
theorem dL_areAlike_118 : decode cL_areAlike 118 = .ok (.aload_n 1, 1) := by decide +kernel
theorem dL_areAlike_119 : decode cL_areAlike 119 = .ok (.iload 4, 2) := by decide +kernel
theorem dL_areAlike_121 : decode cL_areAlike 121 = .ok (.invokestatic 127, 3) := by decide +kernel
theorem dL_areAlike_124 : decode cL_areAlike 124 = .ok (.lcmp, 1) := by decide +kernel
theorem dL_areAlike_125 : decode cL_areAlike 125 = .ok (.ifCond .ne 49, 3) := by decide +kernel
theorem dL_areAlike_128 : decode cL_areAlike 128 = .ok (.aload_n 0, 1) := by decide +kernel
theorem dL_areAlike_129 : decode cL_areAlike 129 = .ok (.iload 4, 2) := by decide +kernel
theorem dL_areAlike_131 : decode cL_areAlike 131 = .ok (.iload_n 2, 1) := by decide +kernel
theorem dL_areAlike_132 : decode cL_areAlike 132 = .ok (.bipush 10, 2) := by decide +kernel
theorem dL_areAlike_134 : decode cL_areAlike 134 = .ok (.invokestatic 84, 3) := by decide +kernel
theorem dL_areAlike_137 : decode cL_areAlike 137 = .ok (.iconst 1, 1) := by decide +kernel
theorem dL_areAlike_138 : decode cL_areAlike 138 = .ok (.iload_n 2, 1) := by decide +kernel
theorem dL_areAlike_139 : decode cL_areAlike 139 = .ok (.iconst 3, 1) := by decide +kernel
theorem dL_areAlike_140 : decode cL_areAlike 140 = .ok (.invokestatic 84, 3) := by decide +kernel
theorem dL_areAlike_143 : decode cL_areAlike 143 = .ok (.iadd, 1) := by decide +kernel
theorem dL_areAlike_144 : decode cL_areAlike 144 = .ok (.invokestatic 111, 3) := by decide +kernel
theorem dL_areAlike_147 : decode cL_areAlike 147 = .ok (.aload_n 1, 1) := by decide +kernel
theorem dL_areAlike_148 : decode cL_areAlike 148 = .ok (.iload 4, 2) := by decide +kernel
theorem dL_areAlike_150 : decode cL_areAlike 150 = .ok (.iload_n 2, 1) := by decide +kernel
theorem dL_areAlike_151 : decode cL_areAlike 151 = .ok (.bipush 10, 2) := by decide +kernel
theorem dL_areAlike_153 : decode cL_areAlike 153 = .ok (.invokestatic 84, 3) := by decide +kernel
theorem dL_areAlike_156 : decode cL_areAlike 156 = .ok (.iconst 1, 1) := by decide +kernel
theorem dL_areAlike_157 : decode cL_areAlike 157 = .ok (.iload_n 2, 1) := by decide +kernel
theorem dL_areAlike_158 : decode cL_areAlike 158 = .ok (.iconst 3, 1) := by decide +kernel
theorem dL_areAlike_159 : decode cL_areAlike 159 = .ok (.invokestatic 84, 3) := by decide +kernel
theorem dL_areAlike_162 : decode cL_areAlike 162 = .ok (.iadd, 1) := by decide +kernel
theorem dL_areAlike_163 : decode cL_areAlike 163 = .ok (.invokestatic 111, 3) := by decide +kernel
theorem dL_areAlike_166 : decode cL_areAlike 166 = .ok (.lcmp, 1) := by decide +kernel
theorem dL_areAlike_167 : decode cL_areAlike 167 = .ok (.ifCond .ne 7, 3) := by decide +kernel
theorem dL_areAlike_170 : decode cL_areAlike 170 = .ok (.iconst 1, 1) := by decide +kernel
theorem dL_areAlike_171 : decode cL_areAlike 171 = .ok (.goto 4, 3) := by decide +kernel
theorem dL_areAlike_174 : decode cL_areAlike 174 = .ok (.iconst 0, 1) := by decide +kernel
theorem dL_areAlike_175 : decode cL_areAlike 175 = .ok (.istore_n 3, 1) := by decide +kernel
theorem dL_areAlike_176 : decode cL_areAlike 176 = .ok (.iinc 4 1, 3) := by decide +kernel
theorem dL_areAlike_179 : decode cL_areAlike 179 = .ok (.goto (-136), 3) := by decide +kernel
theorem dL_areAlike_182 : decode cL_areAlike 182 = .ok (.iload_n 3, 1) := by decide +kernel
theorem dL_areAlike_183 : decode cL_areAlike 183 = .ok (.ireturn, 1) := by decide +kernel
theorem dL_isSo_0 : decode cL_isSo 0 = .ok (.lconst 0, 1) := by decide +kernel
theorem dL_isSo_1 : decode cL_isSo 1 = .ok (.lstore_n 2, 1) := by decide +kernel
theorem dL_isSo_2 : decode cL_isSo 2 = .ok (.lconst 0, 1) := by decide +kernel
theorem dL_isSo_3 : decode cL_isSo 3 = .ok (.lstore 4, 2) := by decide +kernel
theorem dL_isSo_5 : decode cL_isSo 5 = .ok (.iconst 0, 1) := by decide +kernel
theorem dL_isSo_6 : decode cL_isSo 6 = .ok (.istore 6, 2) := by decide +kernel
theorem dL_isSo_8 : decode cL_isSo 8 = .ok (.iload 6, 2) := by decide +kernel
theorem dL_isSo_10 : decode cL_isSo 10 = .ok (.bipush 20, 2) := by decide +kernel
theorem dL_isSo_12 : decode cL_isSo 12 = .ok (.if_icmp .ge 79, 3) := by decide +kernel
theorem dL_isSo_15 : decode cL_isSo 15 = .ok (.iconst 0, 1) := by decide +kernel
theorem dL_isSo_16 : decode cL_isSo 16 = .ok (.istore 7, 2) := by decide +kernel
theorem dL_isSo_18 : decode cL_isSo 18 = .ok (.iload 7, 2) := by decide +kernel
theorem dL_isSo_20 : decode cL_isSo 20 = .ok (.bipush 10, 2) := by decide +kernel
theorem dL_isSo_22 : decode cL_isSo 22 = .ok (.if_icmp .ge 52, 3) := by decide +kernel
theorem dL_isSo_25 : decode cL_isSo 25 = .ok (.lload_n 2, 1) := by decide +kernel
theorem dL_isSo_26 : decode cL_isSo 26 = .ok (.aload_n 0, 1) := by decide +kernel
theorem dL_isSo_27 : decode cL_isSo 27 = .ok (.iload 6, 2) := by decide +kernel
theorem dL_isSo_29 : decode cL_isSo 29 = .ok (.iload 7, 2) := by decide +kernel
theorem dL_isSo_31 : decode cL_isSo 31 = .ok (.iconst 1, 1) := by decide +kernel
theorem dL_isSo_32 : decode cL_isSo 32 = .ok (.invokevirtual 50, 3) := by decide +kernel
theorem dL_isSo_35 : decode cL_isSo 35 = .ok (.i2l, 1) := by decide +kernel
theorem dL_isSo_36 : decode cL_isSo 36 = .ok (.ldc2_w 136, 3) := by decide +kernel
theorem dL_isSo_39 : decode cL_isSo 39 = .ok (.aload_n 0, 1) := by decide +kernel
theorem dL_isSo_40 : decode cL_isSo 40 = .ok (.iload 6, 2) := by decide +kernel
theorem dL_isSo_42 : decode cL_isSo 42 = .ok (.iload 7, 2) := by decide +kernel
theorem dL_isSo_44 : decode cL_isSo 44 = .ok (.iconst 2, 1) := by decide +kernel
theorem dL_isSo_45 : decode cL_isSo 45 = .ok (.invokevirtual 50, 3) := by decide +kernel
theorem dL_isSo_48 : decode cL_isSo 48 = .ok (.i2l, 1) := by decide +kernel
theorem dL_isSo_49 : decode cL_isSo 49 = .ok (.lmul, 1) := by decide +kernel
theorem dL_isSo_50 : decode cL_isSo 50 = .ok (.ladd, 1) := by decide +kernel
theorem dL_isSo_51 : decode cL_isSo 51 = .ok (.ldc2_w 138, 3) := by decide +kernel
theorem dL_isSo_54 : decode cL_isSo 54 = .ok (.aload_n 0, 1) := by decide +kernel
theorem dL_isSo_55 : decode cL_isSo 55 = .ok (.iload 6, 2) := by decide +kernel
theorem dL_isSo_57 : decode cL_isSo 57 = .ok (.iload 7, 2) := by decide +kernel
theorem dL_isSo_59 : decode cL_isSo 59 = .ok (.iconst 3, 1) := by decide +kernel
theorem dL_isSo_60 : decode cL_isSo 60 = .ok (.invokevirtual 50, 3) := by decide +kernel
theorem dL_isSo_63 : decode cL_isSo 63 = .ok (.i2l, 1) := by decide +kernel
theorem dL_isSo_64 : decode cL_isSo 64 = .ok (.lmul, 1) := by decide +kernel
theorem dL_isSo_65 : decode cL_isSo 65 = .ok (.ladd, 1) := by decide +kernel
theorem dL_isSo_66 : decode cL_isSo 66 = .ok (.ladd, 1) := by decide +kernel
theorem dL_isSo_67 : decode cL_isSo 67 = .ok (.lstore_n 2, 1) := by decide +kernel
theorem dL_isSo_68 : decode cL_isSo 68 = .ok (.iinc 7 1, 3) := by decide +kernel
theorem dL_isSo_71 : decode cL_isSo 71 = .ok (.goto (-53), 3) := by decide +kernel
theorem dL_isSo_74 : decode cL_isSo 74 = .ok (.lload 4, 2) := by decide +kernel
theorem dL_isSo_76 : decode cL_isSo 76 = .ok (.aload_n 0, 1) := by decide +kernel
theorem dL_isSo_77 : decode cL_isSo 77 = .ok (.iload 6, 2) := by decide +kernel
theorem dL_isSo_79 : decode cL_isSo 79 = .ok (.invokevirtual 78, 3) := by decide +kernel
theorem dL_isSo_82 : decode cL_isSo 82 = .ok (.ladd, 1) := by decide +kernel
theorem dL_isSo_83 : decode cL_isSo 83 = .ok (.lstore 4, 2) := by decide +kernel
theorem dL_isSo_85 : decode cL_isSo 85 = .ok (.iinc 6 1, 3) := by decide +kernel
theorem dL_isSo_88 : decode cL_isSo 88 = .ok (.goto (-80), 3) := by decide +kernel
theorem dL_isSo_91 : decode cL_isSo 91 = .ok (.iload_n 1, 1) := by decide +kernel
theorem dL_isSo_92 : decode cL_isSo 92 = .ok (.bipush 20, 2) := by decide +kernel
theorem dL_isSo_94 : decode cL_isSo 94 = .ok (.invokestatic 84, 3) := by decide +kernel
theorem dL_isSo_97 : decode cL_isSo 97 = .ok (.istore 6, 2) := by decide +kernel
theorem dL_isSo_99 : decode cL_isSo 99 = .ok (.lload_n 2, 1) := by decide +kernel
theorem dL_isSo_100 : decode cL_isSo 100 = .ok (.aload_n 0, 1) := by decide +kernel
theorem dL_isSo_101 : decode cL_isSo 101 = .ok (.iconst 1, 1) := by decide +kernel
theorem dL_isSo_102 : decode cL_isSo 102 = .ok (.invokevirtual 81, 3) := by decide +kernel
theorem dL_isSo_105 : decode cL_isSo 105 = .ok (.lcmp, 1) := by decide +kernel
theorem dL_isSo_106 : decode cL_isSo 106 = .ok (.ifCond .ne 60, 3) := by decide +kernel
theorem dL_isSo_109 : decode cL_isSo 109 = .ok (.lload 4, 2) := by decide +kernel
theorem dL_isSo_111 : decode cL_isSo 111 = .ok (.aload_n 0, 1) := by decide +kernel
theorem dL_isSo_112 : decode cL_isSo 112 = .ok (.iconst 2, 1) := by decide +kernel
theorem dL_isSo_113 : decode cL_isSo 113 = .ok (.invokevirtual 81, 3) := by decide +kernel
theorem dL_isSo_116 : decode cL_isSo 116 = .ok (.lcmp, 1) := by decide +kernel
theorem dL_isSo_117 : decode cL_isSo 117 = .ok (.ifCond .ne 49, 3) := by decide +kernel
theorem dL_isSo_120 : decode cL_isSo 120 = .ok (.aload_n 0, 1) := by decide +kernel
theorem dL_isSo_121 : decode cL_isSo 121 = .ok (.iconst 0, 1) := by decide +kernel
theorem dL_isSo_122 : decode cL_isSo 122 = .ok (.invokevirtual 81, 3) := by decide +kernel
theorem dL_isSo_125 : decode cL_isSo 125 = .ok (.aload_n 0, 1) := by decide +kernel
theorem dL_isSo_126 : decode cL_isSo 126 = .ok (.iconst 1, 1) := by decide +kernel
theorem dL_isSo_127 : decode cL_isSo 127 = .ok (.invokevirtual 81, 3) := by decide +kernel
theorem dL_isSo_130 : decode cL_isSo 130 = .ok (.aload_n 0, 1) := by decide +kernel
theorem dL_isSo_131 : decode cL_isSo 131 = .ok (.iconst 2, 1) := by decide +kernel
theorem dL_isSo_132 : decode cL_isSo 132 = .ok (.invokevirtual 81, 3) := by decide +kernel
theorem dL_isSo_135 : decode cL_isSo 135 = .ok (.ladd, 1) := by decide +kernel
theorem dL_isSo_136 : decode cL_isSo 136 = .ok (.aload_n 0, 1) := by decide +kernel
theorem dL_isSo_137 : decode cL_isSo 137 = .ok (.iconst 3, 1) := by decide +kernel
theorem dL_isSo_138 : decode cL_isSo 138 = .ok (.invokevirtual 81, 3) := by decide +kernel
theorem dL_isSo_141 : decode cL_isSo 141 = .ok (.ladd, 1) := by decide +kernel
theorem dL_isSo_142 : decode cL_isSo 142 = .ok (.lcmp, 1) := by decide +kernel
theorem dL_isSo_143 : decode cL_isSo 143 = .ok (.ifCond .ne 23, 3) := by decide +kernel
theorem dL_isSo_146 : decode cL_isSo 146 = .ok (.aload_n 0, 1) := by decide +kernel
theorem dL_isSo_147 : decode cL_isSo 147 = .ok (.iload 6, 2) := by decide +kernel
theorem dL_isSo_149 : decode cL_isSo 149 = .ok (.invokevirtual 129, 3) := by decide +kernel
theorem dL_isSo_152 : decode cL_isSo 152 = .ok (.aload_n 0, 1) := by decide +kernel
theorem dL_isSo_153 : decode cL_isSo 153 = .ok (.iload 6, 2) := by decide +kernel
theorem dL_isSo_155 : decode cL_isSo 155 = .ok (.invokevirtual 78, 3) := by decide +kernel
theorem dL_isSo_158 : decode cL_isSo 158 = .ok (.lcmp, 1) := by decide +kernel
theorem dL_isSo_159 : decode cL_isSo 159 = .ok (.ifCond .ne 7, 3) := by decide +kernel
theorem dL_isSo_162 : decode cL_isSo 162 = .ok (.iconst 1, 1) := by decide +kernel
theorem dL_isSo_163 : decode cL_isSo 163 = .ok (.goto 4, 3) := by decide +kernel
theorem dL_isSo_166 : decode cL_isSo 166 = .ok (.iconst 0, 1) := by decide +kernel
theorem dL_isSo_167 : decode cL_isSo 167 = .ok (.istore 7, 2) := by decide +kernel
theorem dL_isSo_169 : decode cL_isSo 169 = .ok (.iconst 0, 1) := by decide +kernel
theorem dL_isSo_170 : decode cL_isSo 170 = .ok (.istore 8, 2) := by decide +kernel
theorem dL_isSo_172 : decode cL_isSo 172 = .ok (.iload 8, 2) := by decide +kernel
theorem dL_isSo_174 : decode cL_isSo 174 = .ok (.bipush 20, 2) := by decide +kernel
theorem dL_isSo_176 : decode cL_isSo 176 = .ok (.if_icmp .ge 143, 3) := by decide +kernel
theorem dL_isSo_179 : decode cL_isSo 179 = .ok (.iload 7, 2) := by decide +kernel
theorem dL_isSo_181 : decode cL_isSo 181 = .ok (.ifCond .eq 138, 3) := by decide +kernel
theorem dL_isSo_184 : decode cL_isSo 184 = .ok (.aload_n 0, 1) := by decide +kernel
theorem dL_isSo_185 : decode cL_isSo 185 = .ok (.iload 8, 2) := by decide +kernel
theorem dL_isSo_187 : decode cL_isSo 187 = .ok (.iload_n 1, 1) := by decide +kernel
theorem dL_isSo_188 : decode cL_isSo 188 = .ok (.iconst 4, 1) := by decide +kernel
theorem dL_isSo_189 : decode cL_isSo 189 = .ok (.invokestatic 84, 3) := by decide +kernel
theorem dL_isSo_192 : decode cL_isSo 192 = .ok (.invokevirtual 57, 3) := by decide +kernel
theorem dL_isSo_195 : decode cL_isSo 195 = .ok (.lstore 9, 2) := by decide +kernel
theorem dL_isSo_197 : decode cL_isSo 197 = .ok (.aload_n 0, 1) := by decide +kernel
theorem dL_isSo_198 : decode cL_isSo 198 = .ok (.iload 8, 2) := by decide +kernel
theorem dL_isSo_200 : decode cL_isSo 200 = .ok (.invokestatic 127, 3) := by decide +kernel
theorem dL_isSo_203 : decode cL_isSo 203 = .ok (.lconst 0, 1) := by decide +kernel
theorem dL_isSo_204 : decode cL_isSo 204 = .ok (.lcmp, 1) := by decide +kernel
theorem dL_isSo_205 : decode cL_isSo 205 = .ok (.ifCond .lt 19, 3) := by decide +kernel
theorem dL_isSo_208 : decode cL_isSo 208 = .ok (.aload_n 0, 1) := by decide +kernel
theorem dL_isSo_209 : decode cL_isSo 209 = .ok (.iload 8, 2) := by decide +kernel
theorem dL_isSo_211 : decode cL_isSo 211 = .ok (.invokestatic 127, 3) := by decide +kernel
theorem dL_isSo_214 : decode cL_isSo 214 = .ok (.aload_n 0, 1) := by decide +kernel
theorem dL_isSo_215 : decode cL_isSo 215 = .ok (.iload 8, 2) := by decide +kernel
theorem dL_isSo_217 : decode cL_isSo 217 = .ok (.invokevirtual 78, 3) := by decide +kernel
theorem dL_isSo_220 : decode cL_isSo 220 = .ok (.lcmp, 1) := by decide +kernel
theorem dL_isSo_221 : decode cL_isSo 221 = .ok (.ifCond .gt 89, 3) := by decide +kernel
theorem dL_isSo_224 : decode cL_isSo 224 = .ok (.lload 9, 2) := by decide +kernel
theorem dL_isSo_226 : decode cL_isSo 226 = .ok (.lconst 0, 1) := by decide +kernel
theorem dL_isSo_227 : decode cL_isSo 227 = .ok (.lcmp, 1) := by decide +kernel
theorem dL_isSo_228 : decode cL_isSo 228 = .ok (.ifCond .ge 30, 3) := by decide +kernel
theorem dL_isSo_231 : decode cL_isSo 231 = .ok (.iload 8, 2) := by decide +kernel
theorem dL_isSo_233 : decode cL_isSo 233 = .ok (.bipush 19, 2) := by decide +kernel
theorem dL_isSo_235 : decode cL_isSo 235 = .ok (.if_icmp .eq 23, 3) := by decide +kernel
theorem dL_isSo_238 : decode cL_isSo 238 = .ok (.aload_n 0, 1) := by decide +kernel
theorem dL_isSo_239 : decode cL_isSo 239 = .ok (.iload 8, 2) := by decide +kernel
theorem dL_isSo_241 : decode cL_isSo 241 = .ok (.iconst 1, 1) := by decide +kernel
theorem dL_isSo_242 : decode cL_isSo 242 = .ok (.iadd, 1) := by decide +kernel
theorem dL_isSo_243 : decode cL_isSo 243 = .ok (.iload_n 1, 1) := by decide +kernel
theorem dL_isSo_244 : decode cL_isSo 244 = .ok (.iconst 4, 1) := by decide +kernel
theorem dL_isSo_245 : decode cL_isSo 245 = .ok (.invokestatic 84, 3) := by decide +kernel
theorem dL_isSo_248 : decode cL_isSo 248 = .ok (.invokevirtual 57, 3) := by decide +kernel
theorem dL_isSo_251 : decode cL_isSo 251 = .ok (.ldc2_w 140, 3) := by decide +kernel
theorem dL_isSo_254 : decode cL_isSo 254 = .ok (.lcmp, 1) := by decide +kernel
theorem dL_isSo_255 : decode cL_isSo 255 = .ok (.ifCond .ne 55, 3) := by decide +kernel
theorem dL_isSo_258 : decode cL_isSo 258 = .ok (.lload 9, 2) := by decide +kernel
theorem dL_isSo_260 : decode cL_isSo 260 = .ok (.lconst 0, 1) := by decide +kernel
theorem dL_isSo_261 : decode cL_isSo 261 = .ok (.lcmp, 1) := by decide +kernel
theorem dL_isSo_262 : decode cL_isSo 262 = .ok (.ifCond .ne 19, 3) := by decide +kernel
theorem dL_isSo_265 : decode cL_isSo 265 = .ok (.aload_n 0, 1) := by decide +kernel
theorem dL_isSo_266 : decode cL_isSo 266 = .ok (.iload 8, 2) := by decide +kernel
theorem dL_isSo_268 : decode cL_isSo 268 = .ok (.iload_n 1, 1) := by decide +kernel
theorem dL_isSo_269 : decode cL_isSo 269 = .ok (.iconst 4, 1) := by decide +kernel
theorem dL_isSo_270 : decode cL_isSo 270 = .ok (.invokestatic 84, 3) := by decide +kernel
theorem dL_isSo_273 : decode cL_isSo 273 = .ok (.invokevirtual 61, 3) := by decide +kernel
theorem dL_isSo_276 : decode cL_isSo 276 = .ok (.lconst 0, 1) := by decide +kernel
theorem dL_isSo_277 : decode cL_isSo 277 = .ok (.lcmp, 1) := by decide +kernel
theorem dL_isSo_278 : decode cL_isSo 278 = .ok (.ifCond .ne 32, 3) := by decide +kernel
theorem dL_isSo_281 : decode cL_isSo 281 = .ok (.lload 9, 2) := by decide +kernel
theorem dL_isSo_283 : decode cL_isSo 283 = .ok (.lconst 0, 1) := by decide +kernel
theorem dL_isSo_284 : decode cL_isSo 284 = .ok (.lcmp, 1) := by decide +kernel
theorem dL_isSo_285 : decode cL_isSo 285 = .ok (.ifCond .ge 21, 3) := by decide +kernel
theorem dL_isSo_288 : decode cL_isSo 288 = .ok (.aload_n 0, 1) := by decide +kernel
theorem dL_isSo_289 : decode cL_isSo 289 = .ok (.iload 8, 2) := by decide +kernel
theorem dL_isSo_291 : decode cL_isSo 291 = .ok (.iload_n 1, 1) := by decide +kernel
theorem dL_isSo_292 : decode cL_isSo 292 = .ok (.iconst 4, 1) := by decide +kernel
theorem dL_isSo_293 : decode cL_isSo 293 = .ok (.invokestatic 84, 3) := by decide +kernel
theorem dL_isSo_296 : decode cL_isSo 296 = .ok (.invokevirtual 61, 3) := by decide +kernel
theorem dL_isSo_299 : decode cL_isSo 299 = .ok (.ldc2_w 140, 3) := by decide +kernel
theorem dL_isSo_302 : decode cL_isSo 302 = .ok (.lcmp, 1) := by decide +kernel
theorem dL_isSo_303 : decode cL_isSo 303 = .ok (.ifCond .ne 7, 3) := by decide +kernel
theorem dL_isSo_306 : decode cL_isSo 306 = .ok (.iconst 1, 1) := by decide +kernel
theorem dL_isSo_307 : decode cL_isSo 307 = .ok (.goto 4, 3) := by decide +kernel
theorem dL_isSo_310 : decode cL_isSo 310 = .ok (.iconst 0, 1) := by decide +kernel
theorem dL_isSo_311 : decode cL_isSo 311 = .ok (.istore 7, 2) := by decide +kernel
theorem dL_isSo_313 : decode cL_isSo 313 = .ok (.iinc 8 1, 3) := by decide +kernel
theorem dL_isSo_316 : decode cL_isSo 316 = .ok (.goto (-144), 3) := by decide +kernel
theorem dL_isSo_319 : decode cL_isSo 319 = .ok (.iload 7, 2) := by decide +kernel
theorem dL_isSo_321 : decode cL_isSo 321 = .ok (.ireturn, 1) := by decide +kernel
theorem dL_law_0 : decode cL_law 0 = .ok (.new 9, 3) := by decide +kernel
theorem dL_law_3 : decode cL_law 3 = .ok (.dup, 1) := by decide +kernel
theorem dL_law_4 : decode cL_law 4 = .ok (.invokespecial 142, 3) := by decide +kernel
theorem dL_law_7 : decode cL_law 7 = .ok (.astore_n 1, 1) := by decide +kernel
theorem dL_law_8 : decode cL_law 8 = .ok (.new 9, 3) := by decide +kernel
theorem dL_law_11 : decode cL_law 11 = .ok (.dup, 1) := by decide +kernel
theorem dL_law_12 : decode cL_law 12 = .ok (.invokespecial 142, 3) := by decide +kernel
theorem dL_law_15 : decode cL_law 15 = .ok (.astore_n 2, 1) := by decide +kernel
theorem dL_law_16 : decode cL_law 16 = .ok (.iconst 0, 1) := by decide +kernel
theorem dL_law_17 : decode cL_law 17 = .ok (.istore_n 3, 1) := by decide +kernel
theorem dL_law_18 : decode cL_law 18 = .ok (.iload_n 3, 1) := by decide +kernel
theorem dL_law_19 : decode cL_law 19 = .ok (.bipush 90, 2) := by decide +kernel
theorem dL_law_21 : decode cL_law 21 = .ok (.if_icmp .ge 70, 3) := by decide +kernel
theorem dL_law_24 : decode cL_law 24 = .ok (.aload_n 0, 1) := by decide +kernel
theorem dL_law_25 : decode cL_law 25 = .ok (.iload_n 3, 1) := by decide +kernel
theorem dL_law_26 : decode cL_law 26 = .ok (.invokestatic 143, 3) := by decide +kernel
theorem dL_law_29 : decode cL_law 29 = .ok (.istore 4, 2) := by decide +kernel
theorem dL_law_31 : decode cL_law 31 = .ok (.aload_n 1, 1) := by decide +kernel
theorem dL_law_32 : decode cL_law 32 = .ok (.iload 4, 2) := by decide +kernel
theorem dL_law_34 : decode cL_law 34 = .ok (.iload_n 3, 1) := by decide +kernel
theorem dL_law_35 : decode cL_law 35 = .ok (.invokestatic 147, 3) := by decide +kernel
theorem dL_law_38 : decode cL_law 38 = .ok (.lstore 5, 2) := by decide +kernel
theorem dL_law_40 : decode cL_law 40 = .ok (.lload 5, 2) := by decide +kernel
theorem dL_law_42 : decode cL_law 42 = .ok (.ldc2_w 16, 3) := by decide +kernel
theorem dL_law_45 : decode cL_law 45 = .ok (.lcmp, 1) := by decide +kernel
theorem dL_law_46 : decode cL_law 46 = .ok (.ifCond .eq 16, 3) := by decide +kernel
theorem dL_law_49 : decode cL_law 49 = .ok (.aload_n 2, 1) := by decide +kernel
theorem dL_law_50 : decode cL_law 50 = .ok (.iload 4, 2) := by decide +kernel
theorem dL_law_52 : decode cL_law 52 = .ok (.iload_n 3, 1) := by decide +kernel
theorem dL_law_53 : decode cL_law 53 = .ok (.invokestatic 147, 3) := by decide +kernel
theorem dL_law_56 : decode cL_law 56 = .ok (.lload 5, 2) := by decide +kernel
theorem dL_law_58 : decode cL_law 58 = .ok (.lcmp, 1) := by decide +kernel
theorem dL_law_59 : decode cL_law 59 = .ok (.ifCond .ne 24, 3) := by decide +kernel
theorem dL_law_62 : decode cL_law 62 = .ok (.iload_n 3, 1) := by decide +kernel
theorem dL_law_63 : decode cL_law 63 = .ok (.bipush 30, 2) := by decide +kernel
theorem dL_law_65 : decode cL_law 65 = .ok (.irem, 1) := by decide +kernel
theorem dL_law_66 : decode cL_law 66 = .ok (.bipush 29, 2) := by decide +kernel
theorem dL_law_68 : decode cL_law 68 = .ok (.if_icmp .ne 17, 3) := by decide +kernel
theorem dL_law_71 : decode cL_law 71 = .ok (.aload_n 1, 1) := by decide +kernel
theorem dL_law_72 : decode cL_law 72 = .ok (.aload_n 2, 1) := by decide +kernel
theorem dL_law_73 : decode cL_law 73 = .ok (.iload 4, 2) := by decide +kernel
theorem dL_law_75 : decode cL_law 75 = .ok (.iconst 3, 1) := by decide +kernel
theorem dL_law_76 : decode cL_law 76 = .ok (.ishr, 1) := by decide +kernel
theorem dL_law_77 : decode cL_law 77 = .ok (.invokestatic 150, 3) := by decide +kernel
theorem dL_law_80 : decode cL_law 80 = .ok (.ifCond .ne 5, 3) := by decide +kernel
theorem dL_law_83 : decode cL_law 83 = .ok (.iconst 0, 1) := by decide +kernel
theorem dL_law_84 : decode cL_law 84 = .ok (.ireturn, 1) := by decide +kernel
theorem dL_law_85 : decode cL_law 85 = .ok (.iinc 3 1, 3) := by decide +kernel
theorem dL_law_88 : decode cL_law 88 = .ok (.goto (-70), 3) := by decide +kernel
theorem dL_law_91 : decode cL_law 91 = .ok (.aload_n 1, 1) := by decide +kernel
theorem dL_law_92 : decode cL_law 92 = .ok (.aload_n 0, 1) := by decide +kernel
theorem dL_law_93 : decode cL_law 93 = .ok (.bipush 90, 2) := by decide +kernel
theorem dL_law_95 : decode cL_law 95 = .ok (.invokestatic 143, 3) := by decide +kernel
theorem dL_law_98 : decode cL_law 98 = .ok (.invokestatic 154, 3) := by decide +kernel
theorem dL_law_101 : decode cL_law 101 = .ok (.ireturn, 1) := by decide +kernel
abbrev vwCl : List vw_C := [(RX0, TX0, 1), (RX1, TX1, 3), (RX2, TX2, 2), (RX3, TX3, 6), (RX4, TX4, 3), (RX5, TX5, 14)]
