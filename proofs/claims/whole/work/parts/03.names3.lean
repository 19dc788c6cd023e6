theorem dX0_init_0 : decode cX0_init 0 = .ok (.aload_n 0, 1) := by decide +kernel
theorem dX0_init_1 : decode cX0_init 1 = .ok (.invokespecial 3, 3) := by decide +kernel
theorem dX0_init_4 : decode cX0_init 4 = .ok (.aload_n 0, 1) := by decide +kernel
theorem dX0_init_5 : decode cX0_init 5 = .ok (.sipush 600, 3) := by decide +kernel
theorem dX0_init_8 : decode cX0_init 8 = .ok (.newarray .int, 2) := by decide +kernel
theorem dX0_init_10 : decode cX0_init 10 = .ok (.putfield 9, 3) := by decide +kernel
theorem dX0_init_13 : decode cX0_init 13 = .ok (.return_, 1) := by decide +kernel
theorem dX0_slotOf_0 : decode cX0_slotOf 0 = .ok (.iload_n 0, 1) := by decide +kernel
theorem dX0_slotOf_1 : decode cX0_slotOf 1 = .ok (.ifCond .lt 29, 3) := by decide +kernel
theorem dX0_slotOf_4 : decode cX0_slotOf 4 = .ok (.iload_n 0, 1) := by decide +kernel
theorem dX0_slotOf_5 : decode cX0_slotOf 5 = .ok (.bipush 20, 2) := by decide +kernel
theorem dX0_slotOf_7 : decode cX0_slotOf 7 = .ok (.if_icmp .ge 23, 3) := by decide +kernel
theorem dX0_slotOf_10 : decode cX0_slotOf 10 = .ok (.iload_n 1, 1) := by decide +kernel
theorem dX0_slotOf_11 : decode cX0_slotOf 11 = .ok (.ifCond .lt 19, 3) := by decide +kernel
theorem dX0_slotOf_14 : decode cX0_slotOf 14 = .ok (.iload_n 1, 1) := by decide +kernel
theorem dX0_slotOf_15 : decode cX0_slotOf 15 = .ok (.bipush 10, 2) := by decide +kernel
theorem dX0_slotOf_17 : decode cX0_slotOf 17 = .ok (.if_icmp .ge 13, 3) := by decide +kernel
theorem dX0_slotOf_20 : decode cX0_slotOf 20 = .ok (.iload_n 2, 1) := by decide +kernel
theorem dX0_slotOf_21 : decode cX0_slotOf 21 = .ok (.iconst 1, 1) := by decide +kernel
theorem dX0_slotOf_22 : decode cX0_slotOf 22 = .ok (.if_icmp .lt 8, 3) := by decide +kernel
theorem dX0_slotOf_25 : decode cX0_slotOf 25 = .ok (.iload_n 2, 1) := by decide +kernel
theorem dX0_slotOf_26 : decode cX0_slotOf 26 = .ok (.iconst 3, 1) := by decide +kernel
theorem dX0_slotOf_27 : decode cX0_slotOf 27 = .ok (.if_icmp .le 5, 3) := by decide +kernel
theorem dX0_slotOf_30 : decode cX0_slotOf 30 = .ok (.iconst (-1), 1) := by decide +kernel
theorem dX0_slotOf_31 : decode cX0_slotOf 31 = .ok (.ireturn, 1) := by decide +kernel
theorem dX0_slotOf_32 : decode cX0_slotOf 32 = .ok (.iload_n 0, 1) := by decide +kernel
theorem dX0_slotOf_33 : decode cX0_slotOf 33 = .ok (.bipush 10, 2) := by decide +kernel
theorem dX0_slotOf_35 : decode cX0_slotOf 35 = .ok (.imul, 1) := by decide +kernel
theorem dX0_slotOf_36 : decode cX0_slotOf 36 = .ok (.iload_n 1, 1) := by decide +kernel
theorem dX0_slotOf_37 : decode cX0_slotOf 37 = .ok (.iadd, 1) := by decide +kernel
theorem dX0_slotOf_38 : decode cX0_slotOf 38 = .ok (.iconst 3, 1) := by decide +kernel
theorem dX0_slotOf_39 : decode cX0_slotOf 39 = .ok (.imul, 1) := by decide +kernel
theorem dX0_slotOf_40 : decode cX0_slotOf 40 = .ok (.iload_n 2, 1) := by decide +kernel
theorem dX0_slotOf_41 : decode cX0_slotOf 41 = .ok (.iadd, 1) := by decide +kernel
theorem dX0_slotOf_42 : decode cX0_slotOf 42 = .ok (.iconst 1, 1) := by decide +kernel
theorem dX0_slotOf_43 : decode cX0_slotOf 43 = .ok (.isub, 1) := by decide +kernel
theorem dX0_slotOf_44 : decode cX0_slotOf 44 = .ok (.ireturn, 1) := by decide +kernel
theorem dX0_manyAt_0 : decode cX0_manyAt 0 = .ok (.iload_n 1, 1) := by decide +kernel
theorem dX0_manyAt_1 : decode cX0_manyAt 1 = .ok (.iload_n 2, 1) := by decide +kernel
theorem dX0_manyAt_2 : decode cX0_manyAt 2 = .ok (.iload_n 3, 1) := by decide +kernel
theorem dX0_manyAt_3 : decode cX0_manyAt 3 = .ok (.invokestatic 15, 3) := by decide +kernel
theorem dX0_manyAt_6 : decode cX0_manyAt 6 = .ok (.istore 4, 2) := by decide +kernel
theorem dX0_manyAt_8 : decode cX0_manyAt 8 = .ok (.iload 4, 2) := by decide +kernel
theorem dX0_manyAt_10 : decode cX0_manyAt 10 = .ok (.iconst (-1), 1) := by decide +kernel
theorem dX0_manyAt_11 : decode cX0_manyAt 11 = .ok (.if_icmp .ne 7, 3) := by decide +kernel
theorem dX0_manyAt_14 : decode cX0_manyAt 14 = .ok (.iconst 0, 1) := by decide +kernel
theorem dX0_manyAt_15 : decode cX0_manyAt 15 = .ok (.goto 10, 3) := by decide +kernel
theorem dX0_manyAt_18 : decode cX0_manyAt 18 = .ok (.aload_n 0, 1) := by decide +kernel
theorem dX0_manyAt_19 : decode cX0_manyAt 19 = .ok (.getfield 9, 3) := by decide +kernel
theorem dX0_manyAt_22 : decode cX0_manyAt 22 = .ok (.iload 4, 2) := by decide +kernel
theorem dX0_manyAt_24 : decode cX0_manyAt 24 = .ok (.iaload, 1) := by decide +kernel
theorem dX0_manyAt_25 : decode cX0_manyAt 25 = .ok (.ireturn, 1) := by decide +kernel
theorem dX0_add_0 : decode cX0_add 0 = .ok (.iload_n 1, 1) := by decide +kernel
theorem dX0_add_1 : decode cX0_add 1 = .ok (.iload_n 2, 1) := by decide +kernel
theorem dX0_add_2 : decode cX0_add 2 = .ok (.iload_n 3, 1) := by decide +kernel
theorem dX0_add_3 : decode cX0_add 3 = .ok (.invokestatic 15, 3) := by decide +kernel
theorem dX0_add_6 : decode cX0_add 6 = .ok (.istore 5, 2) := by decide +kernel
theorem dX0_add_8 : decode cX0_add 8 = .ok (.iload 5, 2) := by decide +kernel
theorem dX0_add_10 : decode cX0_add 10 = .ok (.iconst (-1), 1) := by decide +kernel
theorem dX0_add_11 : decode cX0_add 11 = .ok (.if_icmp .eq 15, 3) := by decide +kernel
theorem dX0_add_14 : decode cX0_add 14 = .ok (.aload_n 0, 1) := by decide +kernel
theorem dX0_add_15 : decode cX0_add 15 = .ok (.getfield 9, 3) := by decide +kernel
theorem dX0_add_18 : decode cX0_add 18 = .ok (.iload 5, 2) := by decide +kernel
theorem dX0_add_20 : decode cX0_add 20 = .ok (.dup2, 1) := by decide +kernel
theorem dX0_add_21 : decode cX0_add 21 = .ok (.iaload, 1) := by decide +kernel
theorem dX0_add_22 : decode cX0_add 22 = .ok (.iload 4, 2) := by decide +kernel
theorem dX0_add_24 : decode cX0_add 24 = .ok (.iadd, 1) := by decide +kernel
theorem dX0_add_25 : decode cX0_add 25 = .ok (.iastore, 1) := by decide +kernel
theorem dX0_add_26 : decode cX0_add 26 = .ok (.return_, 1) := by decide +kernel
theorem dX0_takeAll_0 : decode cX0_takeAll 0 = .ok (.iload_n 1, 1) := by decide +kernel
theorem dX0_takeAll_1 : decode cX0_takeAll 1 = .ok (.iload_n 2, 1) := by decide +kernel
theorem dX0_takeAll_2 : decode cX0_takeAll 2 = .ok (.iload_n 3, 1) := by decide +kernel
theorem dX0_takeAll_3 : decode cX0_takeAll 3 = .ok (.invokestatic 15, 3) := by decide +kernel
theorem dX0_takeAll_6 : decode cX0_takeAll 6 = .ok (.istore 4, 2) := by decide +kernel
theorem dX0_takeAll_8 : decode cX0_takeAll 8 = .ok (.iload 4, 2) := by decide +kernel
theorem dX0_takeAll_10 : decode cX0_takeAll 10 = .ok (.iconst (-1), 1) := by decide +kernel
theorem dX0_takeAll_11 : decode cX0_takeAll 11 = .ok (.if_icmp .ne 5, 3) := by decide +kernel
theorem dX0_takeAll_14 : decode cX0_takeAll 14 = .ok (.iconst 0, 1) := by decide +kernel
theorem dX0_takeAll_15 : decode cX0_takeAll 15 = .ok (.ireturn, 1) := by decide +kernel
theorem dX0_takeAll_16 : decode cX0_takeAll 16 = .ok (.aload_n 0, 1) := by decide +kernel
theorem dX0_takeAll_17 : decode cX0_takeAll 17 = .ok (.getfield 9, 3) := by decide +kernel
theorem dX0_takeAll_20 : decode cX0_takeAll 20 = .ok (.iload 4, 2) := by decide +kernel
theorem dX0_takeAll_22 : decode cX0_takeAll 22 = .ok (.iaload, 1) := by decide +kernel
theorem dX0_takeAll_23 : decode cX0_takeAll 23 = .ok (.istore 5, 2) := by decide +kernel
theorem dX0_takeAll_25 : decode cX0_takeAll 25 = .ok (.aload_n 0, 1) := by decide +kernel
theorem dX0_takeAll_26 : decode cX0_takeAll 26 = .ok (.getfield 9, 3) := by decide +kernel
theorem dX0_takeAll_29 : decode cX0_takeAll 29 = .ok (.iload 4, 2) := by decide +kernel
theorem dX0_takeAll_31 : decode cX0_takeAll 31 = .ok (.iconst 0, 1) := by decide +kernel
theorem dX0_takeAll_32 : decode cX0_takeAll 32 = .ok (.iastore, 1) := by decide +kernel
theorem dX0_takeAll_33 : decode cX0_takeAll 33 = .ok (.iload 5, 2) := by decide +kernel
theorem dX0_takeAll_35 : decode cX0_takeAll 35 = .ok (.ireturn, 1) := by decide +kernel
theorem dX0_letFall_0 : decode cX0_letFall 0 = .ok (.lconst 0, 1) := by decide +kernel
theorem dX0_letFall_1 : decode cX0_letFall 1 = .ok (.lstore_n 3, 1) := by decide +kernel
theorem dX0_letFall_2 : decode cX0_letFall 2 = .ok (.iconst 0, 1) := by decide +kernel
theorem dX0_letFall_3 : decode cX0_letFall 3 = .ok (.istore 5, 2) := by decide +kernel
theorem dX0_letFall_5 : decode cX0_letFall 5 = .ok (.iload 5, 2) := by decide +kernel
theorem dX0_letFall_7 : decode cX0_letFall 7 = .ok (.bipush 10, 2) := by decide +kernel
theorem dX0_letFall_9 : decode cX0_letFall 9 = .ok (.if_icmp .ge 77, 3) := by decide +kernel
theorem dX0_letFall_12 : decode cX0_letFall 12 = .ok (.iconst 1, 1) := by decide +kernel
theorem dX0_letFall_13 : decode cX0_letFall 13 = .ok (.istore 6, 2) := by decide +kernel
theorem dX0_letFall_15 : decode cX0_letFall 15 = .ok (.iload 6, 2) := by decide +kernel
theorem dX0_letFall_17 : decode cX0_letFall 17 = .ok (.iconst 3, 1) := by decide +kernel
theorem dX0_letFall_18 : decode cX0_letFall 18 = .ok (.if_icmp .gt 62, 3) := by decide +kernel
theorem dX0_letFall_21 : decode cX0_letFall 21 = .ok (.aload_n 0, 1) := by decide +kernel
theorem dX0_letFall_22 : decode cX0_letFall 22 = .ok (.iload_n 1, 1) := by decide +kernel
theorem dX0_letFall_23 : decode cX0_letFall 23 = .ok (.iload 5, 2) := by decide +kernel
theorem dX0_letFall_25 : decode cX0_letFall 25 = .ok (.iload 6, 2) := by decide +kernel
theorem dX0_letFall_27 : decode cX0_letFall 27 = .ok (.invokevirtual 19, 3) := by decide +kernel
theorem dX0_letFall_30 : decode cX0_letFall 30 = .ok (.istore 7, 2) := by decide +kernel
theorem dX0_letFall_32 : decode cX0_letFall 32 = .ok (.iload 5, 2) := by decide +kernel
theorem dX0_letFall_34 : decode cX0_letFall 34 = .ok (.iload 5, 2) := by decide +kernel
theorem dX0_letFall_36 : decode cX0_letFall 36 = .ok (.iload 6, 2) := by decide +kernel
theorem dX0_letFall_38 : decode cX0_letFall 38 = .ok (.iload_n 2, 1) := by decide +kernel
theorem dX0_letFall_39 : decode cX0_letFall 39 = .ok (.invokestatic 22, 3) := by decide +kernel
theorem dX0_letFall_42 : decode cX0_letFall 42 = .ok (.isub, 1) := by decide +kernel
theorem dX0_letFall_43 : decode cX0_letFall 43 = .ok (.istore 8, 2) := by decide +kernel
theorem dX0_letFall_45 : decode cX0_letFall 45 = .ok (.iload 8, 2) := by decide +kernel
theorem dX0_letFall_47 : decode cX0_letFall 47 = .ok (.ifCond .ge 16, 3) := by decide +kernel
theorem dX0_letFall_50 : decode cX0_letFall 50 = .ok (.lload_n 3, 1) := by decide +kernel
theorem dX0_letFall_51 : decode cX0_letFall 51 = .ok (.iload 6, 2) := by decide +kernel
theorem dX0_letFall_53 : decode cX0_letFall 53 = .ok (.iload 7, 2) := by decide +kernel
theorem dX0_letFall_55 : decode cX0_letFall 55 = .ok (.invokestatic 25, 3) := by decide +kernel
theorem dX0_letFall_58 : decode cX0_letFall 58 = .ok (.ladd, 1) := by decide +kernel
theorem dX0_letFall_59 : decode cX0_letFall 59 = .ok (.lstore_n 3, 1) := by decide +kernel
theorem dX0_letFall_60 : decode cX0_letFall 60 = .ok (.goto 14, 3) := by decide +kernel
theorem dX0_letFall_63 : decode cX0_letFall 63 = .ok (.aload_n 0, 1) := by decide +kernel
theorem dX0_letFall_64 : decode cX0_letFall 64 = .ok (.iload_n 1, 1) := by decide +kernel
theorem dX0_letFall_65 : decode cX0_letFall 65 = .ok (.iload 8, 2) := by decide +kernel
theorem dX0_letFall_67 : decode cX0_letFall 67 = .ok (.iload 6, 2) := by decide +kernel
theorem dX0_letFall_69 : decode cX0_letFall 69 = .ok (.iload 7, 2) := by decide +kernel
theorem dX0_letFall_71 : decode cX0_letFall 71 = .ok (.invokevirtual 29, 3) := by decide +kernel
theorem dX0_letFall_74 : decode cX0_letFall 74 = .ok (.iinc 6 1, 3) := by decide +kernel
theorem dX0_letFall_77 : decode cX0_letFall 77 = .ok (.goto (-62), 3) := by decide +kernel
theorem dX0_letFall_80 : decode cX0_letFall 80 = .ok (.iinc 5 1, 3) := by decide +kernel
theorem dX0_letFall_83 : decode cX0_letFall 83 = .ok (.goto (-78), 3) := by decide +kernel
theorem dX0_letFall_86 : decode cX0_letFall 86 = .ok (.lload_n 3, 1) := by decide +kernel
theorem dX0_letFall_87 : decode cX0_letFall 87 = .ok (.lreturn, 1) := by decide +kernel
theorem dX0_moveAll_0 : decode cX0_moveAll 0 = .ok (.lconst 0, 1) := by decide +kernel
theorem dX0_moveAll_1 : decode cX0_moveAll 1 = .ok (.lstore_n 2, 1) := by decide +kernel
theorem dX0_moveAll_2 : decode cX0_moveAll 2 = .ok (.iconst 0, 1) := by decide +kernel
theorem dX0_moveAll_3 : decode cX0_moveAll 3 = .ok (.istore 4, 2) := by decide +kernel
theorem dX0_moveAll_5 : decode cX0_moveAll 5 = .ok (.iload 4, 2) := by decide +kernel
theorem dX0_moveAll_7 : decode cX0_moveAll 7 = .ok (.bipush 20, 2) := by decide +kernel
theorem dX0_moveAll_9 : decode cX0_moveAll 9 = .ok (.if_icmp .ge 38, 3) := by decide +kernel
theorem dX0_moveAll_12 : decode cX0_moveAll 12 = .ok (.iload_n 1, 1) := by decide +kernel
theorem dX0_moveAll_13 : decode cX0_moveAll 13 = .ok (.ifCond .le 11, 3) := by decide +kernel
theorem dX0_moveAll_16 : decode cX0_moveAll 16 = .ok (.bipush 19, 2) := by decide +kernel
theorem dX0_moveAll_18 : decode cX0_moveAll 18 = .ok (.iload 4, 2) := by decide +kernel
theorem dX0_moveAll_20 : decode cX0_moveAll 20 = .ok (.isub, 1) := by decide +kernel
theorem dX0_moveAll_21 : decode cX0_moveAll 21 = .ok (.goto 5, 3) := by decide +kernel
theorem dX0_moveAll_24 : decode cX0_moveAll 24 = .ok (.iload 4, 2) := by decide +kernel
theorem dX0_moveAll_26 : decode cX0_moveAll 26 = .ok (.istore 5, 2) := by decide +kernel
theorem dX0_moveAll_28 : decode cX0_moveAll 28 = .ok (.lload_n 2, 1) := by decide +kernel
theorem dX0_moveAll_29 : decode cX0_moveAll 29 = .ok (.aload_n 0, 1) := by decide +kernel
theorem dX0_moveAll_30 : decode cX0_moveAll 30 = .ok (.iload 5, 2) := by decide +kernel
theorem dX0_moveAll_32 : decode cX0_moveAll 32 = .ok (.iload 5, 2) := by decide +kernel
theorem dX0_moveAll_34 : decode cX0_moveAll 34 = .ok (.iload_n 1, 1) := by decide +kernel
theorem dX0_moveAll_35 : decode cX0_moveAll 35 = .ok (.iadd, 1) := by decide +kernel
theorem dX0_moveAll_36 : decode cX0_moveAll 36 = .ok (.invokevirtual 33, 3) := by decide +kernel
theorem dX0_moveAll_39 : decode cX0_moveAll 39 = .ok (.ladd, 1) := by decide +kernel
theorem dX0_moveAll_40 : decode cX0_moveAll 40 = .ok (.lstore_n 2, 1) := by decide +kernel
theorem dX0_moveAll_41 : decode cX0_moveAll 41 = .ok (.iinc 4 1, 3) := by decide +kernel
theorem dX0_moveAll_44 : decode cX0_moveAll 44 = .ok (.goto (-39), 3) := by decide +kernel
theorem dX0_moveAll_47 : decode cX0_moveAll 47 = .ok (.lload_n 2, 1) := by decide +kernel
theorem dX0_moveAll_48 : decode cX0_moveAll 48 = .ok (.lreturn, 1) := by decide +kernel
theorem dX0_moveFrom_0 : decode cX0_moveFrom 0 = .ok (.lconst 0, 1) := by decide +kernel
theorem dX0_moveFrom_1 : decode cX0_moveFrom 1 = .ok (.lstore_n 3, 1) := by decide +kernel
theorem dX0_moveFrom_2 : decode cX0_moveFrom 2 = .ok (.iconst 0, 1) := by decide +kernel
theorem dX0_moveFrom_3 : decode cX0_moveFrom 3 = .ok (.istore 5, 2) := by decide +kernel
theorem dX0_moveFrom_5 : decode cX0_moveFrom 5 = .ok (.iload 5, 2) := by decide +kernel
theorem dX0_moveFrom_7 : decode cX0_moveFrom 7 = .ok (.bipush 10, 2) := by decide +kernel
theorem dX0_moveFrom_9 : decode cX0_moveFrom 9 = .ok (.if_icmp .ge 69, 3) := by decide +kernel
theorem dX0_moveFrom_12 : decode cX0_moveFrom 12 = .ok (.iconst 1, 1) := by decide +kernel
theorem dX0_moveFrom_13 : decode cX0_moveFrom 13 = .ok (.istore 6, 2) := by decide +kernel
theorem dX0_moveFrom_15 : decode cX0_moveFrom 15 = .ok (.iload 6, 2) := by decide +kernel
theorem dX0_moveFrom_17 : decode cX0_moveFrom 17 = .ok (.iconst 3, 1) := by decide +kernel
theorem dX0_moveFrom_18 : decode cX0_moveFrom 18 = .ok (.if_icmp .gt 54, 3) := by decide +kernel
theorem dX0_moveFrom_21 : decode cX0_moveFrom 21 = .ok (.aload_n 0, 1) := by decide +kernel
theorem dX0_moveFrom_22 : decode cX0_moveFrom 22 = .ok (.iload_n 1, 1) := by decide +kernel
theorem dX0_moveFrom_23 : decode cX0_moveFrom 23 = .ok (.iload 5, 2) := by decide +kernel
theorem dX0_moveFrom_25 : decode cX0_moveFrom 25 = .ok (.iload 6, 2) := by decide +kernel
theorem dX0_moveFrom_27 : decode cX0_moveFrom 27 = .ok (.invokevirtual 19, 3) := by decide +kernel
theorem dX0_moveFrom_30 : decode cX0_moveFrom 30 = .ok (.istore 7, 2) := by decide +kernel
theorem dX0_moveFrom_32 : decode cX0_moveFrom 32 = .ok (.iload_n 2, 1) := by decide +kernel
theorem dX0_moveFrom_33 : decode cX0_moveFrom 33 = .ok (.ifCond .lt 9, 3) := by decide +kernel
theorem dX0_moveFrom_36 : decode cX0_moveFrom 36 = .ok (.iload_n 2, 1) := by decide +kernel
theorem dX0_moveFrom_37 : decode cX0_moveFrom 37 = .ok (.bipush 20, 2) := by decide +kernel
theorem dX0_moveFrom_39 : decode cX0_moveFrom 39 = .ok (.if_icmp .lt 16, 3) := by decide +kernel
theorem dX0_moveFrom_42 : decode cX0_moveFrom 42 = .ok (.lload_n 3, 1) := by decide +kernel
theorem dX0_moveFrom_43 : decode cX0_moveFrom 43 = .ok (.iload 6, 2) := by decide +kernel
theorem dX0_moveFrom_45 : decode cX0_moveFrom 45 = .ok (.iload 7, 2) := by decide +kernel
theorem dX0_moveFrom_47 : decode cX0_moveFrom 47 = .ok (.invokestatic 25, 3) := by decide +kernel
theorem dX0_moveFrom_50 : decode cX0_moveFrom 50 = .ok (.ladd, 1) := by decide +kernel
theorem dX0_moveFrom_51 : decode cX0_moveFrom 51 = .ok (.lstore_n 3, 1) := by decide +kernel
theorem dX0_moveFrom_52 : decode cX0_moveFrom 52 = .ok (.goto 14, 3) := by decide +kernel
theorem dX0_moveFrom_55 : decode cX0_moveFrom 55 = .ok (.aload_n 0, 1) := by decide +kernel
theorem dX0_moveFrom_56 : decode cX0_moveFrom 56 = .ok (.iload_n 2, 1) := by decide +kernel
theorem dX0_moveFrom_57 : decode cX0_moveFrom 57 = .ok (.iload 5, 2) := by decide +kernel
theorem dX0_moveFrom_59 : decode cX0_moveFrom 59 = .ok (.iload 6, 2) := by decide +kernel
theorem dX0_moveFrom_61 : decode cX0_moveFrom 61 = .ok (.iload 7, 2) := by decide +kernel
theorem dX0_moveFrom_63 : decode cX0_moveFrom 63 = .ok (.invokevirtual 29, 3) := by decide +kernel
theorem dX0_moveFrom_66 : decode cX0_moveFrom 66 = .ok (.iinc 6 1, 3) := by decide +kernel
theorem dX0_moveFrom_69 : decode cX0_moveFrom 69 = .ok (.goto (-54), 3) := by decide +kernel
theorem dX0_moveFrom_72 : decode cX0_moveFrom 72 = .ok (.iinc 5 1, 3) := by decide +kernel
theorem dX0_moveFrom_75 : decode cX0_moveFrom 75 = .ok (.goto (-70), 3) := by decide +kernel
theorem dX0_moveFrom_78 : decode cX0_moveFrom 78 = .ok (.lload_n 3, 1) := by decide +kernel
theorem dX0_moveFrom_79 : decode cX0_moveFrom 79 = .ok (.lreturn, 1) := by decide +kernel
theorem dX0_plainEcho_0 : decode cX0_plainEcho 0 = .ok (.lconst 0, 1) := by decide +kernel
theorem dX0_plainEcho_1 : decode cX0_plainEcho 1 = .ok (.lstore_n 3, 1) := by decide +kernel
theorem dX0_plainEcho_2 : decode cX0_plainEcho 2 = .ok (.iconst 1, 1) := by decide +kernel
theorem dX0_plainEcho_3 : decode cX0_plainEcho 3 = .ok (.istore 5, 2) := by decide +kernel
theorem dX0_plainEcho_5 : decode cX0_plainEcho 5 = .ok (.iload 5, 2) := by decide +kernel
theorem dX0_plainEcho_7 : decode cX0_plainEcho 7 = .ok (.iconst 3, 1) := by decide +kernel
theorem dX0_plainEcho_8 : decode cX0_plainEcho 8 = .ok (.if_icmp .gt 40, 3) := by decide +kernel
theorem dX0_plainEcho_11 : decode cX0_plainEcho 11 = .ok (.iload 5, 2) := by decide +kernel
theorem dX0_plainEcho_13 : decode cX0_plainEcho 13 = .ok (.i2l, 1) := by decide +kernel
theorem dX0_plainEcho_14 : decode cX0_plainEcho 14 = .ok (.iload 5, 2) := by decide +kernel
theorem dX0_plainEcho_16 : decode cX0_plainEcho 16 = .ok (.i2l, 1) := by decide +kernel
theorem dX0_plainEcho_17 : decode cX0_plainEcho 17 = .ok (.lmul, 1) := by decide +kernel
theorem dX0_plainEcho_18 : decode cX0_plainEcho 18 = .ok (.iload 5, 2) := by decide +kernel
theorem dX0_plainEcho_20 : decode cX0_plainEcho 20 = .ok (.i2l, 1) := by decide +kernel
theorem dX0_plainEcho_21 : decode cX0_plainEcho 21 = .ok (.lmul, 1) := by decide +kernel
theorem dX0_plainEcho_22 : decode cX0_plainEcho 22 = .ok (.lstore 6, 2) := by decide +kernel
theorem dX0_plainEcho_24 : decode cX0_plainEcho 24 = .ok (.lload_n 3, 1) := by decide +kernel
theorem dX0_plainEcho_25 : decode cX0_plainEcho 25 = .ok (.lload 6, 2) := by decide +kernel
theorem dX0_plainEcho_27 : decode cX0_plainEcho 27 = .ok (.lload 6, 2) := by decide +kernel
theorem dX0_plainEcho_29 : decode cX0_plainEcho 29 = .ok (.lmul, 1) := by decide +kernel
theorem dX0_plainEcho_30 : decode cX0_plainEcho 30 = .ok (.aload_n 0, 1) := by decide +kernel
theorem dX0_plainEcho_31 : decode cX0_plainEcho 31 = .ok (.iload_n 1, 1) := by decide +kernel
theorem dX0_plainEcho_32 : decode cX0_plainEcho 32 = .ok (.iload_n 2, 1) := by decide +kernel
theorem dX0_plainEcho_33 : decode cX0_plainEcho 33 = .ok (.iload 5, 2) := by decide +kernel
theorem dX0_plainEcho_35 : decode cX0_plainEcho 35 = .ok (.invokevirtual 36, 3) := by decide +kernel
theorem dX0_plainEcho_38 : decode cX0_plainEcho 38 = .ok (.i2l, 1) := by decide +kernel
theorem dX0_plainEcho_39 : decode cX0_plainEcho 39 = .ok (.lmul, 1) := by decide +kernel
theorem dX0_plainEcho_40 : decode cX0_plainEcho 40 = .ok (.ladd, 1) := by decide +kernel
theorem dX0_plainEcho_41 : decode cX0_plainEcho 41 = .ok (.lstore_n 3, 1) := by decide +kernel
theorem dX0_plainEcho_42 : decode cX0_plainEcho 42 = .ok (.iinc 5 1, 3) := by decide +kernel
theorem dX0_plainEcho_45 : decode cX0_plainEcho 45 = .ok (.goto (-40), 3) := by decide +kernel
theorem dX0_plainEcho_48 : decode cX0_plainEcho 48 = .ok (.lload_n 3, 1) := by decide +kernel
theorem dX0_plainEcho_49 : decode cX0_plainEcho 49 = .ok (.lreturn, 1) := by decide +kernel
theorem dX0_allWater_0 : decode cX0_allWater 0 = .ok (.lconst 0, 1) := by decide +kernel
theorem dX0_allWater_1 : decode cX0_allWater 1 = .ok (.lstore_n 1, 1) := by decide +kernel
theorem dX0_allWater_2 : decode cX0_allWater 2 = .ok (.iconst 0, 1) := by decide +kernel
theorem dX0_allWater_3 : decode cX0_allWater 3 = .ok (.istore_n 3, 1) := by decide +kernel
theorem dX0_allWater_4 : decode cX0_allWater 4 = .ok (.iload_n 3, 1) := by decide +kernel
theorem dX0_allWater_5 : decode cX0_allWater 5 = .ok (.bipush 20, 2) := by decide +kernel
theorem dX0_allWater_7 : decode cX0_allWater 7 = .ok (.if_icmp .ge 57, 3) := by decide +kernel
theorem dX0_allWater_10 : decode cX0_allWater 10 = .ok (.iconst 0, 1) := by decide +kernel
theorem dX0_allWater_11 : decode cX0_allWater 11 = .ok (.istore 4, 2) := by decide +kernel
theorem dX0_allWater_13 : decode cX0_allWater 13 = .ok (.iload 4, 2) := by decide +kernel
theorem dX0_allWater_15 : decode cX0_allWater 15 = .ok (.bipush 10, 2) := by decide +kernel
theorem dX0_allWater_17 : decode cX0_allWater 17 = .ok (.if_icmp .ge 41, 3) := by decide +kernel
theorem dX0_allWater_20 : decode cX0_allWater 20 = .ok (.iconst 1, 1) := by decide +kernel
theorem dX0_allWater_21 : decode cX0_allWater 21 = .ok (.istore 5, 2) := by decide +kernel
theorem dX0_allWater_23 : decode cX0_allWater 23 = .ok (.iload 5, 2) := by decide +kernel
theorem dX0_allWater_25 : decode cX0_allWater 25 = .ok (.iconst 3, 1) := by decide +kernel
theorem dX0_allWater_26 : decode cX0_allWater 26 = .ok (.if_icmp .gt 26, 3) := by decide +kernel
theorem dX0_allWater_29 : decode cX0_allWater 29 = .ok (.lload_n 1, 1) := by decide +kernel
theorem dX0_allWater_30 : decode cX0_allWater 30 = .ok (.iload 5, 2) := by decide +kernel
theorem dX0_allWater_32 : decode cX0_allWater 32 = .ok (.aload_n 0, 1) := by decide +kernel
theorem dX0_allWater_33 : decode cX0_allWater 33 = .ok (.iload_n 3, 1) := by decide +kernel
theorem dX0_allWater_34 : decode cX0_allWater 34 = .ok (.iload 4, 2) := by decide +kernel
theorem dX0_allWater_36 : decode cX0_allWater 36 = .ok (.iload 5, 2) := by decide +kernel
theorem dX0_allWater_38 : decode cX0_allWater 38 = .ok (.invokevirtual 36, 3) := by decide +kernel
theorem dX0_allWater_41 : decode cX0_allWater 41 = .ok (.invokestatic 25, 3) := by decide +kernel
theorem dX0_allWater_44 : decode cX0_allWater 44 = .ok (.ladd, 1) := by decide +kernel
theorem dX0_allWater_45 : decode cX0_allWater 45 = .ok (.lstore_n 1, 1) := by decide +kernel
theorem dX0_allWater_46 : decode cX0_allWater 46 = .ok (.iinc 5 1, 3) := by decide +kernel
theorem dX0_allWater_49 : decode cX0_allWater 49 = .ok (.goto (-26), 3) := by decide +kernel
theorem dX0_allWater_52 : decode cX0_allWater 52 = .ok (.iinc 4 1, 3) := by decide +kernel
theorem dX0_allWater_55 : decode cX0_allWater 55 = .ok (.goto (-42), 3) := by decide +kernel
theorem dX0_allWater_58 : decode cX0_allWater 58 = .ok (.iinc 3 1, 3) := by decide +kernel
theorem dX0_allWater_61 : decode cX0_allWater 61 = .ok (.goto (-57), 3) := by decide +kernel
theorem dX0_allWater_64 : decode cX0_allWater 64 = .ok (.lload_n 1, 1) := by decide +kernel
theorem dX0_allWater_65 : decode cX0_allWater 65 = .ok (.lreturn, 1) := by decide +kernel
theorem dX1_init_0 : decode cX1_init 0 = .ok (.aload_n 0, 1) := by decide +kernel
theorem dX1_init_1 : decode cX1_init 1 = .ok (.invokespecial 3, 3) := by decide +kernel
theorem dX1_init_4 : decode cX1_init 4 = .ok (.aload_n 0, 1) := by decide +kernel
theorem dX1_init_5 : decode cX1_init 5 = .ok (.bipush 20, 2) := by decide +kernel
theorem dX1_init_7 : decode cX1_init 7 = .ok (.newarray .boolean, 2) := by decide +kernel
theorem dX1_init_9 : decode cX1_init 9 = .ok (.putfield 9, 3) := by decide +kernel
theorem dX1_init_12 : decode cX1_init 12 = .ok (.aload_n 0, 1) := by decide +kernel
theorem dX1_init_13 : decode cX1_init 13 = .ok (.bipush 20, 2) := by decide +kernel
theorem dX1_init_15 : decode cX1_init 15 = .ok (.newarray .boolean, 2) := by decide +kernel
theorem dX1_init_17 : decode cX1_init 17 = .ok (.putfield 15, 3) := by decide +kernel
theorem dX1_init_20 : decode cX1_init 20 = .ok (.aload_n 0, 1) := by decide +kernel
theorem dX1_init_21 : decode cX1_init 21 = .ok (.bipush 20, 2) := by decide +kernel
theorem dX1_init_23 : decode cX1_init 23 = .ok (.newarray .long, 2) := by decide +kernel
theorem dX1_init_25 : decode cX1_init 25 = .ok (.putfield 18, 3) := by decide +kernel
theorem dX1_init_28 : decode cX1_init 28 = .ok (.return_, 1) := by decide +kernel
theorem dX1_isKilometre_0 : decode cX1_isKilometre 0 = .ok (.iload_n 0, 1) := by decide +kernel
theorem dX1_isKilometre_1 : decode cX1_isKilometre 1 = .ok (.ifCond .lt 13, 3) := by decide +kernel
theorem dX1_isKilometre_4 : decode cX1_isKilometre 4 = .ok (.iload_n 0, 1) := by decide +kernel
theorem dX1_isKilometre_5 : decode cX1_isKilometre 5 = .ok (.bipush 20, 2) := by decide +kernel
theorem dX1_isKilometre_7 : decode cX1_isKilometre 7 = .ok (.if_icmp .ge 7, 3) := by decide +kernel
theorem dX1_isKilometre_10 : decode cX1_isKilometre 10 = .ok (.iconst 1, 1) := by decide +kernel
theorem dX1_isKilometre_11 : decode cX1_isKilometre 11 = .ok (.goto 4, 3) := by decide +kernel
theorem dX1_isKilometre_14 : decode cX1_isKilometre 14 = .ok (.iconst 0, 1) := by decide +kernel
theorem dX1_isKilometre_15 : decode cX1_isKilometre 15 = .ok (.ireturn, 1) := by decide +kernel
theorem dX1_isUp_0 : decode cX1_isUp 0 = .ok (.iload_n 1, 1) := by decide +kernel
theorem dX1_isUp_1 : decode cX1_isUp 1 = .ok (.invokestatic 22, 3) := by decide +kernel
theorem dX1_isUp_4 : decode cX1_isUp 4 = .ok (.ifCond .eq 16, 3) := by decide +kernel
theorem dX1_isUp_7 : decode cX1_isUp 7 = .ok (.aload_n 0, 1) := by decide +kernel
theorem dX1_isUp_8 : decode cX1_isUp 8 = .ok (.getfield 9, 3) := by decide +kernel
theorem dX1_isUp_11 : decode cX1_isUp 11 = .ok (.iload_n 1, 1) := by decide +kernel
theorem dX1_isUp_12 : decode cX1_isUp 12 = .ok (.baload, 1) := by decide +kernel
theorem dX1_isUp_13 : decode cX1_isUp 13 = .ok (.ifCond .eq 7, 3) := by decide +kernel
theorem dX1_isUp_16 : decode cX1_isUp 16 = .ok (.iconst 1, 1) := by decide +kernel
theorem dX1_isUp_17 : decode cX1_isUp 17 = .ok (.goto 4, 3) := by decide +kernel
theorem dX1_isUp_20 : decode cX1_isUp 20 = .ok (.iconst 0, 1) := by decide +kernel
theorem dX1_isUp_21 : decode cX1_isUp 21 = .ok (.ireturn, 1) := by decide +kernel
theorem dX1_isClogged_0 : decode cX1_isClogged 0 = .ok (.iload_n 1, 1) := by decide +kernel
theorem dX1_isClogged_1 : decode cX1_isClogged 1 = .ok (.invokestatic 22, 3) := by decide +kernel
theorem dX1_isClogged_4 : decode cX1_isClogged 4 = .ok (.ifCond .eq 16, 3) := by decide +kernel
theorem dX1_isClogged_7 : decode cX1_isClogged 7 = .ok (.aload_n 0, 1) := by decide +kernel
theorem dX1_isClogged_8 : decode cX1_isClogged 8 = .ok (.getfield 15, 3) := by decide +kernel
theorem dX1_isClogged_11 : decode cX1_isClogged 11 = .ok (.iload_n 1, 1) := by decide +kernel
theorem dX1_isClogged_12 : decode cX1_isClogged 12 = .ok (.baload, 1) := by decide +kernel
theorem dX1_isClogged_13 : decode cX1_isClogged 13 = .ok (.ifCond .eq 7, 3) := by decide +kernel
theorem dX1_isClogged_16 : decode cX1_isClogged 16 = .ok (.iconst 1, 1) := by decide +kernel
theorem dX1_isClogged_17 : decode cX1_isClogged 17 = .ok (.goto 4, 3) := by decide +kernel
theorem dX1_isClogged_20 : decode cX1_isClogged 20 = .ok (.iconst 0, 1) := by decide +kernel
theorem dX1_isClogged_21 : decode cX1_isClogged 21 = .ok (.ireturn, 1) := by decide +kernel
theorem dX1_contentOf_0 : decode cX1_contentOf 0 = .ok (.iload_n 1, 1) := by decide +kernel
theorem dX1_contentOf_1 : decode cX1_contentOf 1 = .ok (.invokestatic 22, 3) := by decide +kernel
theorem dX1_contentOf_4 : decode cX1_contentOf 4 = .ok (.ifCond .eq 12, 3) := by decide +kernel
theorem dX1_contentOf_7 : decode cX1_contentOf 7 = .ok (.aload_n 0, 1) := by decide +kernel
theorem dX1_contentOf_8 : decode cX1_contentOf 8 = .ok (.getfield 18, 3) := by decide +kernel
theorem dX1_contentOf_11 : decode cX1_contentOf 11 = .ok (.iload_n 1, 1) := by decide +kernel
theorem dX1_contentOf_12 : decode cX1_contentOf 12 = .ok (.laload, 1) := by decide +kernel
theorem dX1_contentOf_13 : decode cX1_contentOf 13 = .ok (.goto 4, 3) := by decide +kernel
theorem dX1_contentOf_16 : decode cX1_contentOf 16 = .ok (.lconst 0, 1) := by decide +kernel
theorem dX1_contentOf_17 : decode cX1_contentOf 17 = .ok (.lreturn, 1) := by decide +kernel
theorem dX1_change_0 : decode cX1_change 0 = .ok (.iload_n 1, 1) := by decide +kernel
theorem dX1_change_1 : decode cX1_change 1 = .ok (.invokestatic 22, 3) := by decide +kernel
theorem dX1_change_4 : decode cX1_change 4 = .ok (.ifCond .eq 24, 3) := by decide +kernel
theorem dX1_change_7 : decode cX1_change 7 = .ok (.aload_n 0, 1) := by decide +kernel
theorem dX1_change_8 : decode cX1_change 8 = .ok (.getfield 9, 3) := by decide +kernel
theorem dX1_change_11 : decode cX1_change 11 = .ok (.iload_n 1, 1) := by decide +kernel
theorem dX1_change_12 : decode cX1_change 12 = .ok (.iload_n 2, 1) := by decide +kernel
theorem dX1_change_13 : decode cX1_change 13 = .ok (.bastore, 1) := by decide +kernel
theorem dX1_change_14 : decode cX1_change 14 = .ok (.aload_n 0, 1) := by decide +kernel
theorem dX1_change_15 : decode cX1_change 15 = .ok (.getfield 15, 3) := by decide +kernel
theorem dX1_change_18 : decode cX1_change 18 = .ok (.iload_n 1, 1) := by decide +kernel
theorem dX1_change_19 : decode cX1_change 19 = .ok (.iconst 0, 1) := by decide +kernel
theorem dX1_change_20 : decode cX1_change 20 = .ok (.bastore, 1) := by decide +kernel
theorem dX1_change_21 : decode cX1_change 21 = .ok (.aload_n 0, 1) := by decide +kernel
theorem dX1_change_22 : decode cX1_change 22 = .ok (.getfield 18, 3) := by decide +kernel
theorem dX1_change_25 : decode cX1_change 25 = .ok (.iload_n 1, 1) := by decide +kernel
theorem dX1_change_26 : decode cX1_change 26 = .ok (.lconst 0, 1) := by decide +kernel
theorem dX1_change_27 : decode cX1_change 27 = .ok (.lastore, 1) := by decide +kernel
theorem dX1_change_28 : decode cX1_change 28 = .ok (.return_, 1) := by decide +kernel
theorem dX1_setClogged_0 : decode cX1_setClogged 0 = .ok (.iload_n 1, 1) := by decide +kernel
theorem dX1_setClogged_1 : decode cX1_setClogged 1 = .ok (.invokestatic 22, 3) := by decide +kernel
theorem dX1_setClogged_4 : decode cX1_setClogged 4 = .ok (.ifCond .eq 10, 3) := by decide +kernel
theorem dX1_setClogged_7 : decode cX1_setClogged 7 = .ok (.aload_n 0, 1) := by decide +kernel
theorem dX1_setClogged_8 : decode cX1_setClogged 8 = .ok (.getfield 15, 3) := by decide +kernel
theorem dX1_setClogged_11 : decode cX1_setClogged 11 = .ok (.iload_n 1, 1) := by decide +kernel
theorem dX1_setClogged_12 : decode cX1_setClogged 12 = .ok (.iload_n 2, 1) := by decide +kernel
theorem dX1_setClogged_13 : decode cX1_setClogged 13 = .ok (.bastore, 1) := by decide +kernel
theorem dX1_setClogged_14 : decode cX1_setClogged 14 = .ok (.return_, 1) := by decide +kernel
theorem dX1_collect_0 : decode cX1_collect 0 = .ok (.aload_n 0, 1) := by decide +kernel
theorem dX1_collect_1 : decode cX1_collect 1 = .ok (.iload_n 1, 1) := by decide +kernel
theorem dX1_collect_2 : decode cX1_collect 2 = .ok (.invokevirtual 26, 3) := by decide +kernel
theorem dX1_collect_5 : decode cX1_collect 5 = .ok (.ifCond .eq 29, 3) := by decide +kernel
theorem dX1_collect_8 : decode cX1_collect 8 = .ok (.aload_n 0, 1) := by decide +kernel
theorem dX1_collect_9 : decode cX1_collect 9 = .ok (.getfield 18, 3) := by decide +kernel
theorem dX1_collect_12 : decode cX1_collect 12 = .ok (.iload_n 1, 1) := by decide +kernel
theorem dX1_collect_13 : decode cX1_collect 13 = .ok (.dup2, 1) := by decide +kernel
theorem dX1_collect_14 : decode cX1_collect 14 = .ok (.laload, 1) := by decide +kernel
theorem dX1_collect_15 : decode cX1_collect 15 = .ok (.aload_n 0, 1) := by decide +kernel
theorem dX1_collect_16 : decode cX1_collect 16 = .ok (.iload_n 1, 1) := by decide +kernel
theorem dX1_collect_17 : decode cX1_collect 17 = .ok (.invokevirtual 29, 3) := by decide +kernel
theorem dX1_collect_20 : decode cX1_collect 20 = .ok (.ifCond .eq 11, 3) := by decide +kernel
theorem dX1_collect_23 : decode cX1_collect 23 = .ok (.lload_n 2, 1) := by decide +kernel
theorem dX1_collect_24 : decode cX1_collect 24 = .ok (.ldc2_w 32, 3) := by decide +kernel
theorem dX1_collect_27 : decode cX1_collect 27 = .ok (.ldiv, 1) := by decide +kernel
theorem dX1_collect_28 : decode cX1_collect 28 = .ok (.goto 4, 3) := by decide +kernel
theorem dX1_collect_31 : decode cX1_collect 31 = .ok (.lload_n 2, 1) := by decide +kernel
theorem dX1_collect_32 : decode cX1_collect 32 = .ok (.ladd, 1) := by decide +kernel
theorem dX1_collect_33 : decode cX1_collect 33 = .ok (.lastore, 1) := by decide +kernel
theorem dX1_collect_34 : decode cX1_collect 34 = .ok (.return_, 1) := by decide +kernel
theorem dX2_init_0 : decode cX2_init 0 = .ok (.aload_n 0, 1) := by decide +kernel
theorem dX2_init_1 : decode cX2_init 1 = .ok (.invokespecial 3, 3) := by decide +kernel
theorem dX2_init_4 : decode cX2_init 4 = .ok (.aload_n 0, 1) := by decide +kernel
theorem dX2_init_5 : decode cX2_init 5 = .ok (.sipush 601, 3) := by decide +kernel
theorem dX2_init_8 : decode cX2_init 8 = .ok (.newarray .int, 2) := by decide +kernel
theorem dX2_init_10 : decode cX2_init 10 = .ok (.putfield 9, 3) := by decide +kernel
theorem dX2_init_13 : decode cX2_init 13 = .ok (.aload_n 0, 1) := by decide +kernel
theorem dX2_init_14 : decode cX2_init 14 = .ok (.sipush 601, 3) := by decide +kernel
theorem dX2_init_17 : decode cX2_init 17 = .ok (.newarray .int, 2) := by decide +kernel
theorem dX2_init_19 : decode cX2_init 19 = .ok (.putfield 15, 3) := by decide +kernel
theorem dX2_init_22 : decode cX2_init 22 = .ok (.return_, 1) := by decide +kernel
theorem dX2_isMinute_0 : decode cX2_isMinute 0 = .ok (.iload_n 0, 1) := by decide +kernel
theorem dX2_isMinute_1 : decode cX2_isMinute 1 = .ok (.ifCond .lt 14, 3) := by decide +kernel
theorem dX2_isMinute_4 : decode cX2_isMinute 4 = .ok (.iload_n 0, 1) := by decide +kernel
theorem dX2_isMinute_5 : decode cX2_isMinute 5 = .ok (.sipush 600, 3) := by decide +kernel
theorem dX2_isMinute_8 : decode cX2_isMinute 8 = .ok (.if_icmp .gt 7, 3) := by decide +kernel
theorem dX2_isMinute_11 : decode cX2_isMinute 11 = .ok (.iconst 1, 1) := by decide +kernel
theorem dX2_isMinute_12 : decode cX2_isMinute 12 = .ok (.goto 4, 3) := by decide +kernel
theorem dX2_isMinute_15 : decode cX2_isMinute 15 = .ok (.iconst 0, 1) := by decide +kernel
theorem dX2_isMinute_16 : decode cX2_isMinute 16 = .ok (.ireturn, 1) := by decide +kernel
theorem dX2_keep_0 : decode cX2_keep 0 = .ok (.iload_n 1, 1) := by decide +kernel
theorem dX2_keep_1 : decode cX2_keep 1 = .ok (.invokestatic 18, 3) := by decide +kernel
theorem dX2_keep_4 : decode cX2_keep 4 = .ok (.ifCond .eq 17, 3) := by decide +kernel
theorem dX2_keep_7 : decode cX2_keep 7 = .ok (.aload_n 0, 1) := by decide +kernel
theorem dX2_keep_8 : decode cX2_keep 8 = .ok (.getfield 9, 3) := by decide +kernel
theorem dX2_keep_11 : decode cX2_keep 11 = .ok (.iload_n 1, 1) := by decide +kernel
theorem dX2_keep_12 : decode cX2_keep 12 = .ok (.iload_n 2, 1) := by decide +kernel
theorem dX2_keep_13 : decode cX2_keep 13 = .ok (.iastore, 1) := by decide +kernel
theorem dX2_keep_14 : decode cX2_keep 14 = .ok (.aload_n 0, 1) := by decide +kernel
theorem dX2_keep_15 : decode cX2_keep 15 = .ok (.getfield 15, 3) := by decide +kernel
theorem dX2_keep_18 : decode cX2_keep 18 = .ok (.iload_n 1, 1) := by decide +kernel
theorem dX2_keep_19 : decode cX2_keep 19 = .ok (.iload_n 3, 1) := by decide +kernel
theorem dX2_keep_20 : decode cX2_keep 20 = .ok (.iastore, 1) := by decide +kernel
theorem dX2_keep_21 : decode cX2_keep 21 = .ok (.return_, 1) := by decide +kernel
theorem dX2_meltingIn_0 : decode cX2_meltingIn 0 = .ok (.iload_n 1, 1) := by decide +kernel
theorem dX2_meltingIn_1 : decode cX2_meltingIn 1 = .ok (.invokestatic 18, 3) := by decide +kernel
theorem dX2_meltingIn_4 : decode cX2_meltingIn 4 = .ok (.ifCond .eq 12, 3) := by decide +kernel
theorem dX2_meltingIn_7 : decode cX2_meltingIn 7 = .ok (.aload_n 0, 1) := by decide +kernel
theorem dX2_meltingIn_8 : decode cX2_meltingIn 8 = .ok (.getfield 9, 3) := by decide +kernel
theorem dX2_meltingIn_11 : decode cX2_meltingIn 11 = .ok (.iload_n 1, 1) := by decide +kernel
theorem dX2_meltingIn_12 : decode cX2_meltingIn 12 = .ok (.iaload, 1) := by decide +kernel
theorem dX2_meltingIn_13 : decode cX2_meltingIn 13 = .ok (.goto 4, 3) := by decide +kernel
theorem dX2_meltingIn_16 : decode cX2_meltingIn 16 = .ok (.iconst 0, 1) := by decide +kernel
theorem dX2_meltingIn_17 : decode cX2_meltingIn 17 = .ok (.ireturn, 1) := by decide +kernel
theorem dX2_stepIn_0 : decode cX2_stepIn 0 = .ok (.iload_n 1, 1) := by decide +kernel
theorem dX2_stepIn_1 : decode cX2_stepIn 1 = .ok (.invokestatic 18, 3) := by decide +kernel
theorem dX2_stepIn_4 : decode cX2_stepIn 4 = .ok (.ifCond .eq 12, 3) := by decide +kernel
theorem dX2_stepIn_7 : decode cX2_stepIn 7 = .ok (.aload_n 0, 1) := by decide +kernel
theorem dX2_stepIn_8 : decode cX2_stepIn 8 = .ok (.getfield 15, 3) := by decide +kernel
theorem dX2_stepIn_11 : decode cX2_stepIn 11 = .ok (.iload_n 1, 1) := by decide +kernel
theorem dX2_stepIn_12 : decode cX2_stepIn 12 = .ok (.iaload, 1) := by decide +kernel
theorem dX2_stepIn_13 : decode cX2_stepIn 13 = .ok (.goto 4, 3) := by decide +kernel
theorem dX2_stepIn_16 : decode cX2_stepIn 16 = .ok (.iconst 0, 1) := by decide +kernel
theorem dX2_stepIn_17 : decode cX2_stepIn 17 = .ok (.ireturn, 1) := by decide +kernel
theorem dX3_init_0 : decode cX3_init 0 = .ok (.aload_n 0, 1) := by decide +kernel
theorem dX3_init_1 : decode cX3_init 1 = .ok (.invokespecial 3, 3) := by decide +kernel
theorem dX3_init_4 : decode cX3_init 4 = .ok (.aload_n 0, 1) := by decide +kernel
theorem dX3_init_5 : decode cX3_init 5 = .ok (.bipush 100, 2) := by decide +kernel
theorem dX3_init_7 : decode cX3_init 7 = .ok (.newarray .int, 2) := by decide +kernel
theorem dX3_init_9 : decode cX3_init 9 = .ok (.putfield 9, 3) := by decide +kernel
theorem dX3_init_12 : decode cX3_init 12 = .ok (.aload_n 0, 1) := by decide +kernel
theorem dX3_init_13 : decode cX3_init 13 = .ok (.bipush 100, 2) := by decide +kernel
theorem dX3_init_15 : decode cX3_init 15 = .ok (.newarray .int, 2) := by decide +kernel
theorem dX3_init_17 : decode cX3_init 17 = .ok (.putfield 15, 3) := by decide +kernel
theorem dX3_init_20 : decode cX3_init 20 = .ok (.aload_n 0, 1) := by decide +kernel
theorem dX3_init_21 : decode cX3_init 21 = .ok (.bipush 100, 2) := by decide +kernel
theorem dX3_init_23 : decode cX3_init 23 = .ok (.newarray .int, 2) := by decide +kernel
theorem dX3_init_25 : decode cX3_init 25 = .ok (.putfield 18, 3) := by decide +kernel
theorem dX3_init_28 : decode cX3_init 28 = .ok (.aload_n 0, 1) := by decide +kernel
theorem dX3_init_29 : decode cX3_init 29 = .ok (.bipush 100, 2) := by decide +kernel
theorem dX3_init_31 : decode cX3_init 31 = .ok (.newarray .int, 2) := by decide +kernel
theorem dX3_init_33 : decode cX3_init 33 = .ok (.putfield 21, 3) := by decide +kernel
theorem dX3_init_36 : decode cX3_init 36 = .ok (.aload_n 0, 1) := by decide +kernel
theorem dX3_init_37 : decode cX3_init 37 = .ok (.bipush 100, 2) := by decide +kernel
theorem dX3_init_39 : decode cX3_init 39 = .ok (.newarray .int, 2) := by decide +kernel
theorem dX3_init_41 : decode cX3_init 41 = .ok (.putfield 24, 3) := by decide +kernel
theorem dX3_init_44 : decode cX3_init 44 = .ok (.aload_n 0, 1) := by decide +kernel
theorem dX3_init_45 : decode cX3_init 45 = .ok (.iconst 0, 1) := by decide +kernel
theorem dX3_init_46 : decode cX3_init 46 = .ok (.putfield 27, 3) := by decide +kernel
theorem dX3_init_49 : decode cX3_init 49 = .ok (.return_, 1) := by decide +kernel
theorem dX3_keep_0 : decode cX3_keep 0 = .ok (.aload_n 0, 1) := by decide +kernel
theorem dX3_keep_1 : decode cX3_keep 1 = .ok (.getfield 27, 3) := by decide +kernel
theorem dX3_keep_4 : decode cX3_keep 4 = .ok (.bipush 100, 2) := by decide +kernel
theorem dX3_keep_6 : decode cX3_keep 6 = .ok (.if_icmp .lt 4, 3) := by decide +kernel
theorem dX3_keep_9 : decode cX3_keep 9 = .ok (.return_, 1) := by decide +kernel
theorem dX3_keep_10 : decode cX3_keep 10 = .ok (.aload_n 0, 1) := by decide +kernel
theorem dX3_keep_11 : decode cX3_keep 11 = .ok (.getfield 9, 3) := by decide +kernel
theorem dX3_keep_14 : decode cX3_keep 14 = .ok (.aload_n 0, 1) := by decide +kernel
theorem dX3_keep_15 : decode cX3_keep 15 = .ok (.getfield 27, 3) := by decide +kernel
theorem dX3_keep_18 : decode cX3_keep 18 = .ok (.iload_n 1, 1) := by decide +kernel
theorem dX3_keep_19 : decode cX3_keep 19 = .ok (.iastore, 1) := by decide +kernel
theorem dX3_keep_20 : decode cX3_keep 20 = .ok (.aload_n 0, 1) := by decide +kernel
theorem dX3_keep_21 : decode cX3_keep 21 = .ok (.getfield 15, 3) := by decide +kernel
theorem dX3_keep_24 : decode cX3_keep 24 = .ok (.aload_n 0, 1) := by decide +kernel
theorem dX3_keep_25 : decode cX3_keep 25 = .ok (.getfield 27, 3) := by decide +kernel
theorem dX3_keep_28 : decode cX3_keep 28 = .ok (.iload_n 2, 1) := by decide +kernel
theorem dX3_keep_29 : decode cX3_keep 29 = .ok (.iastore, 1) := by decide +kernel
theorem dX3_keep_30 : decode cX3_keep 30 = .ok (.aload_n 0, 1) := by decide +kernel
theorem dX3_keep_31 : decode cX3_keep 31 = .ok (.getfield 18, 3) := by decide +kernel
theorem dX3_keep_34 : decode cX3_keep 34 = .ok (.aload_n 0, 1) := by decide +kernel
theorem dX3_keep_35 : decode cX3_keep 35 = .ok (.getfield 27, 3) := by decide +kernel
theorem dX3_keep_38 : decode cX3_keep 38 = .ok (.iload_n 3, 1) := by decide +kernel
theorem dX3_keep_39 : decode cX3_keep 39 = .ok (.iastore, 1) := by decide +kernel
theorem dX3_keep_40 : decode cX3_keep 40 = .ok (.aload_n 0, 1) := by decide +kernel
theorem dX3_keep_41 : decode cX3_keep 41 = .ok (.getfield 21, 3) := by decide +kernel
theorem dX3_keep_44 : decode cX3_keep 44 = .ok (.aload_n 0, 1) := by decide +kernel
theorem dX3_keep_45 : decode cX3_keep 45 = .ok (.getfield 27, 3) := by decide +kernel
theorem dX3_keep_48 : decode cX3_keep 48 = .ok (.iload 4, 2) := by decide +kernel
theorem dX3_keep_50 : decode cX3_keep 50 = .ok (.iastore, 1) := by decide +kernel
theorem dX3_keep_51 : decode cX3_keep 51 = .ok (.aload_n 0, 1) := by decide +kernel
theorem dX3_keep_52 : decode cX3_keep 52 = .ok (.getfield 24, 3) := by decide +kernel
theorem dX3_keep_55 : decode cX3_keep 55 = .ok (.aload_n 0, 1) := by decide +kernel
theorem dX3_keep_56 : decode cX3_keep 56 = .ok (.getfield 27, 3) := by decide +kernel
theorem dX3_keep_59 : decode cX3_keep 59 = .ok (.iload 5, 2) := by decide +kernel
theorem dX3_keep_61 : decode cX3_keep 61 = .ok (.iastore, 1) := by decide +kernel
theorem dX3_keep_62 : decode cX3_keep 62 = .ok (.aload_n 0, 1) := by decide +kernel
theorem dX3_keep_63 : decode cX3_keep 63 = .ok (.dup, 1) := by decide +kernel
theorem dX3_keep_64 : decode cX3_keep 64 = .ok (.getfield 27, 3) := by decide +kernel
theorem dX3_keep_67 : decode cX3_keep 67 = .ok (.iconst 1, 1) := by decide +kernel
theorem dX3_keep_68 : decode cX3_keep 68 = .ok (.iadd, 1) := by decide +kernel
theorem dX3_keep_69 : decode cX3_keep 69 = .ok (.putfield 27, 3) := by decide +kernel
theorem dX3_keep_72 : decode cX3_keep 72 = .ok (.return_, 1) := by decide +kernel
theorem dX3_has_0 : decode cX3_has 0 = .ok (.iload_n 1, 1) := by decide +kernel
theorem dX3_has_1 : decode cX3_has 1 = .ok (.ifCond .lt 21, 3) := by decide +kernel
theorem dX3_has_4 : decode cX3_has 4 = .ok (.iload_n 1, 1) := by decide +kernel
theorem dX3_has_5 : decode cX3_has 5 = .ok (.aload_n 0, 1) := by decide +kernel
theorem dX3_has_6 : decode cX3_has 6 = .ok (.getfield 27, 3) := by decide +kernel
theorem dX3_has_9 : decode cX3_has 9 = .ok (.if_icmp .ge 13, 3) := by decide +kernel
theorem dX3_has_12 : decode cX3_has 12 = .ok (.iload_n 1, 1) := by decide +kernel
theorem dX3_has_13 : decode cX3_has 13 = .ok (.bipush 100, 2) := by decide +kernel
theorem dX3_has_15 : decode cX3_has 15 = .ok (.if_icmp .ge 7, 3) := by decide +kernel
theorem dX3_has_18 : decode cX3_has 18 = .ok (.iconst 1, 1) := by decide +kernel
theorem dX3_has_19 : decode cX3_has 19 = .ok (.goto 4, 3) := by decide +kernel
theorem dX3_has_22 : decode cX3_has 22 = .ok (.iconst 0, 1) := by decide +kernel
theorem dX3_has_23 : decode cX3_has 23 = .ok (.ireturn, 1) := by decide +kernel
theorem dX3_kilometreAt_0 : decode cX3_kilometreAt 0 = .ok (.aload_n 0, 1) := by decide +kernel
theorem dX3_kilometreAt_1 : decode cX3_kilometreAt 1 = .ok (.iload_n 1, 1) := by decide +kernel
theorem dX3_kilometreAt_2 : decode cX3_kilometreAt 2 = .ok (.invokevirtual 31, 3) := by decide +kernel
theorem dX3_kilometreAt_5 : decode cX3_kilometreAt 5 = .ok (.ifCond .eq 12, 3) := by decide +kernel
theorem dX3_kilometreAt_8 : decode cX3_kilometreAt 8 = .ok (.aload_n 0, 1) := by decide +kernel
theorem dX3_kilometreAt_9 : decode cX3_kilometreAt 9 = .ok (.getfield 9, 3) := by decide +kernel
theorem dX3_kilometreAt_12 : decode cX3_kilometreAt 12 = .ok (.iload_n 1, 1) := by decide +kernel
theorem dX3_kilometreAt_13 : decode cX3_kilometreAt 13 = .ok (.iaload, 1) := by decide +kernel
theorem dX3_kilometreAt_14 : decode cX3_kilometreAt 14 = .ok (.goto 4, 3) := by decide +kernel
theorem dX3_kilometreAt_17 : decode cX3_kilometreAt 17 = .ok (.iconst 0, 1) := by decide +kernel
theorem dX3_kilometreAt_18 : decode cX3_kilometreAt 18 = .ok (.ireturn, 1) := by decide +kernel
theorem dX3_layerAt_0 : decode cX3_layerAt 0 = .ok (.aload_n 0, 1) := by decide +kernel
theorem dX3_layerAt_1 : decode cX3_layerAt 1 = .ok (.iload_n 1, 1) := by decide +kernel
theorem dX3_layerAt_2 : decode cX3_layerAt 2 = .ok (.invokevirtual 31, 3) := by decide +kernel
theorem dX3_layerAt_5 : decode cX3_layerAt 5 = .ok (.ifCond .eq 12, 3) := by decide +kernel
theorem dX3_layerAt_8 : decode cX3_layerAt 8 = .ok (.aload_n 0, 1) := by decide +kernel
theorem dX3_layerAt_9 : decode cX3_layerAt 9 = .ok (.getfield 15, 3) := by decide +kernel
theorem dX3_layerAt_12 : decode cX3_layerAt 12 = .ok (.iload_n 1, 1) := by decide +kernel
theorem dX3_layerAt_13 : decode cX3_layerAt 13 = .ok (.iaload, 1) := by decide +kernel
theorem dX3_layerAt_14 : decode cX3_layerAt 14 = .ok (.goto 4, 3) := by decide +kernel
theorem dX3_layerAt_17 : decode cX3_layerAt 17 = .ok (.iconst 0, 1) := by decide +kernel
theorem dX3_layerAt_18 : decode cX3_layerAt 18 = .ok (.ireturn, 1) := by decide +kernel
theorem dX3_sizeAt_0 : decode cX3_sizeAt 0 = .ok (.aload_n 0, 1) := by decide +kernel
theorem dX3_sizeAt_1 : decode cX3_sizeAt 1 = .ok (.iload_n 1, 1) := by decide +kernel
theorem dX3_sizeAt_2 : decode cX3_sizeAt 2 = .ok (.invokevirtual 31, 3) := by decide +kernel
theorem dX3_sizeAt_5 : decode cX3_sizeAt 5 = .ok (.ifCond .eq 12, 3) := by decide +kernel
theorem dX3_sizeAt_8 : decode cX3_sizeAt 8 = .ok (.aload_n 0, 1) := by decide +kernel
theorem dX3_sizeAt_9 : decode cX3_sizeAt 9 = .ok (.getfield 18, 3) := by decide +kernel
theorem dX3_sizeAt_12 : decode cX3_sizeAt 12 = .ok (.iload_n 1, 1) := by decide +kernel
theorem dX3_sizeAt_13 : decode cX3_sizeAt 13 = .ok (.iaload, 1) := by decide +kernel
theorem dX3_sizeAt_14 : decode cX3_sizeAt 14 = .ok (.goto 4, 3) := by decide +kernel
theorem dX3_sizeAt_17 : decode cX3_sizeAt 17 = .ok (.iconst 0, 1) := by decide +kernel
theorem dX3_sizeAt_18 : decode cX3_sizeAt 18 = .ok (.ireturn, 1) := by decide +kernel
theorem dX3_minuteAt_0 : decode cX3_minuteAt 0 = .ok (.aload_n 0, 1) := by decide +kernel
theorem dX3_minuteAt_1 : decode cX3_minuteAt 1 = .ok (.iload_n 1, 1) := by decide +kernel
theorem dX3_minuteAt_2 : decode cX3_minuteAt 2 = .ok (.invokevirtual 31, 3) := by decide +kernel
theorem dX3_minuteAt_5 : decode cX3_minuteAt 5 = .ok (.ifCond .eq 12, 3) := by decide +kernel
theorem dX3_minuteAt_8 : decode cX3_minuteAt 8 = .ok (.aload_n 0, 1) := by decide +kernel
theorem dX3_minuteAt_9 : decode cX3_minuteAt 9 = .ok (.getfield 24, 3) := by decide +kernel
theorem dX3_minuteAt_12 : decode cX3_minuteAt 12 = .ok (.iload_n 1, 1) := by decide +kernel
theorem dX3_minuteAt_13 : decode cX3_minuteAt 13 = .ok (.iaload, 1) := by decide +kernel
theorem dX3_minuteAt_14 : decode cX3_minuteAt 14 = .ok (.goto 4, 3) := by decide +kernel
theorem dX3_minuteAt_17 : decode cX3_minuteAt 17 = .ok (.iconst 0, 1) := by decide +kernel
theorem dX3_minuteAt_18 : decode cX3_minuteAt 18 = .ok (.ireturn, 1) := by decide +kernel
theorem dX3_waterAt_0 : decode cX3_waterAt 0 = .ok (.aload_n 0, 1) := by decide +kernel
theorem dX3_waterAt_1 : decode cX3_waterAt 1 = .ok (.iload_n 1, 1) := by decide +kernel
theorem dX3_waterAt_2 : decode cX3_waterAt 2 = .ok (.invokevirtual 31, 3) := by decide +kernel
theorem dX3_waterAt_5 : decode cX3_waterAt 5 = .ok (.ifCond .eq 21, 3) := by decide +kernel
theorem dX3_waterAt_8 : decode cX3_waterAt 8 = .ok (.aload_n 0, 1) := by decide +kernel
theorem dX3_waterAt_9 : decode cX3_waterAt 9 = .ok (.getfield 18, 3) := by decide +kernel
theorem dX3_waterAt_12 : decode cX3_waterAt 12 = .ok (.iload_n 1, 1) := by decide +kernel
theorem dX3_waterAt_13 : decode cX3_waterAt 13 = .ok (.iaload, 1) := by decide +kernel
theorem dX3_waterAt_14 : decode cX3_waterAt 14 = .ok (.aload_n 0, 1) := by decide +kernel
theorem dX3_waterAt_15 : decode cX3_waterAt 15 = .ok (.getfield 21, 3) := by decide +kernel
theorem dX3_waterAt_18 : decode cX3_waterAt 18 = .ok (.iload_n 1, 1) := by decide +kernel
theorem dX3_waterAt_19 : decode cX3_waterAt 19 = .ok (.iaload, 1) := by decide +kernel
theorem dX3_waterAt_20 : decode cX3_waterAt 20 = .ok (.invokestatic 35, 3) := by decide +kernel
theorem dX3_waterAt_23 : decode cX3_waterAt 23 = .ok (.goto 4, 3) := by decide +kernel
theorem dX3_waterAt_26 : decode cX3_waterAt 26 = .ok (.lconst 0, 1) := by decide +kernel
theorem dX3_waterAt_27 : decode cX3_waterAt 27 = .ok (.lreturn, 1) := by decide +kernel
theorem dX4_init_0 : decode cX4_init 0 = .ok (.aload_n 0, 1) := by decide +kernel
theorem dX4_init_1 : decode cX4_init 1 = .ok (.invokespecial 3, 3) := by decide +kernel
theorem dX4_init_4 : decode cX4_init 4 = .ok (.aload_n 0, 1) := by decide +kernel
theorem dX4_init_5 : decode cX4_init 5 = .ok (.sipush 600, 3) := by decide +kernel
theorem dX4_init_8 : decode cX4_init 8 = .ok (.newarray .long, 2) := by decide +kernel
theorem dX4_init_10 : decode cX4_init 10 = .ok (.putfield 9, 3) := by decide +kernel
theorem dX4_init_13 : decode cX4_init 13 = .ok (.aload_n 0, 1) := by decide +kernel
theorem dX4_init_14 : decode cX4_init 14 = .ok (.bipush 30, 2) := by decide +kernel
theorem dX4_init_16 : decode cX4_init 16 = .ok (.newarray .int, 2) := by decide +kernel
theorem dX4_init_18 : decode cX4_init 18 = .ok (.putfield 15, 3) := by decide +kernel
theorem dX4_init_21 : decode cX4_init 21 = .ok (.aload_n 0, 1) := by decide +kernel
theorem dX4_init_22 : decode cX4_init 22 = .ok (.iconst 0, 1) := by decide +kernel
theorem dX4_init_23 : decode cX4_init 23 = .ok (.putfield 19, 3) := by decide +kernel
theorem dX4_init_26 : decode cX4_init 26 = .ok (.return_, 1) := by decide +kernel
theorem dX4_begin_0 : decode cX4_begin 0 = .ok (.aload_n 0, 1) := by decide +kernel
theorem dX4_begin_1 : decode cX4_begin 1 = .ok (.getfield 19, 3) := by decide +kernel
theorem dX4_begin_4 : decode cX4_begin 4 = .ok (.bipush 30, 2) := by decide +kernel
theorem dX4_begin_6 : decode cX4_begin 6 = .ok (.if_icmp .ge 23, 3) := by decide +kernel
theorem dX4_begin_9 : decode cX4_begin 9 = .ok (.aload_n 0, 1) := by decide +kernel
theorem dX4_begin_10 : decode cX4_begin 10 = .ok (.getfield 15, 3) := by decide +kernel
theorem dX4_begin_13 : decode cX4_begin 13 = .ok (.aload_n 0, 1) := by decide +kernel
theorem dX4_begin_14 : decode cX4_begin 14 = .ok (.getfield 19, 3) := by decide +kernel
theorem dX4_begin_17 : decode cX4_begin 17 = .ok (.iload_n 1, 1) := by decide +kernel
theorem dX4_begin_18 : decode cX4_begin 18 = .ok (.iastore, 1) := by decide +kernel
theorem dX4_begin_19 : decode cX4_begin 19 = .ok (.aload_n 0, 1) := by decide +kernel
theorem dX4_begin_20 : decode cX4_begin 20 = .ok (.dup, 1) := by decide +kernel
theorem dX4_begin_21 : decode cX4_begin 21 = .ok (.getfield 19, 3) := by decide +kernel
theorem dX4_begin_24 : decode cX4_begin 24 = .ok (.iconst 1, 1) := by decide +kernel
theorem dX4_begin_25 : decode cX4_begin 25 = .ok (.iadd, 1) := by decide +kernel
theorem dX4_begin_26 : decode cX4_begin 26 = .ok (.putfield 19, 3) := by decide +kernel
theorem dX4_begin_29 : decode cX4_begin 29 = .ok (.return_, 1) := by decide +kernel
theorem dX4_slotOf_0 : decode cX4_slotOf 0 = .ok (.iload_n 1, 1) := by decide +kernel
theorem dX4_slotOf_1 : decode cX4_slotOf 1 = .ok (.ifCond .lt 27, 3) := by decide +kernel
theorem dX4_slotOf_4 : decode cX4_slotOf 4 = .ok (.iload_n 1, 1) := by decide +kernel
theorem dX4_slotOf_5 : decode cX4_slotOf 5 = .ok (.aload_n 0, 1) := by decide +kernel
theorem dX4_slotOf_6 : decode cX4_slotOf 6 = .ok (.getfield 19, 3) := by decide +kernel
theorem dX4_slotOf_9 : decode cX4_slotOf 9 = .ok (.if_icmp .ge 19, 3) := by decide +kernel
theorem dX4_slotOf_12 : decode cX4_slotOf 12 = .ok (.iload_n 1, 1) := by decide +kernel
theorem dX4_slotOf_13 : decode cX4_slotOf 13 = .ok (.bipush 30, 2) := by decide +kernel
theorem dX4_slotOf_15 : decode cX4_slotOf 15 = .ok (.if_icmp .ge 13, 3) := by decide +kernel
theorem dX4_slotOf_18 : decode cX4_slotOf 18 = .ok (.iload_n 2, 1) := by decide +kernel
theorem dX4_slotOf_19 : decode cX4_slotOf 19 = .ok (.ifCond .lt 9, 3) := by decide +kernel
theorem dX4_slotOf_22 : decode cX4_slotOf 22 = .ok (.iload_n 2, 1) := by decide +kernel
theorem dX4_slotOf_23 : decode cX4_slotOf 23 = .ok (.bipush 20, 2) := by decide +kernel
theorem dX4_slotOf_25 : decode cX4_slotOf 25 = .ok (.if_icmp .lt 5, 3) := by decide +kernel
theorem dX4_slotOf_28 : decode cX4_slotOf 28 = .ok (.iconst (-1), 1) := by decide +kernel
theorem dX4_slotOf_29 : decode cX4_slotOf 29 = .ok (.ireturn, 1) := by decide +kernel
theorem dX4_slotOf_30 : decode cX4_slotOf 30 = .ok (.iload_n 1, 1) := by decide +kernel
theorem dX4_slotOf_31 : decode cX4_slotOf 31 = .ok (.bipush 20, 2) := by decide +kernel
theorem dX4_slotOf_33 : decode cX4_slotOf 33 = .ok (.imul, 1) := by decide +kernel
theorem dX4_slotOf_34 : decode cX4_slotOf 34 = .ok (.iload_n 2, 1) := by decide +kernel
theorem dX4_slotOf_35 : decode cX4_slotOf 35 = .ok (.iadd, 1) := by decide +kernel
theorem dX4_slotOf_36 : decode cX4_slotOf 36 = .ok (.ireturn, 1) := by decide +kernel
theorem dX4_setLatest_0 : decode cX4_setLatest 0 = .ok (.aload_n 0, 1) := by decide +kernel
theorem dX4_setLatest_1 : decode cX4_setLatest 1 = .ok (.aload_n 0, 1) := by decide +kernel
theorem dX4_setLatest_2 : decode cX4_setLatest 2 = .ok (.getfield 19, 3) := by decide +kernel
theorem dX4_setLatest_5 : decode cX4_setLatest 5 = .ok (.iconst 1, 1) := by decide +kernel
theorem dX4_setLatest_6 : decode cX4_setLatest 6 = .ok (.isub, 1) := by decide +kernel
theorem dX4_setLatest_7 : decode cX4_setLatest 7 = .ok (.iload_n 1, 1) := by decide +kernel
theorem dX4_setLatest_8 : decode cX4_setLatest 8 = .ok (.invokevirtual 23, 3) := by decide +kernel
theorem dX4_setLatest_11 : decode cX4_setLatest 11 = .ok (.istore 4, 2) := by decide +kernel
theorem dX4_setLatest_13 : decode cX4_setLatest 13 = .ok (.iload 4, 2) := by decide +kernel
theorem dX4_setLatest_15 : decode cX4_setLatest 15 = .ok (.iconst (-1), 1) := by decide +kernel
theorem dX4_setLatest_16 : decode cX4_setLatest 16 = .ok (.if_icmp .eq 11, 3) := by decide +kernel
theorem dX4_setLatest_19 : decode cX4_setLatest 19 = .ok (.aload_n 0, 1) := by decide +kernel
theorem dX4_setLatest_20 : decode cX4_setLatest 20 = .ok (.getfield 9, 3) := by decide +kernel
theorem dX4_setLatest_23 : decode cX4_setLatest 23 = .ok (.iload 4, 2) := by decide +kernel
theorem dX4_setLatest_25 : decode cX4_setLatest 25 = .ok (.lload_n 2, 1) := by decide +kernel
theorem dX4_setLatest_26 : decode cX4_setLatest 26 = .ok (.lastore, 1) := by decide +kernel
theorem dX4_setLatest_27 : decode cX4_setLatest 27 = .ok (.return_, 1) := by decide +kernel
theorem dX4_echoAt_0 : decode cX4_echoAt 0 = .ok (.aload_n 0, 1) := by decide +kernel
theorem dX4_echoAt_1 : decode cX4_echoAt 1 = .ok (.iload_n 1, 1) := by decide +kernel
theorem dX4_echoAt_2 : decode cX4_echoAt 2 = .ok (.iload_n 2, 1) := by decide +kernel
theorem dX4_echoAt_3 : decode cX4_echoAt 3 = .ok (.invokevirtual 23, 3) := by decide +kernel
theorem dX4_echoAt_6 : decode cX4_echoAt 6 = .ok (.istore_n 3, 1) := by decide +kernel
theorem dX4_echoAt_7 : decode cX4_echoAt 7 = .ok (.iload_n 3, 1) := by decide +kernel
theorem dX4_echoAt_8 : decode cX4_echoAt 8 = .ok (.iconst (-1), 1) := by decide +kernel
theorem dX4_echoAt_9 : decode cX4_echoAt 9 = .ok (.if_icmp .ne 7, 3) := by decide +kernel
theorem dX4_echoAt_12 : decode cX4_echoAt 12 = .ok (.lconst 0, 1) := by decide +kernel
theorem dX4_echoAt_13 : decode cX4_echoAt 13 = .ok (.goto 9, 3) := by decide +kernel
theorem dX4_echoAt_16 : decode cX4_echoAt 16 = .ok (.aload_n 0, 1) := by decide +kernel
theorem dX4_echoAt_17 : decode cX4_echoAt 17 = .ok (.getfield 9, 3) := by decide +kernel
theorem dX4_echoAt_20 : decode cX4_echoAt 20 = .ok (.iload_n 3, 1) := by decide +kernel
theorem dX4_echoAt_21 : decode cX4_echoAt 21 = .ok (.laload, 1) := by decide +kernel
theorem dX4_echoAt_22 : decode cX4_echoAt 22 = .ok (.lreturn, 1) := by decide +kernel
theorem dX4_ruleAt_0 : decode cX4_ruleAt 0 = .ok (.iload_n 1, 1) := by decide +kernel
theorem dX4_ruleAt_1 : decode cX4_ruleAt 1 = .ok (.ifCond .lt 26, 3) := by decide +kernel
theorem dX4_ruleAt_4 : decode cX4_ruleAt 4 = .ok (.iload_n 1, 1) := by decide +kernel
theorem dX4_ruleAt_5 : decode cX4_ruleAt 5 = .ok (.aload_n 0, 1) := by decide +kernel
theorem dX4_ruleAt_6 : decode cX4_ruleAt 6 = .ok (.getfield 19, 3) := by decide +kernel
theorem dX4_ruleAt_9 : decode cX4_ruleAt 9 = .ok (.if_icmp .ge 18, 3) := by decide +kernel
theorem dX4_ruleAt_12 : decode cX4_ruleAt 12 = .ok (.iload_n 1, 1) := by decide +kernel
theorem dX4_ruleAt_13 : decode cX4_ruleAt 13 = .ok (.bipush 30, 2) := by decide +kernel
theorem dX4_ruleAt_15 : decode cX4_ruleAt 15 = .ok (.if_icmp .ge 12, 3) := by decide +kernel
theorem dX4_ruleAt_18 : decode cX4_ruleAt 18 = .ok (.aload_n 0, 1) := by decide +kernel
theorem dX4_ruleAt_19 : decode cX4_ruleAt 19 = .ok (.getfield 15, 3) := by decide +kernel
theorem dX4_ruleAt_22 : decode cX4_ruleAt 22 = .ok (.iload_n 1, 1) := by decide +kernel
theorem dX4_ruleAt_23 : decode cX4_ruleAt 23 = .ok (.iaload, 1) := by decide +kernel
theorem dX4_ruleAt_24 : decode cX4_ruleAt 24 = .ok (.goto 4, 3) := by decide +kernel
theorem dX4_ruleAt_27 : decode cX4_ruleAt 27 = .ok (.iconst 0, 1) := by decide +kernel
theorem dX4_ruleAt_28 : decode cX4_ruleAt 28 = .ok (.ireturn, 1) := by decide +kernel
theorem dX4_differenceBy_0 : decode cX4_differenceBy 0 = .ok (.lconst 0, 1) := by decide +kernel
theorem dX4_differenceBy_1 : decode cX4_differenceBy 1 = .ok (.lstore_n 2, 1) := by decide +kernel
theorem dX4_differenceBy_2 : decode cX4_differenceBy 2 = .ok (.iconst 0, 1) := by decide +kernel
theorem dX4_differenceBy_3 : decode cX4_differenceBy 3 = .ok (.istore 4, 2) := by decide +kernel
theorem dX4_differenceBy_5 : decode cX4_differenceBy 5 = .ok (.iload 4, 2) := by decide +kernel
theorem dX4_differenceBy_7 : decode cX4_differenceBy 7 = .ok (.bipush 20, 2) := by decide +kernel
theorem dX4_differenceBy_9 : decode cX4_differenceBy 9 = .ok (.if_icmp .ge 50, 3) := by decide +kernel
theorem dX4_differenceBy_12 : decode cX4_differenceBy 12 = .ok (.aload_n 0, 1) := by decide +kernel
theorem dX4_differenceBy_13 : decode cX4_differenceBy 13 = .ok (.aload_n 0, 1) := by decide +kernel
theorem dX4_differenceBy_14 : decode cX4_differenceBy 14 = .ok (.getfield 19, 3) := by decide +kernel
theorem dX4_differenceBy_17 : decode cX4_differenceBy 17 = .ok (.iconst 1, 1) := by decide +kernel
theorem dX4_differenceBy_18 : decode cX4_differenceBy 18 = .ok (.isub, 1) := by decide +kernel
theorem dX4_differenceBy_19 : decode cX4_differenceBy 19 = .ok (.iload 4, 2) := by decide +kernel
theorem dX4_differenceBy_21 : decode cX4_differenceBy 21 = .ok (.invokevirtual 27, 3) := by decide +kernel
theorem dX4_differenceBy_24 : decode cX4_differenceBy 24 = .ok (.lstore 5, 2) := by decide +kernel
theorem dX4_differenceBy_26 : decode cX4_differenceBy 26 = .ok (.aload_n 0, 1) := by decide +kernel
theorem dX4_differenceBy_27 : decode cX4_differenceBy 27 = .ok (.aload_n 0, 1) := by decide +kernel
theorem dX4_differenceBy_28 : decode cX4_differenceBy 28 = .ok (.getfield 19, 3) := by decide +kernel
theorem dX4_differenceBy_31 : decode cX4_differenceBy 31 = .ok (.iconst 2, 1) := by decide +kernel
theorem dX4_differenceBy_32 : decode cX4_differenceBy 32 = .ok (.isub, 1) := by decide +kernel
theorem dX4_differenceBy_33 : decode cX4_differenceBy 33 = .ok (.iload 4, 2) := by decide +kernel
theorem dX4_differenceBy_35 : decode cX4_differenceBy 35 = .ok (.iload_n 1, 1) := by decide +kernel
theorem dX4_differenceBy_36 : decode cX4_differenceBy 36 = .ok (.isub, 1) := by decide +kernel
theorem dX4_differenceBy_37 : decode cX4_differenceBy 37 = .ok (.invokevirtual 27, 3) := by decide +kernel
theorem dX4_differenceBy_40 : decode cX4_differenceBy 40 = .ok (.lstore 7, 2) := by decide +kernel
theorem dX4_differenceBy_42 : decode cX4_differenceBy 42 = .ok (.lload_n 2, 1) := by decide +kernel
theorem dX4_differenceBy_43 : decode cX4_differenceBy 43 = .ok (.lload 5, 2) := by decide +kernel
theorem dX4_differenceBy_45 : decode cX4_differenceBy 45 = .ok (.lload 7, 2) := by decide +kernel
theorem dX4_differenceBy_47 : decode cX4_differenceBy 47 = .ok (.lsub, 1) := by decide +kernel
theorem dX4_differenceBy_48 : decode cX4_differenceBy 48 = .ok (.invokestatic 31, 3) := by decide +kernel
theorem dX4_differenceBy_51 : decode cX4_differenceBy 51 = .ok (.ladd, 1) := by decide +kernel
theorem dX4_differenceBy_52 : decode cX4_differenceBy 52 = .ok (.lstore_n 2, 1) := by decide +kernel
theorem dX4_differenceBy_53 : decode cX4_differenceBy 53 = .ok (.iinc 4 1, 3) := by decide +kernel
theorem dX4_differenceBy_56 : decode cX4_differenceBy 56 = .ok (.goto (-51), 3) := by decide +kernel
theorem dX4_differenceBy_59 : decode cX4_differenceBy 59 = .ok (.lload_n 2, 1) := by decide +kernel
theorem dX4_differenceBy_60 : decode cX4_differenceBy 60 = .ok (.lreturn, 1) := by decide +kernel
theorem dX5_init_0 : decode cX5_init 0 = .ok (.aload_n 0, 1) := by decide +kernel
theorem dX5_init_1 : decode cX5_init 1 = .ok (.invokespecial 3, 3) := by decide +kernel
theorem dX5_init_4 : decode cX5_init 4 = .ok (.aload_n 0, 1) := by decide +kernel
theorem dX5_init_5 : decode cX5_init 5 = .ok (.new 9, 3) := by decide +kernel
theorem dX5_init_8 : decode cX5_init 8 = .ok (.dup, 1) := by decide +kernel
theorem dX5_init_9 : decode cX5_init 9 = .ok (.invokespecial 11, 3) := by decide +kernel
theorem dX5_init_12 : decode cX5_init 12 = .ok (.putfield 12, 3) := by decide +kernel
theorem dX5_init_15 : decode cX5_init 15 = .ok (.aload_n 0, 1) := by decide +kernel
theorem dX5_init_16 : decode cX5_init 16 = .ok (.new 16, 3) := by decide +kernel
theorem dX5_init_19 : decode cX5_init 19 = .ok (.dup, 1) := by decide +kernel
theorem dX5_init_20 : decode cX5_init 20 = .ok (.invokespecial 18, 3) := by decide +kernel
theorem dX5_init_23 : decode cX5_init 23 = .ok (.putfield 19, 3) := by decide +kernel
theorem dX5_init_26 : decode cX5_init 26 = .ok (.aload_n 0, 1) := by decide +kernel
theorem dX5_init_27 : decode cX5_init 27 = .ok (.new 23, 3) := by decide +kernel
theorem dX5_init_30 : decode cX5_init 30 = .ok (.dup, 1) := by decide +kernel
theorem dX5_init_31 : decode cX5_init 31 = .ok (.invokespecial 25, 3) := by decide +kernel
theorem dX5_init_34 : decode cX5_init 34 = .ok (.putfield 26, 3) := by decide +kernel
theorem dX5_init_37 : decode cX5_init 37 = .ok (.aload_n 0, 1) := by decide +kernel
theorem dX5_init_38 : decode cX5_init 38 = .ok (.new 30, 3) := by decide +kernel
theorem dX5_init_41 : decode cX5_init 41 = .ok (.dup, 1) := by decide +kernel
theorem dX5_init_42 : decode cX5_init 42 = .ok (.invokespecial 32, 3) := by decide +kernel
theorem dX5_init_45 : decode cX5_init 45 = .ok (.putfield 33, 3) := by decide +kernel
theorem dX5_init_48 : decode cX5_init 48 = .ok (.aload_n 0, 1) := by decide +kernel
theorem dX5_init_49 : decode cX5_init 49 = .ok (.new 37, 3) := by decide +kernel
theorem dX5_init_52 : decode cX5_init 52 = .ok (.dup, 1) := by decide +kernel
theorem dX5_init_53 : decode cX5_init 53 = .ok (.invokespecial 39, 3) := by decide +kernel
theorem dX5_init_56 : decode cX5_init 56 = .ok (.putfield 40, 3) := by decide +kernel
theorem dX5_init_59 : decode cX5_init 59 = .ok (.aload_n 0, 1) := by decide +kernel
theorem dX5_init_60 : decode cX5_init 60 = .ok (.bipush 20, 2) := by decide +kernel
theorem dX5_init_62 : decode cX5_init 62 = .ok (.newarray .int, 2) := by decide +kernel
theorem dX5_init_64 : decode cX5_init 64 = .ok (.putfield 44, 3) := by decide +kernel
theorem dX5_init_67 : decode cX5_init 67 = .ok (.aload_n 0, 1) := by decide +kernel
theorem dX5_init_68 : decode cX5_init 68 = .ok (.bipush 20, 2) := by decide +kernel
theorem dX5_init_70 : decode cX5_init 70 = .ok (.newarray .long, 2) := by decide +kernel
theorem dX5_init_72 : decode cX5_init 72 = .ok (.putfield 48, 3) := by decide +kernel
theorem dX5_init_75 : decode cX5_init 75 = .ok (.aload_n 0, 1) := by decide +kernel
theorem dX5_init_76 : decode cX5_init 76 = .ok (.iconst 5, 1) := by decide +kernel
theorem dX5_init_77 : decode cX5_init 77 = .ok (.putfield 52, 3) := by decide +kernel
theorem dX5_init_80 : decode cX5_init 80 = .ok (.aload_n 0, 1) := by decide +kernel
theorem dX5_init_81 : decode cX5_init 81 = .ok (.iconst 0, 1) := by decide +kernel
theorem dX5_init_82 : decode cX5_init 82 = .ok (.putfield 56, 3) := by decide +kernel
theorem dX5_init_85 : decode cX5_init 85 = .ok (.aload_n 0, 1) := by decide +kernel
theorem dX5_init_86 : decode cX5_init 86 = .ok (.iconst 0, 1) := by decide +kernel
theorem dX5_init_87 : decode cX5_init 87 = .ok (.putfield 59, 3) := by decide +kernel
theorem dX5_init_90 : decode cX5_init 90 = .ok (.aload_n 0, 1) := by decide +kernel
theorem dX5_init_91 : decode cX5_init 91 = .ok (.iconst 0, 1) := by decide +kernel
theorem dX5_init_92 : decode cX5_init 92 = .ok (.putfield 63, 3) := by decide +kernel
theorem dX5_init_95 : decode cX5_init 95 = .ok (.aload_n 0, 1) := by decide +kernel
theorem dX5_init_96 : decode cX5_init 96 = .ok (.bipush 10, 2) := by decide +kernel
theorem dX5_init_98 : decode cX5_init 98 = .ok (.putfield 66, 3) := by decide +kernel
theorem dX5_init_101 : decode cX5_init 101 = .ok (.aload_n 0, 1) := by decide +kernel
theorem dX5_init_102 : decode cX5_init 102 = .ok (.lconst 0, 1) := by decide +kernel
theorem dX5_init_103 : decode cX5_init 103 = .ok (.putfield 69, 3) := by decide +kernel
theorem dX5_init_106 : decode cX5_init 106 = .ok (.aload_n 0, 1) := by decide +kernel
theorem dX5_init_107 : decode cX5_init 107 = .ok (.lconst 0, 1) := by decide +kernel
theorem dX5_init_108 : decode cX5_init 108 = .ok (.putfield 73, 3) := by decide +kernel
theorem dX5_init_111 : decode cX5_init 111 = .ok (.return_, 1) := by decide +kernel
theorem dX5_drops_0 : decode cX5_drops 0 = .ok (.iload_n 1, 1) := by decide +kernel
theorem dX5_drops_1 : decode cX5_drops 1 = .ok (.invokestatic 76, 3) := by decide +kernel
theorem dX5_drops_4 : decode cX5_drops 4 = .ok (.iload_n 2, 1) := by decide +kernel
theorem dX5_drops_5 : decode cX5_drops 5 = .ok (.invokestatic 80, 3) := by decide +kernel
theorem dX5_drops_8 : decode cX5_drops 8 = .ok (.iload_n 3, 1) := by decide +kernel
theorem dX5_drops_9 : decode cX5_drops 9 = .ok (.iconst 1, 1) := by decide +kernel
theorem dX5_drops_10 : decode cX5_drops 10 = .ok (.iconst 3, 1) := by decide +kernel
theorem dX5_drops_11 : decode cX5_drops 11 = .ok (.invokestatic 83, 3) := by decide +kernel
theorem dX5_drops_14 : decode cX5_drops 14 = .ok (.iload 4, 2) := by decide +kernel
theorem dX5_drops_16 : decode cX5_drops 16 = .ok (.iconst 1, 1) := by decide +kernel
theorem dX5_drops_17 : decode cX5_drops 17 = .ok (.sipush 1000, 3) := by decide +kernel
theorem dX5_drops_20 : decode cX5_drops 20 = .ok (.invokestatic 83, 3) := by decide +kernel
theorem dX5_drops_23 : decode cX5_drops 23 = .ok (.aload_n 0, 1) := by decide +kernel
theorem dX5_drops_24 : decode cX5_drops 24 = .ok (.getfield 19, 3) := by decide +kernel
theorem dX5_drops_27 : decode cX5_drops 27 = .ok (.getfield 87, 3) := by decide +kernel
theorem dX5_drops_30 : decode cX5_drops 30 = .ok (.bipush 100, 2) := by decide +kernel
theorem dX5_drops_32 : decode cX5_drops 32 = .ok (.if_icmp .lt 13, 3) := by decide +kernel
theorem dX5_drops_35 : decode cX5_drops 35 = .ok (.new 90, 3) := by decide +kernel
theorem dX5_drops_38 : decode cX5_drops 38 = .ok (.dup, 1) := by decide +kernel
theorem dX5_drops_39 : decode cX5_drops 39 = .ok (.ldc 92, 2) := by decide +kernel
theorem dX5_drops_41 : decode cX5_drops 41 = .ok (.invokespecial 94, 3) := by decide +kernel
theorem dX5_drops_44 : decode cX5_drops 44 = .ok (.athrow, 1) := by decide +kernel
theorem dX5_drops_45 : decode cX5_drops 45 = .ok (.aload_n 0, 1) := by decide +kernel
theorem dX5_drops_46 : decode cX5_drops 46 = .ok (.getfield 12, 3) := by decide +kernel
theorem dX5_drops_49 : decode cX5_drops 49 = .ok (.iload_n 1, 1) := by decide +kernel
theorem dX5_drops_50 : decode cX5_drops 50 = .ok (.iload_n 2, 1) := by decide +kernel
theorem dX5_drops_51 : decode cX5_drops 51 = .ok (.iload_n 3, 1) := by decide +kernel
theorem dX5_drops_52 : decode cX5_drops 52 = .ok (.iload 4, 2) := by decide +kernel
theorem dX5_drops_54 : decode cX5_drops 54 = .ok (.invokevirtual 97, 3) := by decide +kernel
theorem dX5_drops_57 : decode cX5_drops 57 = .ok (.aload_n 0, 1) := by decide +kernel
theorem dX5_drops_58 : decode cX5_drops 58 = .ok (.getfield 19, 3) := by decide +kernel
theorem dX5_drops_61 : decode cX5_drops 61 = .ok (.iload_n 1, 1) := by decide +kernel
theorem dX5_drops_62 : decode cX5_drops 62 = .ok (.iload_n 2, 1) := by decide +kernel
theorem dX5_drops_63 : decode cX5_drops 63 = .ok (.iload_n 3, 1) := by decide +kernel
theorem dX5_drops_64 : decode cX5_drops 64 = .ok (.iload 4, 2) := by decide +kernel
theorem dX5_drops_66 : decode cX5_drops 66 = .ok (.aload_n 0, 1) := by decide +kernel
theorem dX5_drops_67 : decode cX5_drops 67 = .ok (.getfield 63, 3) := by decide +kernel
theorem dX5_drops_70 : decode cX5_drops 70 = .ok (.invokevirtual 101, 3) := by decide +kernel
theorem dX5_drops_73 : decode cX5_drops 73 = .ok (.aload_n 0, 1) := by decide +kernel
theorem dX5_drops_74 : decode cX5_drops 74 = .ok (.dup, 1) := by decide +kernel
theorem dX5_drops_75 : decode cX5_drops 75 = .ok (.getfield 69, 3) := by decide +kernel
theorem dX5_drops_78 : decode cX5_drops 78 = .ok (.iload_n 3, 1) := by decide +kernel
theorem dX5_drops_79 : decode cX5_drops 79 = .ok (.iload 4, 2) := by decide +kernel
theorem dX5_drops_81 : decode cX5_drops 81 = .ok (.invokestatic 105, 3) := by decide +kernel
theorem dX5_drops_84 : decode cX5_drops 84 = .ok (.ladd, 1) := by decide +kernel
theorem dX5_drops_85 : decode cX5_drops 85 = .ok (.putfield 69, 3) := by decide +kernel
theorem dX5_drops_88 : decode cX5_drops 88 = .ok (.aload_n 0, 1) := by decide +kernel
theorem dX5_drops_89 : decode cX5_drops 89 = .ok (.getfield 12, 3) := by decide +kernel
theorem dX5_drops_92 : decode cX5_drops 92 = .ok (.iload_n 1, 1) := by decide +kernel
theorem dX5_drops_93 : decode cX5_drops 93 = .ok (.iload_n 2, 1) := by decide +kernel
theorem dX5_drops_94 : decode cX5_drops 94 = .ok (.iload_n 3, 1) := by decide +kernel
theorem dX5_drops_95 : decode cX5_drops 95 = .ok (.invokevirtual 109, 3) := by decide +kernel
theorem dX5_drops_98 : decode cX5_drops 98 = .ok (.ireturn, 1) := by decide +kernel
theorem dX5_melt_0 : decode cX5_melt 0 = .ok (.iload_n 1, 1) := by decide +kernel
theorem dX5_melt_1 : decode cX5_melt 1 = .ok (.invokestatic 80, 3) := by decide +kernel
theorem dX5_melt_4 : decode cX5_melt 4 = .ok (.aload_n 0, 1) := by decide +kernel
theorem dX5_melt_5 : decode cX5_melt 5 = .ok (.getfield 52, 3) := by decide +kernel
theorem dX5_melt_8 : decode cX5_melt 8 = .ok (.istore_n 2, 1) := by decide +kernel
theorem dX5_melt_9 : decode cX5_melt 9 = .ok (.aload_n 0, 1) := by decide +kernel
theorem dX5_melt_10 : decode cX5_melt 10 = .ok (.iload_n 1, 1) := by decide +kernel
theorem dX5_melt_11 : decode cX5_melt 11 = .ok (.putfield 52, 3) := by decide +kernel
theorem dX5_melt_14 : decode cX5_melt 14 = .ok (.iload_n 2, 1) := by decide +kernel
theorem dX5_melt_15 : decode cX5_melt 15 = .ok (.ireturn, 1) := by decide +kernel
theorem dX5_hill_0 : decode cX5_hill 0 = .ok (.iload_n 1, 1) := by decide +kernel
theorem dX5_hill_1 : decode cX5_hill 1 = .ok (.invokestatic 76, 3) := by decide +kernel
theorem dX5_hill_4 : decode cX5_hill 4 = .ok (.iload_n 2, 1) := by decide +kernel
theorem dX5_hill_5 : decode cX5_hill 5 = .ok (.iconst 0, 1) := by decide +kernel
theorem dX5_hill_6 : decode cX5_hill 6 = .ok (.bipush 9, 2) := by decide +kernel
theorem dX5_hill_8 : decode cX5_hill 8 = .ok (.invokestatic 83, 3) := by decide +kernel
theorem dX5_hill_11 : decode cX5_hill 11 = .ok (.aload_n 0, 1) := by decide +kernel
theorem dX5_hill_12 : decode cX5_hill 12 = .ok (.getfield 44, 3) := by decide +kernel
theorem dX5_hill_15 : decode cX5_hill 15 = .ok (.iload_n 1, 1) := by decide +kernel
theorem dX5_hill_16 : decode cX5_hill 16 = .ok (.iaload, 1) := by decide +kernel
theorem dX5_hill_17 : decode cX5_hill 17 = .ok (.istore_n 3, 1) := by decide +kernel
theorem dX5_hill_18 : decode cX5_hill 18 = .ok (.aload_n 0, 1) := by decide +kernel
theorem dX5_hill_19 : decode cX5_hill 19 = .ok (.getfield 44, 3) := by decide +kernel
theorem dX5_hill_22 : decode cX5_hill 22 = .ok (.iload_n 1, 1) := by decide +kernel
theorem dX5_hill_23 : decode cX5_hill 23 = .ok (.iload_n 2, 1) := by decide +kernel
theorem dX5_hill_24 : decode cX5_hill 24 = .ok (.iastore, 1) := by decide +kernel
theorem dX5_hill_25 : decode cX5_hill 25 = .ok (.iload_n 3, 1) := by decide +kernel
theorem dX5_hill_26 : decode cX5_hill 26 = .ok (.ireturn, 1) := by decide +kernel
theorem dX5_drift_0 : decode cX5_drift 0 = .ok (.iload_n 1, 1) := by decide +kernel
theorem dX5_drift_1 : decode cX5_drift 1 = .ok (.iconst 0, 1) := by decide +kernel
theorem dX5_drift_2 : decode cX5_drift 2 = .ok (.bipush 60, 2) := by decide +kernel
theorem dX5_drift_4 : decode cX5_drift 4 = .ok (.invokestatic 83, 3) := by decide +kernel
theorem dX5_drift_7 : decode cX5_drift 7 = .ok (.aload_n 0, 1) := by decide +kernel
theorem dX5_drift_8 : decode cX5_drift 8 = .ok (.getfield 56, 3) := by decide +kernel
theorem dX5_drift_11 : decode cX5_drift 11 = .ok (.istore_n 3, 1) := by decide +kernel
theorem dX5_drift_12 : decode cX5_drift 12 = .ok (.aload_n 0, 1) := by decide +kernel
theorem dX5_drift_13 : decode cX5_drift 13 = .ok (.iload_n 1, 1) := by decide +kernel
theorem dX5_drift_14 : decode cX5_drift 14 = .ok (.putfield 56, 3) := by decide +kernel
theorem dX5_drift_17 : decode cX5_drift 17 = .ok (.aload_n 0, 1) := by decide +kernel
theorem dX5_drift_18 : decode cX5_drift 18 = .ok (.iload_n 2, 1) := by decide +kernel
theorem dX5_drift_19 : decode cX5_drift 19 = .ok (.putfield 59, 3) := by decide +kernel
theorem dX5_drift_22 : decode cX5_drift 22 = .ok (.iload_n 3, 1) := by decide +kernel
theorem dX5_drift_23 : decode cX5_drift 23 = .ok (.ireturn, 1) := by decide +kernel
theorem dX5_gauge_0 : decode cX5_gauge 0 = .ok (.iload_n 1, 1) := by decide +kernel
theorem dX5_gauge_1 : decode cX5_gauge 1 = .ok (.invokestatic 76, 3) := by decide +kernel
theorem dX5_gauge_4 : decode cX5_gauge 4 = .ok (.aload_n 0, 1) := by decide +kernel
theorem dX5_gauge_5 : decode cX5_gauge 5 = .ok (.getfield 33, 3) := by decide +kernel
theorem dX5_gauge_8 : decode cX5_gauge 8 = .ok (.iload_n 1, 1) := by decide +kernel
theorem dX5_gauge_9 : decode cX5_gauge 9 = .ok (.invokevirtual 113, 3) := by decide +kernel
theorem dX5_gauge_12 : decode cX5_gauge 12 = .ok (.istore_n 3, 1) := by decide +kernel
theorem dX5_gauge_13 : decode cX5_gauge 13 = .ok (.iload_n 3, 1) := by decide +kernel
theorem dX5_gauge_14 : decode cX5_gauge 14 = .ok (.iload_n 2, 1) := by decide +kernel
theorem dX5_gauge_15 : decode cX5_gauge 15 = .ok (.if_icmp .eq 12, 3) := by decide +kernel
theorem dX5_gauge_18 : decode cX5_gauge 18 = .ok (.aload_n 0, 1) := by decide +kernel
theorem dX5_gauge_19 : decode cX5_gauge 19 = .ok (.getfield 33, 3) := by decide +kernel
theorem dX5_gauge_22 : decode cX5_gauge 22 = .ok (.iload_n 1, 1) := by decide +kernel
theorem dX5_gauge_23 : decode cX5_gauge 23 = .ok (.iload_n 2, 1) := by decide +kernel
theorem dX5_gauge_24 : decode cX5_gauge 24 = .ok (.invokevirtual 117, 3) := by decide +kernel
theorem dX5_gauge_27 : decode cX5_gauge 27 = .ok (.iload_n 3, 1) := by decide +kernel
theorem dX5_gauge_28 : decode cX5_gauge 28 = .ok (.ireturn, 1) := by decide +kernel
theorem dX5_clog_0 : decode cX5_clog 0 = .ok (.iload_n 1, 1) := by decide +kernel
theorem dX5_clog_1 : decode cX5_clog 1 = .ok (.invokestatic 76, 3) := by decide +kernel
theorem dX5_clog_4 : decode cX5_clog 4 = .ok (.aload_n 0, 1) := by decide +kernel
theorem dX5_clog_5 : decode cX5_clog 5 = .ok (.iload_n 1, 1) := by decide +kernel
theorem dX5_clog_6 : decode cX5_clog 6 = .ok (.invokevirtual 121, 3) := by decide +kernel
theorem dX5_clog_9 : decode cX5_clog 9 = .ok (.aload_n 0, 1) := by decide +kernel
theorem dX5_clog_10 : decode cX5_clog 10 = .ok (.getfield 33, 3) := by decide +kernel
theorem dX5_clog_13 : decode cX5_clog 13 = .ok (.iload_n 1, 1) := by decide +kernel
theorem dX5_clog_14 : decode cX5_clog 14 = .ok (.invokevirtual 124, 3) := by decide +kernel
theorem dX5_clog_17 : decode cX5_clog 17 = .ok (.istore_n 3, 1) := by decide +kernel
theorem dX5_clog_18 : decode cX5_clog 18 = .ok (.aload_n 0, 1) := by decide +kernel
theorem dX5_clog_19 : decode cX5_clog 19 = .ok (.getfield 33, 3) := by decide +kernel
theorem dX5_clog_22 : decode cX5_clog 22 = .ok (.iload_n 1, 1) := by decide +kernel
theorem dX5_clog_23 : decode cX5_clog 23 = .ok (.iload_n 2, 1) := by decide +kernel
theorem dX5_clog_24 : decode cX5_clog 24 = .ok (.invokevirtual 127, 3) := by decide +kernel
theorem dX5_clog_27 : decode cX5_clog 27 = .ok (.iload_n 3, 1) := by decide +kernel
theorem dX5_clog_28 : decode cX5_clog 28 = .ok (.ireturn, 1) := by decide +kernel
theorem dX5_pass_0 : decode cX5_pass 0 = .ok (.iload_n 1, 1) := by decide +kernel
theorem dX5_pass_1 : decode cX5_pass 1 = .ok (.iconst 1, 1) := by decide +kernel
theorem dX5_pass_2 : decode cX5_pass 2 = .ok (.bipush 60, 2) := by decide +kernel
theorem dX5_pass_4 : decode cX5_pass 4 = .ok (.invokestatic 83, 3) := by decide +kernel
theorem dX5_pass_7 : decode cX5_pass 7 = .ok (.iload_n 1, 1) := by decide +kernel
theorem dX5_pass_8 : decode cX5_pass 8 = .ok (.sipush 600, 3) := by decide +kernel
theorem dX5_pass_11 : decode cX5_pass 11 = .ok (.aload_n 0, 1) := by decide +kernel
theorem dX5_pass_12 : decode cX5_pass 12 = .ok (.getfield 63, 3) := by decide +kernel
theorem dX5_pass_15 : decode cX5_pass 15 = .ok (.isub, 1) := by decide +kernel
theorem dX5_pass_16 : decode cX5_pass 16 = .ok (.if_icmp .le 13, 3) := by decide +kernel
theorem dX5_pass_19 : decode cX5_pass 19 = .ok (.new 90, 3) := by decide +kernel
theorem dX5_pass_22 : decode cX5_pass 22 = .ok (.dup, 1) := by decide +kernel
theorem dX5_pass_23 : decode cX5_pass 23 = .ok (.ldc 130, 2) := by decide +kernel
theorem dX5_pass_25 : decode cX5_pass 25 = .ok (.invokespecial 94, 3) := by decide +kernel
theorem dX5_pass_28 : decode cX5_pass 28 = .ok (.athrow, 1) := by decide +kernel
theorem dX5_pass_29 : decode cX5_pass 29 = .ok (.iconst 0, 1) := by decide +kernel
theorem dX5_pass_30 : decode cX5_pass 30 = .ok (.istore_n 2, 1) := by decide +kernel
theorem dX5_pass_31 : decode cX5_pass 31 = .ok (.iload_n 2, 1) := by decide +kernel
theorem dX5_pass_32 : decode cX5_pass 32 = .ok (.iload_n 1, 1) := by decide +kernel
theorem dX5_pass_33 : decode cX5_pass 33 = .ok (.if_icmp .ge 13, 3) := by decide +kernel
theorem dX5_pass_36 : decode cX5_pass 36 = .ok (.aload_n 0, 1) := by decide +kernel
theorem dX5_pass_37 : decode cX5_pass 37 = .ok (.invokevirtual 132, 3) := by decide +kernel
theorem dX5_pass_40 : decode cX5_pass 40 = .ok (.iinc 2 1, 3) := by decide +kernel
theorem dX5_pass_43 : decode cX5_pass 43 = .ok (.goto (-12), 3) := by decide +kernel
theorem dX5_pass_46 : decode cX5_pass 46 = .ok (.aload_n 0, 1) := by decide +kernel
theorem dX5_pass_47 : decode cX5_pass 47 = .ok (.getfield 63, 3) := by decide +kernel
theorem dX5_pass_50 : decode cX5_pass 50 = .ok (.ireturn, 1) := by decide +kernel
theorem dX5_scan_0 : decode cX5_scan 0 = .ok (.iload_n 1, 1) := by decide +kernel
theorem dX5_scan_1 : decode cX5_scan 1 = .ok (.iconst 0, 1) := by decide +kernel
theorem dX5_scan_2 : decode cX5_scan 2 = .ok (.iconst 3, 1) := by decide +kernel
theorem dX5_scan_3 : decode cX5_scan 3 = .ok (.invokestatic 83, 3) := by decide +kernel
theorem dX5_scan_6 : decode cX5_scan 6 = .ok (.aload_n 0, 1) := by decide +kernel
theorem dX5_scan_7 : decode cX5_scan 7 = .ok (.getfield 40, 3) := by decide +kernel
theorem dX5_scan_10 : decode cX5_scan 10 = .ok (.getfield 135, 3) := by decide +kernel
theorem dX5_scan_13 : decode cX5_scan 13 = .ok (.bipush 30, 2) := by decide +kernel
theorem dX5_scan_15 : decode cX5_scan 15 = .ok (.if_icmp .lt 13, 3) := by decide +kernel
theorem dX5_scan_18 : decode cX5_scan 18 = .ok (.new 90, 3) := by decide +kernel
theorem dX5_scan_21 : decode cX5_scan 21 = .ok (.dup, 1) := by decide +kernel
theorem dX5_scan_22 : decode cX5_scan 22 = .ok (.ldc 136, 2) := by decide +kernel
theorem dX5_scan_24 : decode cX5_scan 24 = .ok (.invokespecial 94, 3) := by decide +kernel
theorem dX5_scan_27 : decode cX5_scan 27 = .ok (.athrow, 1) := by decide +kernel
theorem dX5_scan_28 : decode cX5_scan 28 = .ok (.aload_n 0, 1) := by decide +kernel
theorem dX5_scan_29 : decode cX5_scan 29 = .ok (.iload_n 1, 1) := by decide +kernel
theorem dX5_scan_30 : decode cX5_scan 30 = .ok (.invokevirtual 138, 3) := by decide +kernel
theorem dX5_scan_33 : decode cX5_scan 33 = .ok (.istore_n 2, 1) := by decide +kernel
theorem dX5_scan_34 : decode cX5_scan 34 = .ok (.aload_n 0, 1) := by decide +kernel
theorem dX5_scan_35 : decode cX5_scan 35 = .ok (.getfield 40, 3) := by decide +kernel
theorem dX5_scan_38 : decode cX5_scan 38 = .ok (.aload_n 0, 1) := by decide +kernel
theorem dX5_scan_39 : decode cX5_scan 39 = .ok (.getfield 66, 3) := by decide +kernel
theorem dX5_scan_42 : decode cX5_scan 42 = .ok (.invokevirtual 142, 3) := by decide +kernel
theorem dX5_scan_45 : decode cX5_scan 45 = .ok (.iconst 0, 1) := by decide +kernel
theorem dX5_scan_46 : decode cX5_scan 46 = .ok (.istore_n 3, 1) := by decide +kernel
theorem dX5_scan_47 : decode cX5_scan 47 = .ok (.iload_n 3, 1) := by decide +kernel
theorem dX5_scan_48 : decode cX5_scan 48 = .ok (.iload_n 2, 1) := by decide +kernel
theorem dX5_scan_49 : decode cX5_scan 49 = .ok (.if_icmp .ge 23, 3) := by decide +kernel
theorem dX5_scan_52 : decode cX5_scan 52 = .ok (.aload_n 0, 1) := by decide +kernel
theorem dX5_scan_53 : decode cX5_scan 53 = .ok (.getfield 40, 3) := by decide +kernel
theorem dX5_scan_56 : decode cX5_scan 56 = .ok (.iload_n 3, 1) := by decide +kernel
theorem dX5_scan_57 : decode cX5_scan 57 = .ok (.aload_n 0, 1) := by decide +kernel
theorem dX5_scan_58 : decode cX5_scan 58 = .ok (.iload_n 3, 1) := by decide +kernel
theorem dX5_scan_59 : decode cX5_scan 59 = .ok (.iload_n 1, 1) := by decide +kernel
theorem dX5_scan_60 : decode cX5_scan 60 = .ok (.invokevirtual 145, 3) := by decide +kernel
theorem dX5_scan_63 : decode cX5_scan 63 = .ok (.invokevirtual 148, 3) := by decide +kernel
theorem dX5_scan_66 : decode cX5_scan 66 = .ok (.iinc 3 1, 3) := by decide +kernel
theorem dX5_scan_69 : decode cX5_scan 69 = .ok (.goto (-22), 3) := by decide +kernel
theorem dX5_scan_72 : decode cX5_scan 72 = .ok (.iload_n 2, 1) := by decide +kernel
theorem dX5_scan_73 : decode cX5_scan 73 = .ok (.ireturn, 1) := by decide +kernel
theorem dX5_rule_0 : decode cX5_rule 0 = .ok (.iload_n 1, 1) := by decide +kernel
theorem dX5_rule_1 : decode cX5_rule 1 = .ok (.iconst 1, 1) := by decide +kernel
theorem dX5_rule_2 : decode cX5_rule 2 = .ok (.sipush 1000, 3) := by decide +kernel
theorem dX5_rule_5 : decode cX5_rule 5 = .ok (.invokestatic 83, 3) := by decide +kernel
theorem dX5_rule_8 : decode cX5_rule 8 = .ok (.aload_n 0, 1) := by decide +kernel
theorem dX5_rule_9 : decode cX5_rule 9 = .ok (.getfield 66, 3) := by decide +kernel
theorem dX5_rule_12 : decode cX5_rule 12 = .ok (.istore_n 2, 1) := by decide +kernel
theorem dX5_rule_13 : decode cX5_rule 13 = .ok (.aload_n 0, 1) := by decide +kernel
theorem dX5_rule_14 : decode cX5_rule 14 = .ok (.iload_n 1, 1) := by decide +kernel
theorem dX5_rule_15 : decode cX5_rule 15 = .ok (.putfield 66, 3) := by decide +kernel
theorem dX5_rule_18 : decode cX5_rule 18 = .ok (.iload_n 2, 1) := by decide +kernel
theorem dX5_rule_19 : decode cX5_rule 19 = .ok (.ireturn, 1) := by decide +kernel
theorem dX5_count_0 : decode cX5_count 0 = .ok (.iload_n 1, 1) := by decide +kernel
theorem dX5_count_1 : decode cX5_count 1 = .ok (.invokestatic 76, 3) := by decide +kernel
theorem dX5_count_4 : decode cX5_count 4 = .ok (.iload_n 2, 1) := by decide +kernel
theorem dX5_count_5 : decode cX5_count 5 = .ok (.invokestatic 80, 3) := by decide +kernel
theorem dX5_count_8 : decode cX5_count 8 = .ok (.iload_n 3, 1) := by decide +kernel
theorem dX5_count_9 : decode cX5_count 9 = .ok (.iconst 1, 1) := by decide +kernel
theorem dX5_count_10 : decode cX5_count 10 = .ok (.iconst 3, 1) := by decide +kernel
theorem dX5_count_11 : decode cX5_count 11 = .ok (.invokestatic 83, 3) := by decide +kernel
theorem dX5_count_14 : decode cX5_count 14 = .ok (.aload_n 0, 1) := by decide +kernel
theorem dX5_count_15 : decode cX5_count 15 = .ok (.getfield 12, 3) := by decide +kernel
theorem dX5_count_18 : decode cX5_count 18 = .ok (.iload_n 1, 1) := by decide +kernel
theorem dX5_count_19 : decode cX5_count 19 = .ok (.iload_n 2, 1) := by decide +kernel
theorem dX5_count_20 : decode cX5_count 20 = .ok (.iload_n 3, 1) := by decide +kernel
theorem dX5_count_21 : decode cX5_count 21 = .ok (.invokevirtual 109, 3) := by decide +kernel
theorem dX5_count_24 : decode cX5_count 24 = .ok (.ireturn, 1) := by decide +kernel
theorem dX5_phase_0 : decode cX5_phase 0 = .ok (.iload_n 1, 1) := by decide +kernel
theorem dX5_phase_1 : decode cX5_phase 1 = .ok (.invokestatic 80, 3) := by decide +kernel
theorem dX5_phase_4 : decode cX5_phase 4 = .ok (.iload_n 1, 1) := by decide +kernel
theorem dX5_phase_5 : decode cX5_phase 5 = .ok (.aload_n 0, 1) := by decide +kernel
theorem dX5_phase_6 : decode cX5_phase 6 = .ok (.getfield 52, 3) := by decide +kernel
theorem dX5_phase_9 : decode cX5_phase 9 = .ok (.invokestatic 152, 3) := by decide +kernel
theorem dX5_phase_12 : decode cX5_phase 12 = .ok (.ireturn, 1) := by decide +kernel
theorem dX5_echo_0 : decode cX5_echo 0 = .ok (.iload_n 1, 1) := by decide +kernel
theorem dX5_echo_1 : decode cX5_echo 1 = .ok (.invokestatic 76, 3) := by decide +kernel
theorem dX5_echo_4 : decode cX5_echo 4 = .ok (.iload_n 2, 1) := by decide +kernel
theorem dX5_echo_5 : decode cX5_echo 5 = .ok (.iconst 0, 1) := by decide +kernel
theorem dX5_echo_6 : decode cX5_echo 6 = .ok (.iconst 3, 1) := by decide +kernel
theorem dX5_echo_7 : decode cX5_echo 7 = .ok (.invokestatic 83, 3) := by decide +kernel
theorem dX5_echo_10 : decode cX5_echo 10 = .ok (.iload_n 1, 1) := by decide +kernel
theorem dX5_echo_11 : decode cX5_echo 11 = .ok (.aload_n 0, 1) := by decide +kernel
theorem dX5_echo_12 : decode cX5_echo 12 = .ok (.iload_n 2, 1) := by decide +kernel
theorem dX5_echo_13 : decode cX5_echo 13 = .ok (.invokevirtual 138, 3) := by decide +kernel
theorem dX5_echo_16 : decode cX5_echo 16 = .ok (.if_icmp .ge 12, 3) := by decide +kernel
theorem dX5_echo_19 : decode cX5_echo 19 = .ok (.aload_n 0, 1) := by decide +kernel
theorem dX5_echo_20 : decode cX5_echo 20 = .ok (.iload_n 1, 1) := by decide +kernel
theorem dX5_echo_21 : decode cX5_echo 21 = .ok (.iload_n 2, 1) := by decide +kernel
theorem dX5_echo_22 : decode cX5_echo 22 = .ok (.invokevirtual 145, 3) := by decide +kernel
theorem dX5_echo_25 : decode cX5_echo 25 = .ok (.goto 6, 3) := by decide +kernel
theorem dX5_echo_28 : decode cX5_echo 28 = .ok (.ldc2_w 156, 3) := by decide +kernel
theorem dX5_echo_31 : decode cX5_echo 31 = .ok (.lreturn, 1) := by decide +kernel
theorem dX5_seen_0 : decode cX5_seen 0 = .ok (.iload_n 1, 1) := by decide +kernel
theorem dX5_seen_1 : decode cX5_seen 1 = .ok (.invokestatic 76, 3) := by decide +kernel
theorem dX5_seen_4 : decode cX5_seen 4 = .ok (.iload_n 2, 1) := by decide +kernel
theorem dX5_seen_5 : decode cX5_seen 5 = .ok (.iconst 0, 1) := by decide +kernel
theorem dX5_seen_6 : decode cX5_seen 6 = .ok (.iconst 3, 1) := by decide +kernel
theorem dX5_seen_7 : decode cX5_seen 7 = .ok (.invokestatic 83, 3) := by decide +kernel
theorem dX5_seen_10 : decode cX5_seen 10 = .ok (.iload_n 1, 1) := by decide +kernel
theorem dX5_seen_11 : decode cX5_seen 11 = .ok (.aload_n 0, 1) := by decide +kernel
theorem dX5_seen_12 : decode cX5_seen 12 = .ok (.iload_n 2, 1) := by decide +kernel
theorem dX5_seen_13 : decode cX5_seen 13 = .ok (.invokevirtual 138, 3) := by decide +kernel
theorem dX5_seen_16 : decode cX5_seen 16 = .ok (.if_icmp .ge 15, 3) := by decide +kernel
theorem dX5_seen_19 : decode cX5_seen 19 = .ok (.aload_n 0, 1) := by decide +kernel
theorem dX5_seen_20 : decode cX5_seen 20 = .ok (.iload_n 1, 1) := by decide +kernel
theorem dX5_seen_21 : decode cX5_seen 21 = .ok (.iload_n 2, 1) := by decide +kernel
theorem dX5_seen_22 : decode cX5_seen 22 = .ok (.invokevirtual 158, 3) := by decide +kernel
theorem dX5_seen_25 : decode cX5_seen 25 = .ok (.invokestatic 162, 3) := by decide +kernel
theorem dX5_seen_28 : decode cX5_seen 28 = .ok (.goto 6, 3) := by decide +kernel
theorem dX5_seen_31 : decode cX5_seen 31 = .ok (.ldc2_w 156, 3) := by decide +kernel
theorem dX5_seen_34 : decode cX5_seen 34 = .ok (.lreturn, 1) := by decide +kernel
theorem dX5_rain_0 : decode cX5_rain 0 = .ok (.iload_n 1, 1) := by decide +kernel
theorem dX5_rain_1 : decode cX5_rain 1 = .ok (.invokestatic 76, 3) := by decide +kernel
theorem dX5_rain_4 : decode cX5_rain 4 = .ok (.lconst 0, 1) := by decide +kernel
theorem dX5_rain_5 : decode cX5_rain 5 = .ok (.lstore_n 2, 1) := by decide +kernel
theorem dX5_rain_6 : decode cX5_rain 6 = .ok (.iconst 0, 1) := by decide +kernel
theorem dX5_rain_7 : decode cX5_rain 7 = .ok (.istore 4, 2) := by decide +kernel
theorem dX5_rain_9 : decode cX5_rain 9 = .ok (.iload 4, 2) := by decide +kernel
theorem dX5_rain_11 : decode cX5_rain 11 = .ok (.aload_n 0, 1) := by decide +kernel
theorem dX5_rain_12 : decode cX5_rain 12 = .ok (.getfield 40, 3) := by decide +kernel
theorem dX5_rain_15 : decode cX5_rain 15 = .ok (.getfield 135, 3) := by decide +kernel
theorem dX5_rain_18 : decode cX5_rain 18 = .ok (.if_icmp .ge 34, 3) := by decide +kernel
theorem dX5_rain_21 : decode cX5_rain 21 = .ok (.lload_n 2, 1) := by decide +kernel
theorem dX5_rain_22 : decode cX5_rain 22 = .ok (.aload_n 0, 1) := by decide +kernel
theorem dX5_rain_23 : decode cX5_rain 23 = .ok (.getfield 40, 3) := by decide +kernel
theorem dX5_rain_26 : decode cX5_rain 26 = .ok (.iload 4, 2) := by decide +kernel
theorem dX5_rain_28 : decode cX5_rain 28 = .ok (.iload_n 1, 1) := by decide +kernel
theorem dX5_rain_29 : decode cX5_rain 29 = .ok (.invokevirtual 166, 3) := by decide +kernel
theorem dX5_rain_32 : decode cX5_rain 32 = .ok (.aload_n 0, 1) := by decide +kernel
theorem dX5_rain_33 : decode cX5_rain 33 = .ok (.getfield 40, 3) := by decide +kernel
theorem dX5_rain_36 : decode cX5_rain 36 = .ok (.iload 4, 2) := by decide +kernel
theorem dX5_rain_38 : decode cX5_rain 38 = .ok (.invokevirtual 169, 3) := by decide +kernel
theorem dX5_rain_41 : decode cX5_rain 41 = .ok (.invokestatic 172, 3) := by decide +kernel
theorem dX5_rain_44 : decode cX5_rain 44 = .ok (.ladd, 1) := by decide +kernel
theorem dX5_rain_45 : decode cX5_rain 45 = .ok (.lstore_n 2, 1) := by decide +kernel
theorem dX5_rain_46 : decode cX5_rain 46 = .ok (.iinc 4 1, 3) := by decide +kernel
theorem dX5_rain_49 : decode cX5_rain 49 = .ok (.goto (-40), 3) := by decide +kernel
theorem dX5_rain_52 : decode cX5_rain 52 = .ok (.lload_n 2, 1) := by decide +kernel
theorem dX5_rain_53 : decode cX5_rain 53 = .ok (.lreturn, 1) := by decide +kernel
theorem dX5_rainBy_0 : decode cX5_rainBy 0 = .ok (.iload_n 1, 1) := by decide +kernel
theorem dX5_rainBy_1 : decode cX5_rainBy 1 = .ok (.invokestatic 76, 3) := by decide +kernel
theorem dX5_rainBy_4 : decode cX5_rainBy 4 = .ok (.iload_n 2, 1) := by decide +kernel
theorem dX5_rainBy_5 : decode cX5_rainBy 5 = .ok (.iconst 1, 1) := by decide +kernel
theorem dX5_rainBy_6 : decode cX5_rainBy 6 = .ok (.sipush 1000, 3) := by decide +kernel
theorem dX5_rainBy_9 : decode cX5_rainBy 9 = .ok (.invokestatic 83, 3) := by decide +kernel
theorem dX5_rainBy_12 : decode cX5_rainBy 12 = .ok (.lconst 0, 1) := by decide +kernel
theorem dX5_rainBy_13 : decode cX5_rainBy 13 = .ok (.lstore_n 3, 1) := by decide +kernel
theorem dX5_rainBy_14 : decode cX5_rainBy 14 = .ok (.iconst 0, 1) := by decide +kernel
theorem dX5_rainBy_15 : decode cX5_rainBy 15 = .ok (.istore 5, 2) := by decide +kernel
theorem dX5_rainBy_17 : decode cX5_rainBy 17 = .ok (.iload 5, 2) := by decide +kernel
theorem dX5_rainBy_19 : decode cX5_rainBy 19 = .ok (.aload_n 0, 1) := by decide +kernel
theorem dX5_rainBy_20 : decode cX5_rainBy 20 = .ok (.getfield 40, 3) := by decide +kernel
theorem dX5_rainBy_23 : decode cX5_rainBy 23 = .ok (.getfield 135, 3) := by decide +kernel
theorem dX5_rainBy_26 : decode cX5_rainBy 26 = .ok (.if_icmp .ge 26, 3) := by decide +kernel
theorem dX5_rainBy_29 : decode cX5_rainBy 29 = .ok (.lload_n 3, 1) := by decide +kernel
theorem dX5_rainBy_30 : decode cX5_rainBy 30 = .ok (.aload_n 0, 1) := by decide +kernel
theorem dX5_rainBy_31 : decode cX5_rainBy 31 = .ok (.getfield 40, 3) := by decide +kernel
theorem dX5_rainBy_34 : decode cX5_rainBy 34 = .ok (.iload 5, 2) := by decide +kernel
theorem dX5_rainBy_36 : decode cX5_rainBy 36 = .ok (.iload_n 1, 1) := by decide +kernel
theorem dX5_rainBy_37 : decode cX5_rainBy 37 = .ok (.invokevirtual 166, 3) := by decide +kernel
theorem dX5_rainBy_40 : decode cX5_rainBy 40 = .ok (.iload_n 2, 1) := by decide +kernel
theorem dX5_rainBy_41 : decode cX5_rainBy 41 = .ok (.invokestatic 172, 3) := by decide +kernel
theorem dX5_rainBy_44 : decode cX5_rainBy 44 = .ok (.ladd, 1) := by decide +kernel
theorem dX5_rainBy_45 : decode cX5_rainBy 45 = .ok (.lstore_n 3, 1) := by decide +kernel
theorem dX5_rainBy_46 : decode cX5_rainBy 46 = .ok (.iinc 5 1, 3) := by decide +kernel
theorem dX5_rainBy_49 : decode cX5_rainBy 49 = .ok (.goto (-32), 3) := by decide +kernel
theorem dX5_rainBy_52 : decode cX5_rainBy 52 = .ok (.lload_n 3, 1) := by decide +kernel
theorem dX5_rainBy_53 : decode cX5_rainBy 53 = .ok (.lreturn, 1) := by decide +kernel
theorem dX5_motion_0 : decode cX5_motion 0 = .ok (.aload_n 0, 1) := by decide +kernel
theorem dX5_motion_1 : decode cX5_motion 1 = .ok (.getfield 40, 3) := by decide +kernel
theorem dX5_motion_4 : decode cX5_motion 4 = .ok (.getfield 135, 3) := by decide +kernel
theorem dX5_motion_7 : decode cX5_motion 7 = .ok (.iconst 2, 1) := by decide +kernel
theorem dX5_motion_8 : decode cX5_motion 8 = .ok (.if_icmp .ge 13, 3) := by decide +kernel
theorem dX5_motion_11 : decode cX5_motion 11 = .ok (.new 90, 3) := by decide +kernel
theorem dX5_motion_14 : decode cX5_motion 14 = .ok (.dup, 1) := by decide +kernel
theorem dX5_motion_15 : decode cX5_motion 15 = .ok (.ldc 176, 2) := by decide +kernel
theorem dX5_motion_17 : decode cX5_motion 17 = .ok (.invokespecial 94, 3) := by decide +kernel
theorem dX5_motion_20 : decode cX5_motion 20 = .ok (.athrow, 1) := by decide +kernel
theorem dX5_motion_21 : decode cX5_motion 21 = .ok (.iconst 0, 1) := by decide +kernel
theorem dX5_motion_22 : decode cX5_motion 22 = .ok (.istore_n 1, 1) := by decide +kernel
theorem dX5_motion_23 : decode cX5_motion 23 = .ok (.aload_n 0, 1) := by decide +kernel
theorem dX5_motion_24 : decode cX5_motion 24 = .ok (.getfield 40, 3) := by decide +kernel
theorem dX5_motion_27 : decode cX5_motion 27 = .ok (.iconst 0, 1) := by decide +kernel
theorem dX5_motion_28 : decode cX5_motion 28 = .ok (.invokevirtual 178, 3) := by decide +kernel
theorem dX5_motion_31 : decode cX5_motion 31 = .ok (.lstore_n 2, 1) := by decide +kernel
theorem dX5_motion_32 : decode cX5_motion 32 = .ok (.iconst 1, 1) := by decide +kernel
theorem dX5_motion_33 : decode cX5_motion 33 = .ok (.istore 4, 2) := by decide +kernel
theorem dX5_motion_35 : decode cX5_motion 35 = .ok (.iload 4, 2) := by decide +kernel
theorem dX5_motion_37 : decode cX5_motion 37 = .ok (.iconst 3, 1) := by decide +kernel
theorem dX5_motion_38 : decode cX5_motion 38 = .ok (.if_icmp .gt 59, 3) := by decide +kernel
theorem dX5_motion_41 : decode cX5_motion 41 = .ok (.aload_n 0, 1) := by decide +kernel
theorem dX5_motion_42 : decode cX5_motion 42 = .ok (.getfield 40, 3) := by decide +kernel
theorem dX5_motion_45 : decode cX5_motion 45 = .ok (.iload 4, 2) := by decide +kernel
theorem dX5_motion_47 : decode cX5_motion 47 = .ok (.ineg, 1) := by decide +kernel
theorem dX5_motion_48 : decode cX5_motion 48 = .ok (.invokevirtual 178, 3) := by decide +kernel
theorem dX5_motion_51 : decode cX5_motion 51 = .ok (.lstore 5, 2) := by decide +kernel
theorem dX5_motion_53 : decode cX5_motion 53 = .ok (.lload 5, 2) := by decide +kernel
theorem dX5_motion_55 : decode cX5_motion 55 = .ok (.lload_n 2, 1) := by decide +kernel
theorem dX5_motion_56 : decode cX5_motion 56 = .ok (.lcmp, 1) := by decide +kernel
theorem dX5_motion_57 : decode cX5_motion 57 = .ok (.ifCond .ge 10, 3) := by decide +kernel
theorem dX5_motion_60 : decode cX5_motion 60 = .ok (.lload 5, 2) := by decide +kernel
theorem dX5_motion_62 : decode cX5_motion 62 = .ok (.lstore_n 2, 1) := by decide +kernel
theorem dX5_motion_63 : decode cX5_motion 63 = .ok (.iload 4, 2) := by decide +kernel
theorem dX5_motion_65 : decode cX5_motion 65 = .ok (.ineg, 1) := by decide +kernel
theorem dX5_motion_66 : decode cX5_motion 66 = .ok (.istore_n 1, 1) := by decide +kernel
theorem dX5_motion_67 : decode cX5_motion 67 = .ok (.aload_n 0, 1) := by decide +kernel
theorem dX5_motion_68 : decode cX5_motion 68 = .ok (.getfield 40, 3) := by decide +kernel
theorem dX5_motion_71 : decode cX5_motion 71 = .ok (.iload 4, 2) := by decide +kernel
theorem dX5_motion_73 : decode cX5_motion 73 = .ok (.invokevirtual 178, 3) := by decide +kernel
theorem dX5_motion_76 : decode cX5_motion 76 = .ok (.lstore 7, 2) := by decide +kernel
theorem dX5_motion_78 : decode cX5_motion 78 = .ok (.lload 7, 2) := by decide +kernel
theorem dX5_motion_80 : decode cX5_motion 80 = .ok (.lload_n 2, 1) := by decide +kernel
theorem dX5_motion_81 : decode cX5_motion 81 = .ok (.lcmp, 1) := by decide +kernel
theorem dX5_motion_82 : decode cX5_motion 82 = .ok (.ifCond .ge 9, 3) := by decide +kernel
theorem dX5_motion_85 : decode cX5_motion 85 = .ok (.lload 7, 2) := by decide +kernel
theorem dX5_motion_87 : decode cX5_motion 87 = .ok (.lstore_n 2, 1) := by decide +kernel
theorem dX5_motion_88 : decode cX5_motion 88 = .ok (.iload 4, 2) := by decide +kernel
theorem dX5_motion_90 : decode cX5_motion 90 = .ok (.istore_n 1, 1) := by decide +kernel
theorem dX5_motion_91 : decode cX5_motion 91 = .ok (.iinc 4 1, 3) := by decide +kernel
theorem dX5_motion_94 : decode cX5_motion 94 = .ok (.goto (-59), 3) := by decide +kernel
theorem dX5_motion_97 : decode cX5_motion 97 = .ok (.iload_n 1, 1) := by decide +kernel
theorem dX5_motion_98 : decode cX5_motion 98 = .ok (.ireturn, 1) := by decide +kernel
theorem dX5_collected_0 : decode cX5_collected 0 = .ok (.iload_n 1, 1) := by decide +kernel
theorem dX5_collected_1 : decode cX5_collected 1 = .ok (.invokestatic 76, 3) := by decide +kernel
theorem dX5_collected_4 : decode cX5_collected 4 = .ok (.aload_n 0, 1) := by decide +kernel
theorem dX5_collected_5 : decode cX5_collected 5 = .ok (.iload_n 1, 1) := by decide +kernel
theorem dX5_collected_6 : decode cX5_collected 6 = .ok (.invokevirtual 121, 3) := by decide +kernel
theorem dX5_collected_9 : decode cX5_collected 9 = .ok (.aload_n 0, 1) := by decide +kernel
theorem dX5_collected_10 : decode cX5_collected 10 = .ok (.getfield 33, 3) := by decide +kernel
theorem dX5_collected_13 : decode cX5_collected 13 = .ok (.iload_n 1, 1) := by decide +kernel
theorem dX5_collected_14 : decode cX5_collected 14 = .ok (.invokevirtual 182, 3) := by decide +kernel
theorem dX5_collected_17 : decode cX5_collected 17 = .ok (.lreturn, 1) := by decide +kernel
theorem dX5_ground_0 : decode cX5_ground 0 = .ok (.iload_n 1, 1) := by decide +kernel
theorem dX5_ground_1 : decode cX5_ground 1 = .ok (.invokestatic 76, 3) := by decide +kernel
theorem dX5_ground_4 : decode cX5_ground 4 = .ok (.aload_n 0, 1) := by decide +kernel
theorem dX5_ground_5 : decode cX5_ground 5 = .ok (.getfield 48, 3) := by decide +kernel
theorem dX5_ground_8 : decode cX5_ground 8 = .ok (.iload_n 1, 1) := by decide +kernel
theorem dX5_ground_9 : decode cX5_ground 9 = .ok (.laload, 1) := by decide +kernel
theorem dX5_ground_10 : decode cX5_ground 10 = .ok (.lreturn, 1) := by decide +kernel
theorem dX5_groundAnew_0 : decode cX5_groundAnew 0 = .ok (.iload_n 1, 1) := by decide +kernel
theorem dX5_groundAnew_1 : decode cX5_groundAnew 1 = .ok (.invokestatic 76, 3) := by decide +kernel
theorem dX5_groundAnew_4 : decode cX5_groundAnew 4 = .ok (.lconst 0, 1) := by decide +kernel
theorem dX5_groundAnew_5 : decode cX5_groundAnew 5 = .ok (.lstore_n 2, 1) := by decide +kernel
theorem dX5_groundAnew_6 : decode cX5_groundAnew 6 = .ok (.iconst 0, 1) := by decide +kernel
theorem dX5_groundAnew_7 : decode cX5_groundAnew 7 = .ok (.istore 4, 2) := by decide +kernel
theorem dX5_groundAnew_9 : decode cX5_groundAnew 9 = .ok (.iload 4, 2) := by decide +kernel
theorem dX5_groundAnew_11 : decode cX5_groundAnew 11 = .ok (.aload_n 0, 1) := by decide +kernel
theorem dX5_groundAnew_12 : decode cX5_groundAnew 12 = .ok (.getfield 19, 3) := by decide +kernel
theorem dX5_groundAnew_15 : decode cX5_groundAnew 15 = .ok (.getfield 87, 3) := by decide +kernel
theorem dX5_groundAnew_18 : decode cX5_groundAnew 18 = .ok (.if_icmp .ge 31, 3) := by decide +kernel
theorem dX5_groundAnew_21 : decode cX5_groundAnew 21 = .ok (.aload_n 0, 1) := by decide +kernel
theorem dX5_groundAnew_22 : decode cX5_groundAnew 22 = .ok (.iload 4, 2) := by decide +kernel
theorem dX5_groundAnew_24 : decode cX5_groundAnew 24 = .ok (.invokevirtual 185, 3) := by decide +kernel
theorem dX5_groundAnew_27 : decode cX5_groundAnew 27 = .ok (.iload_n 1, 1) := by decide +kernel
theorem dX5_groundAnew_28 : decode cX5_groundAnew 28 = .ok (.if_icmp .ne 15, 3) := by decide +kernel
theorem dX5_groundAnew_31 : decode cX5_groundAnew 31 = .ok (.lload_n 2, 1) := by decide +kernel
theorem dX5_groundAnew_32 : decode cX5_groundAnew 32 = .ok (.aload_n 0, 1) := by decide +kernel
theorem dX5_groundAnew_33 : decode cX5_groundAnew 33 = .ok (.getfield 19, 3) := by decide +kernel
theorem dX5_groundAnew_36 : decode cX5_groundAnew 36 = .ok (.iload 4, 2) := by decide +kernel
theorem dX5_groundAnew_38 : decode cX5_groundAnew 38 = .ok (.invokevirtual 188, 3) := by decide +kernel
theorem dX5_groundAnew_41 : decode cX5_groundAnew 41 = .ok (.ladd, 1) := by decide +kernel
theorem dX5_groundAnew_42 : decode cX5_groundAnew 42 = .ok (.lstore_n 2, 1) := by decide +kernel
theorem dX5_groundAnew_43 : decode cX5_groundAnew 43 = .ok (.iinc 4 1, 3) := by decide +kernel
theorem dX5_groundAnew_46 : decode cX5_groundAnew 46 = .ok (.goto (-37), 3) := by decide +kernel
theorem dX5_groundAnew_49 : decode cX5_groundAnew 49 = .ok (.lload_n 2, 1) := by decide +kernel
theorem dX5_groundAnew_50 : decode cX5_groundAnew 50 = .ok (.lreturn, 1) := by decide +kernel
theorem dX5_water_0 : decode cX5_water 0 = .ok (.iload_n 1, 1) := by decide +kernel
theorem dX5_water_1 : decode cX5_water 1 = .ok (.iconst 0, 1) := by decide +kernel
theorem dX5_water_2 : decode cX5_water 2 = .ok (.iconst 3, 1) := by decide +kernel
theorem dX5_water_3 : decode cX5_water 3 = .ok (.invokestatic 83, 3) := by decide +kernel
theorem dX5_water_6 : decode cX5_water 6 = .ok (.iload_n 1, 1) := by decide +kernel
theorem dX5_water_7 : decode cX5_water 7 = .ok (.tableswitch 43 0 2 #[25, 30, 38], 25) := by decide +kernel
theorem dX5_water_32 : decode cX5_water 32 = .ok (.aload_n 0, 1) := by decide +kernel
theorem dX5_water_33 : decode cX5_water 33 = .ok (.getfield 69, 3) := by decide +kernel
theorem dX5_water_36 : decode cX5_water 36 = .ok (.lreturn, 1) := by decide +kernel
theorem dX5_water_37 : decode cX5_water 37 = .ok (.aload_n 0, 1) := by decide +kernel
theorem dX5_water_38 : decode cX5_water 38 = .ok (.getfield 12, 3) := by decide +kernel
theorem dX5_water_41 : decode cX5_water 41 = .ok (.invokevirtual 191, 3) := by decide +kernel
theorem dX5_water_44 : decode cX5_water 44 = .ok (.lreturn, 1) := by decide +kernel
theorem dX5_water_45 : decode cX5_water 45 = .ok (.aload_n 0, 1) := by decide +kernel
theorem dX5_water_46 : decode cX5_water 46 = .ok (.invokevirtual 195, 3) := by decide +kernel
theorem dX5_water_49 : decode cX5_water 49 = .ok (.lreturn, 1) := by decide +kernel
theorem dX5_water_50 : decode cX5_water 50 = .ok (.aload_n 0, 1) := by decide +kernel
theorem dX5_water_51 : decode cX5_water 51 = .ok (.getfield 73, 3) := by decide +kernel
theorem dX5_water_54 : decode cX5_water 54 = .ok (.lreturn, 1) := by decide +kernel
theorem dX5_requireKilometre_0 : decode cX5_requireKilometre 0 = .ok (.iload_n 0, 1) := by decide +kernel
theorem dX5_requireKilometre_1 : decode cX5_requireKilometre 1 = .ok (.ifCond .lt 9, 3) := by decide +kernel
theorem dX5_requireKilometre_4 : decode cX5_requireKilometre 4 = .ok (.iload_n 0, 1) := by decide +kernel
theorem dX5_requireKilometre_5 : decode cX5_requireKilometre 5 = .ok (.bipush 20, 2) := by decide +kernel
theorem dX5_requireKilometre_7 : decode cX5_requireKilometre 7 = .ok (.if_icmp .lt 13, 3) := by decide +kernel
theorem dX5_requireKilometre_10 : decode cX5_requireKilometre 10 = .ok (.new 198, 3) := by decide +kernel
theorem dX5_requireKilometre_13 : decode cX5_requireKilometre 13 = .ok (.dup, 1) := by decide +kernel
theorem dX5_requireKilometre_14 : decode cX5_requireKilometre 14 = .ok (.ldc 200, 2) := by decide +kernel
theorem dX5_requireKilometre_16 : decode cX5_requireKilometre 16 = .ok (.invokespecial 202, 3) := by decide +kernel
theorem dX5_requireKilometre_19 : decode cX5_requireKilometre 19 = .ok (.athrow, 1) := by decide +kernel
theorem dX5_requireKilometre_20 : decode cX5_requireKilometre 20 = .ok (.return_, 1) := by decide +kernel
theorem dX5_requireLayer_0 : decode cX5_requireLayer 0 = .ok (.iload_n 0, 1) := by decide +kernel
theorem dX5_requireLayer_1 : decode cX5_requireLayer 1 = .ok (.ifCond .lt 9, 3) := by decide +kernel
theorem dX5_requireLayer_4 : decode cX5_requireLayer 4 = .ok (.iload_n 0, 1) := by decide +kernel
theorem dX5_requireLayer_5 : decode cX5_requireLayer 5 = .ok (.bipush 10, 2) := by decide +kernel
theorem dX5_requireLayer_7 : decode cX5_requireLayer 7 = .ok (.if_icmp .lt 13, 3) := by decide +kernel
theorem dX5_requireLayer_10 : decode cX5_requireLayer 10 = .ok (.new 198, 3) := by decide +kernel
theorem dX5_requireLayer_13 : decode cX5_requireLayer 13 = .ok (.dup, 1) := by decide +kernel
theorem dX5_requireLayer_14 : decode cX5_requireLayer 14 = .ok (.ldc 203, 2) := by decide +kernel
theorem dX5_requireLayer_16 : decode cX5_requireLayer 16 = .ok (.invokespecial 202, 3) := by decide +kernel
theorem dX5_requireLayer_19 : decode cX5_requireLayer 19 = .ok (.athrow, 1) := by decide +kernel
theorem dX5_requireLayer_20 : decode cX5_requireLayer 20 = .ok (.return_, 1) := by decide +kernel
theorem dX5_requireGauge_0 : decode cX5_requireGauge 0 = .ok (.aload_n 0, 1) := by decide +kernel
theorem dX5_requireGauge_1 : decode cX5_requireGauge 1 = .ok (.getfield 33, 3) := by decide +kernel
theorem dX5_requireGauge_4 : decode cX5_requireGauge 4 = .ok (.iload_n 1, 1) := by decide +kernel
theorem dX5_requireGauge_5 : decode cX5_requireGauge 5 = .ok (.invokevirtual 113, 3) := by decide +kernel
theorem dX5_requireGauge_8 : decode cX5_requireGauge 8 = .ok (.ifCond .ne 13, 3) := by decide +kernel
theorem dX5_requireGauge_11 : decode cX5_requireGauge 11 = .ok (.new 198, 3) := by decide +kernel
theorem dX5_requireGauge_14 : decode cX5_requireGauge 14 = .ok (.dup, 1) := by decide +kernel
theorem dX5_requireGauge_15 : decode cX5_requireGauge 15 = .ok (.ldc 205, 2) := by decide +kernel
theorem dX5_requireGauge_17 : decode cX5_requireGauge 17 = .ok (.invokespecial 202, 3) := by decide +kernel
theorem dX5_requireGauge_20 : decode cX5_requireGauge 20 = .ok (.athrow, 1) := by decide +kernel
theorem dX5_requireGauge_21 : decode cX5_requireGauge 21 = .ok (.return_, 1) := by decide +kernel
theorem dX5_requireRange_0 : decode cX5_requireRange 0 = .ok (.iload_n 0, 1) := by decide +kernel
theorem dX5_requireRange_1 : decode cX5_requireRange 1 = .ok (.iload_n 1, 1) := by decide +kernel
theorem dX5_requireRange_2 : decode cX5_requireRange 2 = .ok (.if_icmp .lt 8, 3) := by decide +kernel
theorem dX5_requireRange_5 : decode cX5_requireRange 5 = .ok (.iload_n 0, 1) := by decide +kernel
theorem dX5_requireRange_6 : decode cX5_requireRange 6 = .ok (.iload_n 2, 1) := by decide +kernel
theorem dX5_requireRange_7 : decode cX5_requireRange 7 = .ok (.if_icmp .le 13, 3) := by decide +kernel
theorem dX5_requireRange_10 : decode cX5_requireRange 10 = .ok (.new 207, 3) := by decide +kernel
theorem dX5_requireRange_13 : decode cX5_requireRange 13 = .ok (.dup, 1) := by decide +kernel
theorem dX5_requireRange_14 : decode cX5_requireRange 14 = .ok (.ldc 209, 2) := by decide +kernel
theorem dX5_requireRange_16 : decode cX5_requireRange 16 = .ok (.invokespecial 211, 3) := by decide +kernel
theorem dX5_requireRange_19 : decode cX5_requireRange 19 = .ok (.athrow, 1) := by decide +kernel
theorem dX5_requireRange_20 : decode cX5_requireRange 20 = .ok (.return_, 1) := by decide +kernel
theorem dX5_phaseIn_0 : decode cX5_phaseIn 0 = .ok (.iload_n 0, 1) := by decide +kernel
theorem dX5_phaseIn_1 : decode cX5_phaseIn 1 = .ok (.iload_n 1, 1) := by decide +kernel
theorem dX5_phaseIn_2 : decode cX5_phaseIn 2 = .ok (.if_icmp .le 5, 3) := by decide +kernel
theorem dX5_phaseIn_5 : decode cX5_phaseIn 5 = .ok (.iconst 0, 1) := by decide +kernel
theorem dX5_phaseIn_6 : decode cX5_phaseIn 6 = .ok (.ireturn, 1) := by decide +kernel
theorem dX5_phaseIn_7 : decode cX5_phaseIn 7 = .ok (.iload_n 0, 1) := by decide +kernel
theorem dX5_phaseIn_8 : decode cX5_phaseIn 8 = .ok (.iload_n 1, 1) := by decide +kernel
theorem dX5_phaseIn_9 : decode cX5_phaseIn 9 = .ok (.if_icmp .ne 7, 3) := by decide +kernel
theorem dX5_phaseIn_12 : decode cX5_phaseIn 12 = .ok (.iconst 1, 1) := by decide +kernel
theorem dX5_phaseIn_13 : decode cX5_phaseIn 13 = .ok (.goto 4, 3) := by decide +kernel
theorem dX5_phaseIn_16 : decode cX5_phaseIn 16 = .ok (.iconst 2, 1) := by decide +kernel
theorem dX5_phaseIn_17 : decode cX5_phaseIn 17 = .ok (.ireturn, 1) := by decide +kernel
theorem dX5_fallOf_0 : decode cX5_fallOf 0 = .ok (.iload_n 0, 1) := by decide +kernel
theorem dX5_fallOf_1 : decode cX5_fallOf 1 = .ok (.iload_n 2, 1) := by decide +kernel
theorem dX5_fallOf_2 : decode cX5_fallOf 2 = .ok (.invokestatic 152, 3) := by decide +kernel
theorem dX5_fallOf_5 : decode cX5_fallOf 5 = .ok (.ifCond .ne 7, 3) := by decide +kernel
theorem dX5_fallOf_8 : decode cX5_fallOf 8 = .ok (.iconst 1, 1) := by decide +kernel
theorem dX5_fallOf_9 : decode cX5_fallOf 9 = .ok (.goto 4, 3) := by decide +kernel
theorem dX5_fallOf_12 : decode cX5_fallOf 12 = .ok (.iload_n 1, 1) := by decide +kernel
theorem dX5_fallOf_13 : decode cX5_fallOf 13 = .ok (.ireturn, 1) := by decide +kernel
theorem dX5_waterOf_0 : decode cX5_waterOf 0 = .ok (.iload_n 0, 1) := by decide +kernel
theorem dX5_waterOf_1 : decode cX5_waterOf 1 = .ok (.i2l, 1) := by decide +kernel
theorem dX5_waterOf_2 : decode cX5_waterOf 2 = .ok (.iload_n 0, 1) := by decide +kernel
theorem dX5_waterOf_3 : decode cX5_waterOf 3 = .ok (.i2l, 1) := by decide +kernel
theorem dX5_waterOf_4 : decode cX5_waterOf 4 = .ok (.lmul, 1) := by decide +kernel
theorem dX5_waterOf_5 : decode cX5_waterOf 5 = .ok (.iload_n 0, 1) := by decide +kernel
theorem dX5_waterOf_6 : decode cX5_waterOf 6 = .ok (.i2l, 1) := by decide +kernel
theorem dX5_waterOf_7 : decode cX5_waterOf 7 = .ok (.lmul, 1) := by decide +kernel
theorem dX5_waterOf_8 : decode cX5_waterOf 8 = .ok (.iload_n 1, 1) := by decide +kernel
theorem dX5_waterOf_9 : decode cX5_waterOf 9 = .ok (.i2l, 1) := by decide +kernel
theorem dX5_waterOf_10 : decode cX5_waterOf 10 = .ok (.lmul, 1) := by decide +kernel
theorem dX5_waterOf_11 : decode cX5_waterOf 11 = .ok (.lreturn, 1) := by decide +kernel
theorem dX5_waterOnGround_0 : decode cX5_waterOnGround 0 = .ok (.lconst 0, 1) := by decide +kernel
theorem dX5_waterOnGround_1 : decode cX5_waterOnGround 1 = .ok (.lstore_n 1, 1) := by decide +kernel
theorem dX5_waterOnGround_2 : decode cX5_waterOnGround 2 = .ok (.iconst 0, 1) := by decide +kernel
theorem dX5_waterOnGround_3 : decode cX5_waterOnGround 3 = .ok (.istore_n 3, 1) := by decide +kernel
theorem dX5_waterOnGround_4 : decode cX5_waterOnGround 4 = .ok (.iload_n 3, 1) := by decide +kernel
theorem dX5_waterOnGround_5 : decode cX5_waterOnGround 5 = .ok (.bipush 20, 2) := by decide +kernel
theorem dX5_waterOnGround_7 : decode cX5_waterOnGround 7 = .ok (.if_icmp .ge 18, 3) := by decide +kernel
theorem dX5_waterOnGround_10 : decode cX5_waterOnGround 10 = .ok (.lload_n 1, 1) := by decide +kernel
theorem dX5_waterOnGround_11 : decode cX5_waterOnGround 11 = .ok (.aload_n 0, 1) := by decide +kernel
theorem dX5_waterOnGround_12 : decode cX5_waterOnGround 12 = .ok (.getfield 48, 3) := by decide +kernel
theorem dX5_waterOnGround_15 : decode cX5_waterOnGround 15 = .ok (.iload_n 3, 1) := by decide +kernel
theorem dX5_waterOnGround_16 : decode cX5_waterOnGround 16 = .ok (.laload, 1) := by decide +kernel
theorem dX5_waterOnGround_17 : decode cX5_waterOnGround 17 = .ok (.ladd, 1) := by decide +kernel
theorem dX5_waterOnGround_18 : decode cX5_waterOnGround 18 = .ok (.lstore_n 1, 1) := by decide +kernel
theorem dX5_waterOnGround_19 : decode cX5_waterOnGround 19 = .ok (.iinc 3 1, 3) := by decide +kernel
theorem dX5_waterOnGround_22 : decode cX5_waterOnGround 22 = .ok (.goto (-18), 3) := by decide +kernel
theorem dX5_waterOnGround_25 : decode cX5_waterOnGround 25 = .ok (.lload_n 1, 1) := by decide +kernel
theorem dX5_waterOnGround_26 : decode cX5_waterOnGround 26 = .ok (.lreturn, 1) := by decide +kernel
theorem dX5_passOne_0 : decode cX5_passOne 0 = .ok (.aload_n 0, 1) := by decide +kernel
theorem dX5_passOne_1 : decode cX5_passOne 1 = .ok (.dup, 1) := by decide +kernel
theorem dX5_passOne_2 : decode cX5_passOne 2 = .ok (.getfield 63, 3) := by decide +kernel
theorem dX5_passOne_5 : decode cX5_passOne 5 = .ok (.iconst 1, 1) := by decide +kernel
theorem dX5_passOne_6 : decode cX5_passOne 6 = .ok (.iadd, 1) := by decide +kernel
theorem dX5_passOne_7 : decode cX5_passOne 7 = .ok (.putfield 63, 3) := by decide +kernel
theorem dX5_passOne_10 : decode cX5_passOne 10 = .ok (.aload_n 0, 1) := by decide +kernel
theorem dX5_passOne_11 : decode cX5_passOne 11 = .ok (.aload_n 0, 1) := by decide +kernel
theorem dX5_passOne_12 : decode cX5_passOne 12 = .ok (.getfield 63, 3) := by decide +kernel
theorem dX5_passOne_15 : decode cX5_passOne 15 = .ok (.invokevirtual 212, 3) := by decide +kernel
theorem dX5_passOne_18 : decode cX5_passOne 18 = .ok (.istore_n 1, 1) := by decide +kernel
theorem dX5_passOne_19 : decode cX5_passOne 19 = .ok (.aload_n 0, 1) := by decide +kernel
theorem dX5_passOne_20 : decode cX5_passOne 20 = .ok (.getfield 26, 3) := by decide +kernel
theorem dX5_passOne_23 : decode cX5_passOne 23 = .ok (.aload_n 0, 1) := by decide +kernel
theorem dX5_passOne_24 : decode cX5_passOne 24 = .ok (.getfield 63, 3) := by decide +kernel
theorem dX5_passOne_27 : decode cX5_passOne 27 = .ok (.aload_n 0, 1) := by decide +kernel
theorem dX5_passOne_28 : decode cX5_passOne 28 = .ok (.getfield 52, 3) := by decide +kernel
theorem dX5_passOne_31 : decode cX5_passOne 31 = .ok (.iload_n 1, 1) := by decide +kernel
theorem dX5_passOne_32 : decode cX5_passOne 32 = .ok (.invokevirtual 215, 3) := by decide +kernel
theorem dX5_passOne_35 : decode cX5_passOne 35 = .ok (.iconst 0, 1) := by decide +kernel
theorem dX5_passOne_36 : decode cX5_passOne 36 = .ok (.istore_n 2, 1) := by decide +kernel
theorem dX5_passOne_37 : decode cX5_passOne 37 = .ok (.iload_n 2, 1) := by decide +kernel
theorem dX5_passOne_38 : decode cX5_passOne 38 = .ok (.bipush 20, 2) := by decide +kernel
theorem dX5_passOne_40 : decode cX5_passOne 40 = .ok (.if_icmp .ge 41, 3) := by decide +kernel
theorem dX5_passOne_43 : decode cX5_passOne 43 = .ok (.aload_n 0, 1) := by decide +kernel
theorem dX5_passOne_44 : decode cX5_passOne 44 = .ok (.getfield 12, 3) := by decide +kernel
theorem dX5_passOne_47 : decode cX5_passOne 47 = .ok (.iload_n 2, 1) := by decide +kernel
theorem dX5_passOne_48 : decode cX5_passOne 48 = .ok (.aload_n 0, 1) := by decide +kernel
theorem dX5_passOne_49 : decode cX5_passOne 49 = .ok (.getfield 52, 3) := by decide +kernel
theorem dX5_passOne_52 : decode cX5_passOne 52 = .ok (.invokevirtual 217, 3) := by decide +kernel
theorem dX5_passOne_55 : decode cX5_passOne 55 = .ok (.lstore_n 3, 1) := by decide +kernel
theorem dX5_passOne_56 : decode cX5_passOne 56 = .ok (.aload_n 0, 1) := by decide +kernel
theorem dX5_passOne_57 : decode cX5_passOne 57 = .ok (.getfield 48, 3) := by decide +kernel
theorem dX5_passOne_60 : decode cX5_passOne 60 = .ok (.iload_n 2, 1) := by decide +kernel
theorem dX5_passOne_61 : decode cX5_passOne 61 = .ok (.dup2, 1) := by decide +kernel
theorem dX5_passOne_62 : decode cX5_passOne 62 = .ok (.laload, 1) := by decide +kernel
theorem dX5_passOne_63 : decode cX5_passOne 63 = .ok (.lload_n 3, 1) := by decide +kernel
theorem dX5_passOne_64 : decode cX5_passOne 64 = .ok (.ladd, 1) := by decide +kernel
theorem dX5_passOne_65 : decode cX5_passOne 65 = .ok (.lastore, 1) := by decide +kernel
theorem dX5_passOne_66 : decode cX5_passOne 66 = .ok (.aload_n 0, 1) := by decide +kernel
theorem dX5_passOne_67 : decode cX5_passOne 67 = .ok (.getfield 33, 3) := by decide +kernel
theorem dX5_passOne_70 : decode cX5_passOne 70 = .ok (.iload_n 2, 1) := by decide +kernel
theorem dX5_passOne_71 : decode cX5_passOne 71 = .ok (.lload_n 3, 1) := by decide +kernel
theorem dX5_passOne_72 : decode cX5_passOne 72 = .ok (.invokevirtual 220, 3) := by decide +kernel
theorem dX5_passOne_75 : decode cX5_passOne 75 = .ok (.iinc 2 1, 3) := by decide +kernel
theorem dX5_passOne_78 : decode cX5_passOne 78 = .ok (.goto (-41), 3) := by decide +kernel
theorem dX5_passOne_81 : decode cX5_passOne 81 = .ok (.iload_n 1, 1) := by decide +kernel
theorem dX5_passOne_82 : decode cX5_passOne 82 = .ok (.ifCond .eq 20, 3) := by decide +kernel
theorem dX5_passOne_85 : decode cX5_passOne 85 = .ok (.aload_n 0, 1) := by decide +kernel
theorem dX5_passOne_86 : decode cX5_passOne 86 = .ok (.dup, 1) := by decide +kernel
theorem dX5_passOne_87 : decode cX5_passOne 87 = .ok (.getfield 73, 3) := by decide +kernel
theorem dX5_passOne_90 : decode cX5_passOne 90 = .ok (.aload_n 0, 1) := by decide +kernel
theorem dX5_passOne_91 : decode cX5_passOne 91 = .ok (.getfield 12, 3) := by decide +kernel
theorem dX5_passOne_94 : decode cX5_passOne 94 = .ok (.iload_n 1, 1) := by decide +kernel
theorem dX5_passOne_95 : decode cX5_passOne 95 = .ok (.invokevirtual 223, 3) := by decide +kernel
theorem dX5_passOne_98 : decode cX5_passOne 98 = .ok (.ladd, 1) := by decide +kernel
theorem dX5_passOne_99 : decode cX5_passOne 99 = .ok (.putfield 73, 3) := by decide +kernel
theorem dX5_passOne_102 : decode cX5_passOne 102 = .ok (.return_, 1) := by decide +kernel
theorem dX5_stepOf_0 : decode cX5_stepOf 0 = .ok (.aload_n 0, 1) := by decide +kernel
theorem dX5_stepOf_1 : decode cX5_stepOf 1 = .ok (.getfield 56, 3) := by decide +kernel
theorem dX5_stepOf_4 : decode cX5_stepOf 4 = .ok (.ifCond .eq 12, 3) := by decide +kernel
theorem dX5_stepOf_7 : decode cX5_stepOf 7 = .ok (.iload_n 1, 1) := by decide +kernel
theorem dX5_stepOf_8 : decode cX5_stepOf 8 = .ok (.aload_n 0, 1) := by decide +kernel
theorem dX5_stepOf_9 : decode cX5_stepOf 9 = .ok (.getfield 56, 3) := by decide +kernel
theorem dX5_stepOf_12 : decode cX5_stepOf 12 = .ok (.irem, 1) := by decide +kernel
theorem dX5_stepOf_13 : decode cX5_stepOf 13 = .ok (.ifCond .eq 5, 3) := by decide +kernel
theorem dX5_stepOf_16 : decode cX5_stepOf 16 = .ok (.iconst 0, 1) := by decide +kernel
theorem dX5_stepOf_17 : decode cX5_stepOf 17 = .ok (.ireturn, 1) := by decide +kernel
theorem dX5_stepOf_18 : decode cX5_stepOf 18 = .ok (.aload_n 0, 1) := by decide +kernel
theorem dX5_stepOf_19 : decode cX5_stepOf 19 = .ok (.getfield 59, 3) := by decide +kernel
theorem dX5_stepOf_22 : decode cX5_stepOf 22 = .ok (.ifCond .eq 7, 3) := by decide +kernel
theorem dX5_stepOf_25 : decode cX5_stepOf 25 = .ok (.iconst 1, 1) := by decide +kernel
theorem dX5_stepOf_26 : decode cX5_stepOf 26 = .ok (.goto 4, 3) := by decide +kernel
theorem dX5_stepOf_29 : decode cX5_stepOf 29 = .ok (.iconst (-1), 1) := by decide +kernel
theorem dX5_stepOf_30 : decode cX5_stepOf 30 = .ok (.ireturn, 1) := by decide +kernel
theorem dX5_landingOf_0 : decode cX5_landingOf 0 = .ok (.aload_n 0, 1) := by decide +kernel
theorem dX5_landingOf_1 : decode cX5_landingOf 1 = .ok (.getfield 19, 3) := by decide +kernel
theorem dX5_landingOf_4 : decode cX5_landingOf 4 = .ok (.iload_n 1, 1) := by decide +kernel
theorem dX5_landingOf_5 : decode cX5_landingOf 5 = .ok (.invokevirtual 226, 3) := by decide +kernel
theorem dX5_landingOf_8 : decode cX5_landingOf 8 = .ok (.istore_n 2, 1) := by decide +kernel
theorem dX5_landingOf_9 : decode cX5_landingOf 9 = .ok (.aload_n 0, 1) := by decide +kernel
theorem dX5_landingOf_10 : decode cX5_landingOf 10 = .ok (.getfield 19, 3) := by decide +kernel
theorem dX5_landingOf_13 : decode cX5_landingOf 13 = .ok (.iload_n 1, 1) := by decide +kernel
theorem dX5_landingOf_14 : decode cX5_landingOf 14 = .ok (.invokevirtual 229, 3) := by decide +kernel
theorem dX5_landingOf_17 : decode cX5_landingOf 17 = .ok (.istore_n 3, 1) := by decide +kernel
theorem dX5_landingOf_18 : decode cX5_landingOf 18 = .ok (.aload_n 0, 1) := by decide +kernel
theorem dX5_landingOf_19 : decode cX5_landingOf 19 = .ok (.getfield 19, 3) := by decide +kernel
theorem dX5_landingOf_22 : decode cX5_landingOf 22 = .ok (.iload_n 1, 1) := by decide +kernel
theorem dX5_landingOf_23 : decode cX5_landingOf 23 = .ok (.invokevirtual 232, 3) := by decide +kernel
theorem dX5_landingOf_26 : decode cX5_landingOf 26 = .ok (.istore 4, 2) := by decide +kernel
theorem dX5_landingOf_28 : decode cX5_landingOf 28 = .ok (.aload_n 0, 1) := by decide +kernel
theorem dX5_landingOf_29 : decode cX5_landingOf 29 = .ok (.getfield 19, 3) := by decide +kernel
theorem dX5_landingOf_32 : decode cX5_landingOf 32 = .ok (.iload_n 1, 1) := by decide +kernel
theorem dX5_landingOf_33 : decode cX5_landingOf 33 = .ok (.invokevirtual 235, 3) := by decide +kernel
theorem dX5_landingOf_36 : decode cX5_landingOf 36 = .ok (.iconst 1, 1) := by decide +kernel
theorem dX5_landingOf_37 : decode cX5_landingOf 37 = .ok (.iadd, 1) := by decide +kernel
theorem dX5_landingOf_38 : decode cX5_landingOf 38 = .ok (.istore 5, 2) := by decide +kernel
theorem dX5_landingOf_40 : decode cX5_landingOf 40 = .ok (.iload 5, 2) := by decide +kernel
theorem dX5_landingOf_42 : decode cX5_landingOf 42 = .ok (.aload_n 0, 1) := by decide +kernel
theorem dX5_landingOf_43 : decode cX5_landingOf 43 = .ok (.getfield 63, 3) := by decide +kernel
theorem dX5_landingOf_46 : decode cX5_landingOf 46 = .ok (.if_icmp .gt 57, 3) := by decide +kernel
theorem dX5_landingOf_49 : decode cX5_landingOf 49 = .ok (.iload_n 3, 1) := by decide +kernel
theorem dX5_landingOf_50 : decode cX5_landingOf 50 = .ok (.iload_n 3, 1) := by decide +kernel
theorem dX5_landingOf_51 : decode cX5_landingOf 51 = .ok (.iload 4, 2) := by decide +kernel
theorem dX5_landingOf_53 : decode cX5_landingOf 53 = .ok (.aload_n 0, 1) := by decide +kernel
theorem dX5_landingOf_54 : decode cX5_landingOf 54 = .ok (.getfield 26, 3) := by decide +kernel
theorem dX5_landingOf_57 : decode cX5_landingOf 57 = .ok (.iload 5, 2) := by decide +kernel
theorem dX5_landingOf_59 : decode cX5_landingOf 59 = .ok (.invokevirtual 238, 3) := by decide +kernel
theorem dX5_landingOf_62 : decode cX5_landingOf 62 = .ok (.invokestatic 241, 3) := by decide +kernel
theorem dX5_landingOf_65 : decode cX5_landingOf 65 = .ok (.isub, 1) := by decide +kernel
theorem dX5_landingOf_66 : decode cX5_landingOf 66 = .ok (.istore_n 3, 1) := by decide +kernel
theorem dX5_landingOf_67 : decode cX5_landingOf 67 = .ok (.iload_n 3, 1) := by decide +kernel
theorem dX5_landingOf_68 : decode cX5_landingOf 68 = .ok (.ifCond .ge 5, 3) := by decide +kernel
theorem dX5_landingOf_71 : decode cX5_landingOf 71 = .ok (.iload_n 2, 1) := by decide +kernel
theorem dX5_landingOf_72 : decode cX5_landingOf 72 = .ok (.ireturn, 1) := by decide +kernel
theorem dX5_landingOf_73 : decode cX5_landingOf 73 = .ok (.iload_n 2, 1) := by decide +kernel
theorem dX5_landingOf_74 : decode cX5_landingOf 74 = .ok (.aload_n 0, 1) := by decide +kernel
theorem dX5_landingOf_75 : decode cX5_landingOf 75 = .ok (.getfield 26, 3) := by decide +kernel
theorem dX5_landingOf_78 : decode cX5_landingOf 78 = .ok (.iload 5, 2) := by decide +kernel
theorem dX5_landingOf_80 : decode cX5_landingOf 80 = .ok (.invokevirtual 244, 3) := by decide +kernel
theorem dX5_landingOf_83 : decode cX5_landingOf 83 = .ok (.iadd, 1) := by decide +kernel
theorem dX5_landingOf_84 : decode cX5_landingOf 84 = .ok (.istore_n 2, 1) := by decide +kernel
theorem dX5_landingOf_85 : decode cX5_landingOf 85 = .ok (.iload_n 2, 1) := by decide +kernel
theorem dX5_landingOf_86 : decode cX5_landingOf 86 = .ok (.ifCond .lt 9, 3) := by decide +kernel
theorem dX5_landingOf_89 : decode cX5_landingOf 89 = .ok (.iload_n 2, 1) := by decide +kernel
theorem dX5_landingOf_90 : decode cX5_landingOf 90 = .ok (.bipush 20, 2) := by decide +kernel
theorem dX5_landingOf_92 : decode cX5_landingOf 92 = .ok (.if_icmp .lt 5, 3) := by decide +kernel
theorem dX5_landingOf_95 : decode cX5_landingOf 95 = .ok (.iconst (-1), 1) := by decide +kernel
theorem dX5_landingOf_96 : decode cX5_landingOf 96 = .ok (.ireturn, 1) := by decide +kernel
theorem dX5_landingOf_97 : decode cX5_landingOf 97 = .ok (.iinc 5 1, 3) := by decide +kernel
theorem dX5_landingOf_100 : decode cX5_landingOf 100 = .ok (.goto (-60), 3) := by decide +kernel
theorem dX5_landingOf_103 : decode cX5_landingOf 103 = .ok (.iconst (-1), 1) := by decide +kernel
theorem dX5_landingOf_104 : decode cX5_landingOf 104 = .ok (.ireturn, 1) := by decide +kernel
theorem dX5_layerOfBeam_0 : decode cX5_layerOfBeam 0 = .ok (.iload_n 1, 1) := by decide +kernel
theorem dX5_layerOfBeam_1 : decode cX5_layerOfBeam 1 = .ok (.iload_n 0, 1) := by decide +kernel
theorem dX5_layerOfBeam_2 : decode cX5_layerOfBeam 2 = .ok (.imul, 1) := by decide +kernel
theorem dX5_layerOfBeam_3 : decode cX5_layerOfBeam 3 = .ok (.iconst 4, 1) := by decide +kernel
theorem dX5_layerOfBeam_4 : decode cX5_layerOfBeam 4 = .ok (.idiv, 1) := by decide +kernel
theorem dX5_layerOfBeam_5 : decode cX5_layerOfBeam 5 = .ok (.iload_n 0, 1) := by decide +kernel
theorem dX5_layerOfBeam_6 : decode cX5_layerOfBeam 6 = .ok (.iload_n 0, 1) := by decide +kernel
theorem dX5_layerOfBeam_7 : decode cX5_layerOfBeam 7 = .ok (.imul, 1) := by decide +kernel
theorem dX5_layerOfBeam_8 : decode cX5_layerOfBeam 8 = .ok (.bipush 100, 2) := by decide +kernel
theorem dX5_layerOfBeam_10 : decode cX5_layerOfBeam 10 = .ok (.idiv, 1) := by decide +kernel
theorem dX5_layerOfBeam_11 : decode cX5_layerOfBeam 11 = .ok (.iadd, 1) := by decide +kernel
theorem dX5_layerOfBeam_12 : decode cX5_layerOfBeam 12 = .ok (.ireturn, 1) := by decide +kernel
theorem dX5_reachOf_0 : decode cX5_reachOf 0 = .ok (.iconst 0, 1) := by decide +kernel
theorem dX5_reachOf_1 : decode cX5_reachOf 1 = .ok (.istore_n 2, 1) := by decide +kernel
theorem dX5_reachOf_2 : decode cX5_reachOf 2 = .ok (.iload_n 2, 1) := by decide +kernel
theorem dX5_reachOf_3 : decode cX5_reachOf 3 = .ok (.bipush 20, 2) := by decide +kernel
theorem dX5_reachOf_5 : decode cX5_reachOf 5 = .ok (.if_icmp .ge 25, 3) := by decide +kernel
theorem dX5_reachOf_8 : decode cX5_reachOf 8 = .ok (.aload_n 0, 1) := by decide +kernel
theorem dX5_reachOf_9 : decode cX5_reachOf 9 = .ok (.getfield 44, 3) := by decide +kernel
theorem dX5_reachOf_12 : decode cX5_reachOf 12 = .ok (.iload_n 2, 1) := by decide +kernel
theorem dX5_reachOf_13 : decode cX5_reachOf 13 = .ok (.iaload, 1) := by decide +kernel
theorem dX5_reachOf_14 : decode cX5_reachOf 14 = .ok (.iload_n 2, 1) := by decide +kernel
theorem dX5_reachOf_15 : decode cX5_reachOf 15 = .ok (.iload_n 1, 1) := by decide +kernel
theorem dX5_reachOf_16 : decode cX5_reachOf 16 = .ok (.invokestatic 247, 3) := by decide +kernel
theorem dX5_reachOf_19 : decode cX5_reachOf 19 = .ok (.if_icmp .le 5, 3) := by decide +kernel
theorem dX5_reachOf_22 : decode cX5_reachOf 22 = .ok (.iload_n 2, 1) := by decide +kernel
theorem dX5_reachOf_23 : decode cX5_reachOf 23 = .ok (.ireturn, 1) := by decide +kernel
theorem dX5_reachOf_24 : decode cX5_reachOf 24 = .ok (.iinc 2 1, 3) := by decide +kernel
theorem dX5_reachOf_27 : decode cX5_reachOf 27 = .ok (.goto (-25), 3) := by decide +kernel
theorem dX5_reachOf_30 : decode cX5_reachOf 30 = .ok (.bipush 20, 2) := by decide +kernel
theorem dX5_reachOf_32 : decode cX5_reachOf 32 = .ok (.ireturn, 1) := by decide +kernel
theorem dX5_echoInBeam_0 : decode cX5_echoInBeam 0 = .ok (.iload_n 1, 1) := by decide +kernel
theorem dX5_echoInBeam_1 : decode cX5_echoInBeam 1 = .ok (.iload_n 2, 1) := by decide +kernel
theorem dX5_echoInBeam_2 : decode cX5_echoInBeam 2 = .ok (.invokestatic 247, 3) := by decide +kernel
theorem dX5_echoInBeam_5 : decode cX5_echoInBeam 5 = .ok (.istore_n 3, 1) := by decide +kernel
theorem dX5_echoInBeam_6 : decode cX5_echoInBeam 6 = .ok (.aload_n 0, 1) := by decide +kernel
theorem dX5_echoInBeam_7 : decode cX5_echoInBeam 7 = .ok (.getfield 12, 3) := by decide +kernel
theorem dX5_echoInBeam_10 : decode cX5_echoInBeam 10 = .ok (.iload_n 1, 1) := by decide +kernel
theorem dX5_echoInBeam_11 : decode cX5_echoInBeam 11 = .ok (.iload_n 3, 1) := by decide +kernel
theorem dX5_echoInBeam_12 : decode cX5_echoInBeam 12 = .ok (.invokevirtual 250, 3) := by decide +kernel
theorem dX5_echoInBeam_15 : decode cX5_echoInBeam 15 = .ok (.lstore 4, 2) := by decide +kernel
theorem dX5_echoInBeam_17 : decode cX5_echoInBeam 17 = .ok (.iload_n 3, 1) := by decide +kernel
theorem dX5_echoInBeam_18 : decode cX5_echoInBeam 18 = .ok (.aload_n 0, 1) := by decide +kernel
theorem dX5_echoInBeam_19 : decode cX5_echoInBeam 19 = .ok (.getfield 52, 3) := by decide +kernel
theorem dX5_echoInBeam_22 : decode cX5_echoInBeam 22 = .ok (.invokestatic 152, 3) := by decide +kernel
theorem dX5_echoInBeam_25 : decode cX5_echoInBeam 25 = .ok (.istore 6, 2) := by decide +kernel
theorem dX5_echoInBeam_27 : decode cX5_echoInBeam 27 = .ok (.iload 6, 2) := by decide +kernel
theorem dX5_echoInBeam_29 : decode cX5_echoInBeam 29 = .ok (.ifCond .ne 10, 3) := by decide +kernel
theorem dX5_echoInBeam_32 : decode cX5_echoInBeam 32 = .ok (.lload 4, 2) := by decide +kernel
theorem dX5_echoInBeam_34 : decode cX5_echoInBeam 34 = .ok (.ldc2_w 253, 3) := by decide +kernel
theorem dX5_echoInBeam_37 : decode cX5_echoInBeam 37 = .ok (.ldiv, 1) := by decide +kernel
theorem dX5_echoInBeam_38 : decode cX5_echoInBeam 38 = .ok (.lreturn, 1) := by decide +kernel
theorem dX5_echoInBeam_39 : decode cX5_echoInBeam 39 = .ok (.iload 6, 2) := by decide +kernel
theorem dX5_echoInBeam_41 : decode cX5_echoInBeam 41 = .ok (.iconst 1, 1) := by decide +kernel
theorem dX5_echoInBeam_42 : decode cX5_echoInBeam 42 = .ok (.if_icmp .ne 12, 3) := by decide +kernel
theorem dX5_echoInBeam_45 : decode cX5_echoInBeam 45 = .ok (.lload 4, 2) := by decide +kernel
theorem dX5_echoInBeam_47 : decode cX5_echoInBeam 47 = .ok (.ldc2_w 255, 3) := by decide +kernel
theorem dX5_echoInBeam_50 : decode cX5_echoInBeam 50 = .ok (.lmul, 1) := by decide +kernel
theorem dX5_echoInBeam_51 : decode cX5_echoInBeam 51 = .ok (.goto 5, 3) := by decide +kernel
theorem dX5_echoInBeam_54 : decode cX5_echoInBeam 54 = .ok (.lload 4, 2) := by decide +kernel
theorem dX5_echoInBeam_56 : decode cX5_echoInBeam 56 = .ok (.lreturn, 1) := by decide +kernel
theorem dX5_weakenedEcho_0 : decode cX5_weakenedEcho 0 = .ok (.aload_n 0, 1) := by decide +kernel
theorem dX5_weakenedEcho_1 : decode cX5_weakenedEcho 1 = .ok (.iload_n 1, 1) := by decide +kernel
theorem dX5_weakenedEcho_2 : decode cX5_weakenedEcho 2 = .ok (.iload_n 2, 1) := by decide +kernel
theorem dX5_weakenedEcho_3 : decode cX5_weakenedEcho 3 = .ok (.invokevirtual 145, 3) := by decide +kernel
theorem dX5_weakenedEcho_6 : decode cX5_weakenedEcho 6 = .ok (.l2d, 1) := by decide +kernel
theorem dX5_weakenedEcho_7 : decode cX5_weakenedEcho 7 = .ok (.dstore_n 3, 1) := by decide +kernel
theorem dX5_weakenedEcho_8 : decode cX5_weakenedEcho 8 = .ok (.iconst 0, 1) := by decide +kernel
theorem dX5_weakenedEcho_9 : decode cX5_weakenedEcho 9 = .ok (.istore 5, 2) := by decide +kernel
theorem dX5_weakenedEcho_11 : decode cX5_weakenedEcho 11 = .ok (.iload 5, 2) := by decide +kernel
theorem dX5_weakenedEcho_13 : decode cX5_weakenedEcho 13 = .ok (.iload_n 1, 1) := by decide +kernel
theorem dX5_weakenedEcho_14 : decode cX5_weakenedEcho 14 = .ok (.if_icmp .ge 51, 3) := by decide +kernel
theorem dX5_weakenedEcho_17 : decode cX5_weakenedEcho 17 = .ok (.aload_n 0, 1) := by decide +kernel
theorem dX5_weakenedEcho_18 : decode cX5_weakenedEcho 18 = .ok (.iload 5, 2) := by decide +kernel
theorem dX5_weakenedEcho_20 : decode cX5_weakenedEcho 20 = .ok (.iload_n 2, 1) := by decide +kernel
theorem dX5_weakenedEcho_21 : decode cX5_weakenedEcho 21 = .ok (.invokevirtual 145, 3) := by decide +kernel
theorem dX5_weakenedEcho_24 : decode cX5_weakenedEcho 24 = .ok (.lstore 6, 2) := by decide +kernel
theorem dX5_weakenedEcho_26 : decode cX5_weakenedEcho 26 = .ok (.lload 6, 2) := by decide +kernel
theorem dX5_weakenedEcho_28 : decode cX5_weakenedEcho 28 = .ok (.ldc2_w 257, 3) := by decide +kernel
theorem dX5_weakenedEcho_31 : decode cX5_weakenedEcho 31 = .ok (.lcmp, 1) := by decide +kernel
theorem dX5_weakenedEcho_32 : decode cX5_weakenedEcho 32 = .ok (.ifCond .lt 12, 3) := by decide +kernel
theorem dX5_weakenedEcho_35 : decode cX5_weakenedEcho 35 = .ok (.dload_n 3, 1) := by decide +kernel
theorem dX5_weakenedEcho_36 : decode cX5_weakenedEcho 36 = .ok (.ldc2_w 259, 3) := by decide +kernel
theorem dX5_weakenedEcho_39 : decode cX5_weakenedEcho 39 = .ok (.dmul, 1) := by decide +kernel
theorem dX5_weakenedEcho_40 : decode cX5_weakenedEcho 40 = .ok (.dstore_n 3, 1) := by decide +kernel
theorem dX5_weakenedEcho_41 : decode cX5_weakenedEcho 41 = .ok (.goto 18, 3) := by decide +kernel
theorem dX5_weakenedEcho_44 : decode cX5_weakenedEcho 44 = .ok (.lload 6, 2) := by decide +kernel
theorem dX5_weakenedEcho_46 : decode cX5_weakenedEcho 46 = .ok (.ldc2_w 261, 3) := by decide +kernel
theorem dX5_weakenedEcho_49 : decode cX5_weakenedEcho 49 = .ok (.lcmp, 1) := by decide +kernel
theorem dX5_weakenedEcho_50 : decode cX5_weakenedEcho 50 = .ok (.ifCond .lt 9, 3) := by decide +kernel
theorem dX5_weakenedEcho_53 : decode cX5_weakenedEcho 53 = .ok (.dload_n 3, 1) := by decide +kernel
theorem dX5_weakenedEcho_54 : decode cX5_weakenedEcho 54 = .ok (.ldc2_w 263, 3) := by decide +kernel
theorem dX5_weakenedEcho_57 : decode cX5_weakenedEcho 57 = .ok (.dmul, 1) := by decide +kernel
theorem dX5_weakenedEcho_58 : decode cX5_weakenedEcho 58 = .ok (.dstore_n 3, 1) := by decide +kernel
theorem dX5_weakenedEcho_59 : decode cX5_weakenedEcho 59 = .ok (.iinc 5 1, 3) := by decide +kernel
theorem dX5_weakenedEcho_62 : decode cX5_weakenedEcho 62 = .ok (.goto (-51), 3) := by decide +kernel
theorem dX5_weakenedEcho_65 : decode cX5_weakenedEcho 65 = .ok (.dload_n 3, 1) := by decide +kernel
theorem dX5_weakenedEcho_66 : decode cX5_weakenedEcho 66 = .ok (.dreturn, 1) := by decide +kernel
theorem dX5_bitsOf_0 : decode cX5_bitsOf 0 = .ok (.dload_n 0, 1) := by decide +kernel
theorem dX5_bitsOf_1 : decode cX5_bitsOf 1 = .ok (.dconst 0, 1) := by decide +kernel
theorem dX5_bitsOf_2 : decode cX5_bitsOf 2 = .ok (.dcmp .g, 1) := by decide +kernel
theorem dX5_bitsOf_3 : decode cX5_bitsOf 3 = .ok (.ifCond .gt 5, 3) := by decide +kernel
theorem dX5_bitsOf_6 : decode cX5_bitsOf 6 = .ok (.lconst 0, 1) := by decide +kernel
theorem dX5_bitsOf_7 : decode cX5_bitsOf 7 = .ok (.lreturn, 1) := by decide +kernel
theorem dX5_bitsOf_8 : decode cX5_bitsOf 8 = .ok (.dload_n 0, 1) := by decide +kernel
theorem dX5_bitsOf_9 : decode cX5_bitsOf 9 = .ok (.dstore_n 2, 1) := by decide +kernel
theorem dX5_bitsOf_10 : decode cX5_bitsOf 10 = .ok (.ldc2_w 265, 3) := by decide +kernel
theorem dX5_bitsOf_13 : decode cX5_bitsOf 13 = .ok (.lstore 4, 2) := by decide +kernel
theorem dX5_bitsOf_15 : decode cX5_bitsOf 15 = .ok (.dload_n 2, 1) := by decide +kernel
theorem dX5_bitsOf_16 : decode cX5_bitsOf 16 = .ok (.ldc2_w 267, 3) := by decide +kernel
theorem dX5_bitsOf_19 : decode cX5_bitsOf 19 = .ok (.dcmp .g, 1) := by decide +kernel
theorem dX5_bitsOf_20 : decode cX5_bitsOf 20 = .ok (.ifCond .ge 25, 3) := by decide +kernel
theorem dX5_bitsOf_23 : decode cX5_bitsOf 23 = .ok (.lload 4, 2) := by decide +kernel
theorem dX5_bitsOf_25 : decode cX5_bitsOf 25 = .ok (.lconst 0, 1) := by decide +kernel
theorem dX5_bitsOf_26 : decode cX5_bitsOf 26 = .ok (.lcmp, 1) := by decide +kernel
theorem dX5_bitsOf_27 : decode cX5_bitsOf 27 = .ok (.ifCond .le 18, 3) := by decide +kernel
theorem dX5_bitsOf_30 : decode cX5_bitsOf 30 = .ok (.dload_n 2, 1) := by decide +kernel
theorem dX5_bitsOf_31 : decode cX5_bitsOf 31 = .ok (.ldc2_w 269, 3) := by decide +kernel
theorem dX5_bitsOf_34 : decode cX5_bitsOf 34 = .ok (.dmul, 1) := by decide +kernel
theorem dX5_bitsOf_35 : decode cX5_bitsOf 35 = .ok (.dstore_n 2, 1) := by decide +kernel
theorem dX5_bitsOf_36 : decode cX5_bitsOf 36 = .ok (.lload 4, 2) := by decide +kernel
theorem dX5_bitsOf_38 : decode cX5_bitsOf 38 = .ok (.lconst 1, 1) := by decide +kernel
theorem dX5_bitsOf_39 : decode cX5_bitsOf 39 = .ok (.lsub, 1) := by decide +kernel
theorem dX5_bitsOf_40 : decode cX5_bitsOf 40 = .ok (.lstore 4, 2) := by decide +kernel
theorem dX5_bitsOf_42 : decode cX5_bitsOf 42 = .ok (.goto (-27), 3) := by decide +kernel
theorem dX5_bitsOf_45 : decode cX5_bitsOf 45 = .ok (.lload 4, 2) := by decide +kernel
theorem dX5_bitsOf_47 : decode cX5_bitsOf 47 = .ok (.bipush 52, 2) := by decide +kernel
theorem dX5_bitsOf_49 : decode cX5_bitsOf 49 = .ok (.lshl, 1) := by decide +kernel
theorem dX5_bitsOf_50 : decode cX5_bitsOf 50 = .ok (.dload_n 2, 1) := by decide +kernel
theorem dX5_bitsOf_51 : decode cX5_bitsOf 51 = .ok (.d2l, 1) := by decide +kernel
theorem dX5_bitsOf_52 : decode cX5_bitsOf 52 = .ok (.ldc2_w 271, 3) := by decide +kernel
theorem dX5_bitsOf_55 : decode cX5_bitsOf 55 = .ok (.lsub, 1) := by decide +kernel
theorem dX5_bitsOf_56 : decode cX5_bitsOf 56 = .ok (.ladd, 1) := by decide +kernel
theorem dX5_bitsOf_57 : decode cX5_bitsOf 57 = .ok (.lreturn, 1) := by decide +kernel
theorem dX5_rainOf_0 : decode cX5_rainOf 0 = .ok (.iload_n 2, 1) := by decide +kernel
theorem dX5_rainOf_1 : decode cX5_rainOf 1 = .ok (.ifCond .le 10, 3) := by decide +kernel
theorem dX5_rainOf_4 : decode cX5_rainOf 4 = .ok (.lload_n 0, 1) := by decide +kernel
theorem dX5_rainOf_5 : decode cX5_rainOf 5 = .ok (.iload_n 2, 1) := by decide +kernel
theorem dX5_rainOf_6 : decode cX5_rainOf 6 = .ok (.i2l, 1) := by decide +kernel
theorem dX5_rainOf_7 : decode cX5_rainOf 7 = .ok (.ldiv, 1) := by decide +kernel
theorem dX5_rainOf_8 : decode cX5_rainOf 8 = .ok (.goto 4, 3) := by decide +kernel
theorem dX5_rainOf_11 : decode cX5_rainOf 11 = .ok (.lconst 0, 1) := by decide +kernel
theorem dX5_rainOf_12 : decode cX5_rainOf 12 = .ok (.lreturn, 1) := by decide +kernel
theorem dX6_init_0 : decode cX6_init 0 = .ok (.aload_n 0, 1) := by decide +kernel
theorem dX6_init_1 : decode cX6_init 1 = .ok (.invokespecial 1, 3) := by decide +kernel
theorem dX6_init_4 : decode cX6_init 4 = .ok (.aload_n 0, 1) := by decide +kernel
theorem dX6_init_5 : decode cX6_init 5 = .ok (.iconst 5, 1) := by decide +kernel
theorem dX6_init_6 : decode cX6_init 6 = .ok (.putfield 7, 3) := by decide +kernel
theorem dX6_init_9 : decode cX6_init 9 = .ok (.aload_n 0, 1) := by decide +kernel
theorem dX6_init_10 : decode cX6_init 10 = .ok (.sipush 600, 3) := by decide +kernel
theorem dX6_init_13 : decode cX6_init 13 = .ok (.newarray .int, 2) := by decide +kernel
theorem dX6_init_15 : decode cX6_init 15 = .ok (.putfield 13, 3) := by decide +kernel
theorem dX6_init_18 : decode cX6_init 18 = .ok (.aload_n 0, 1) := by decide +kernel
theorem dX6_init_19 : decode cX6_init 19 = .ok (.sipush 600, 3) := by decide +kernel
theorem dX6_init_22 : decode cX6_init 22 = .ok (.newarray .int, 2) := by decide +kernel
theorem dX6_init_24 : decode cX6_init 24 = .ok (.putfield 17, 3) := by decide +kernel
theorem dX6_init_27 : decode cX6_init 27 = .ok (.aload_n 0, 1) := by decide +kernel
theorem dX6_init_28 : decode cX6_init 28 = .ok (.bipush 20, 2) := by decide +kernel
theorem dX6_init_30 : decode cX6_init 30 = .ok (.newarray .int, 2) := by decide +kernel
theorem dX6_init_32 : decode cX6_init 32 = .ok (.putfield 20, 3) := by decide +kernel
theorem dX6_init_35 : decode cX6_init 35 = .ok (.aload_n 0, 1) := by decide +kernel
theorem dX6_init_36 : decode cX6_init 36 = .ok (.bipush 20, 2) := by decide +kernel
theorem dX6_init_38 : decode cX6_init 38 = .ok (.newarray .boolean, 2) := by decide +kernel
theorem dX6_init_40 : decode cX6_init 40 = .ok (.putfield 23, 3) := by decide +kernel
theorem dX6_init_43 : decode cX6_init 43 = .ok (.aload_n 0, 1) := by decide +kernel
theorem dX6_init_44 : decode cX6_init 44 = .ok (.bipush 20, 2) := by decide +kernel
theorem dX6_init_46 : decode cX6_init 46 = .ok (.newarray .boolean, 2) := by decide +kernel
theorem dX6_init_48 : decode cX6_init 48 = .ok (.putfield 27, 3) := by decide +kernel
theorem dX6_init_51 : decode cX6_init 51 = .ok (.aload_n 0, 1) := by decide +kernel
theorem dX6_init_52 : decode cX6_init 52 = .ok (.bipush 20, 2) := by decide +kernel
theorem dX6_init_54 : decode cX6_init 54 = .ok (.newarray .long, 2) := by decide +kernel
theorem dX6_init_56 : decode cX6_init 56 = .ok (.putfield 30, 3) := by decide +kernel
theorem dX6_init_59 : decode cX6_init 59 = .ok (.aload_n 0, 1) := by decide +kernel
theorem dX6_init_60 : decode cX6_init 60 = .ok (.bipush 20, 2) := by decide +kernel
theorem dX6_init_62 : decode cX6_init 62 = .ok (.newarray .long, 2) := by decide +kernel
theorem dX6_init_64 : decode cX6_init 64 = .ok (.putfield 34, 3) := by decide +kernel
theorem dX6_init_67 : decode cX6_init 67 = .ok (.aload_n 0, 1) := by decide +kernel
theorem dX6_init_68 : decode cX6_init 68 = .ok (.bipush 20, 2) := by decide +kernel
theorem dX6_init_70 : decode cX6_init 70 = .ok (.newarray .long, 2) := by decide +kernel
theorem dX6_init_72 : decode cX6_init 72 = .ok (.putfield 37, 3) := by decide +kernel
theorem dX6_init_75 : decode cX6_init 75 = .ok (.aload_n 0, 1) := by decide +kernel
theorem dX6_init_76 : decode cX6_init 76 = .ok (.bipush 10, 2) := by decide +kernel
theorem dX6_init_78 : decode cX6_init 78 = .ok (.putfield 40, 3) := by decide +kernel
theorem dX6_init_81 : decode cX6_init 81 = .ok (.aload_n 0, 1) := by decide +kernel
theorem dX6_init_82 : decode cX6_init 82 = .ok (.sipush 600, 3) := by decide +kernel
theorem dX6_init_85 : decode cX6_init 85 = .ok (.newarray .long, 2) := by decide +kernel
theorem dX6_init_87 : decode cX6_init 87 = .ok (.putfield 43, 3) := by decide +kernel
theorem dX6_init_90 : decode cX6_init 90 = .ok (.aload_n 0, 1) := by decide +kernel
theorem dX6_init_91 : decode cX6_init 91 = .ok (.bipush 30, 2) := by decide +kernel
theorem dX6_init_93 : decode cX6_init 93 = .ok (.newarray .int, 2) := by decide +kernel
theorem dX6_init_95 : decode cX6_init 95 = .ok (.putfield 46, 3) := by decide +kernel
theorem dX6_init_98 : decode cX6_init 98 = .ok (.return_, 1) := by decide +kernel
theorem dX6_thrown_0 : decode cX6_thrown 0 = .ok (.aload_n 0, 1) := by decide +kernel
theorem dX6_thrown_1 : decode cX6_thrown 1 = .ok (.getfield 49, 3) := by decide +kernel
theorem dX6_thrown_4 : decode cX6_thrown 4 = .ok (.ireturn, 1) := by decide +kernel
theorem dX6_goesWell_0 : decode cX6_goesWell 0 = .ok (.aload_n 0, 1) := by decide +kernel
theorem dX6_goesWell_1 : decode cX6_goesWell 1 = .ok (.iload_n 1, 1) := by decide +kernel
theorem dX6_goesWell_2 : decode cX6_goesWell 2 = .ok (.putfield 49, 3) := by decide +kernel
theorem dX6_goesWell_5 : decode cX6_goesWell 5 = .ok (.iload_n 1, 1) := by decide +kernel
theorem dX6_goesWell_6 : decode cX6_goesWell 6 = .ok (.ifCond .ne 7, 3) := by decide +kernel
theorem dX6_goesWell_9 : decode cX6_goesWell 9 = .ok (.iconst 1, 1) := by decide +kernel
theorem dX6_goesWell_10 : decode cX6_goesWell 10 = .ok (.goto 4, 3) := by decide +kernel
theorem dX6_goesWell_13 : decode cX6_goesWell 13 = .ok (.iconst 0, 1) := by decide +kernel
theorem dX6_goesWell_14 : decode cX6_goesWell 14 = .ok (.ireturn, 1) := by decide +kernel
theorem dX6_in_0 : decode cX6_in 0 = .ok (.iload_n 0, 1) := by decide +kernel
theorem dX6_in_1 : decode cX6_in 1 = .ok (.iload_n 1, 1) := by decide +kernel
theorem dX6_in_2 : decode cX6_in 2 = .ok (.if_icmp .lt 12, 3) := by decide +kernel
theorem dX6_in_5 : decode cX6_in 5 = .ok (.iload_n 0, 1) := by decide +kernel
theorem dX6_in_6 : decode cX6_in 6 = .ok (.iload_n 2, 1) := by decide +kernel
theorem dX6_in_7 : decode cX6_in 7 = .ok (.if_icmp .gt 7, 3) := by decide +kernel
theorem dX6_in_10 : decode cX6_in 10 = .ok (.iconst 1, 1) := by decide +kernel
theorem dX6_in_11 : decode cX6_in 11 = .ok (.goto 4, 3) := by decide +kernel
theorem dX6_in_14 : decode cX6_in 14 = .ok (.iconst 0, 1) := by decide +kernel
theorem dX6_in_15 : decode cX6_in 15 = .ok (.ireturn, 1) := by decide +kernel
theorem dX6_isPlace_0 : decode cX6_isPlace 0 = .ok (.iload_n 0, 1) := by decide +kernel
theorem dX6_isPlace_1 : decode cX6_isPlace 1 = .ok (.iconst 0, 1) := by decide +kernel
theorem dX6_isPlace_2 : decode cX6_isPlace 2 = .ok (.bipush 19, 2) := by decide +kernel
theorem dX6_isPlace_4 : decode cX6_isPlace 4 = .ok (.invokestatic 52, 3) := by decide +kernel
theorem dX6_isPlace_7 : decode cX6_isPlace 7 = .ok (.ireturn, 1) := by decide +kernel
theorem dX6_isLayer_0 : decode cX6_isLayer 0 = .ok (.iload_n 0, 1) := by decide +kernel
theorem dX6_isLayer_1 : decode cX6_isLayer 1 = .ok (.iconst 0, 1) := by decide +kernel
theorem dX6_isLayer_2 : decode cX6_isLayer 2 = .ok (.bipush 9, 2) := by decide +kernel
theorem dX6_isLayer_4 : decode cX6_isLayer 4 = .ok (.invokestatic 52, 3) := by decide +kernel
theorem dX6_isLayer_7 : decode cX6_isLayer 7 = .ok (.ireturn, 1) := by decide +kernel
theorem dX6_isElevation_0 : decode cX6_isElevation 0 = .ok (.iload_n 0, 1) := by decide +kernel
theorem dX6_isElevation_1 : decode cX6_isElevation 1 = .ok (.iconst 0, 1) := by decide +kernel
theorem dX6_isElevation_2 : decode cX6_isElevation 2 = .ok (.iconst 3, 1) := by decide +kernel
theorem dX6_isElevation_3 : decode cX6_isElevation 3 = .ok (.invokestatic 52, 3) := by decide +kernel
theorem dX6_isElevation_6 : decode cX6_isElevation 6 = .ok (.ireturn, 1) := by decide +kernel
theorem dX6_drops_0 : decode cX6_drops 0 = .ok (.iload_n 1, 1) := by decide +kernel
theorem dX6_drops_1 : decode cX6_drops 1 = .ok (.invokestatic 56, 3) := by decide +kernel
theorem dX6_drops_4 : decode cX6_drops 4 = .ok (.ifCond .eq 14, 3) := by decide +kernel
theorem dX6_drops_7 : decode cX6_drops 7 = .ok (.iload_n 2, 1) := by decide +kernel
theorem dX6_drops_8 : decode cX6_drops 8 = .ok (.invokestatic 60, 3) := by decide +kernel
theorem dX6_drops_11 : decode cX6_drops 11 = .ok (.ifCond .eq 7, 3) := by decide +kernel
theorem dX6_drops_14 : decode cX6_drops 14 = .ok (.iconst 1, 1) := by decide +kernel
theorem dX6_drops_15 : decode cX6_drops 15 = .ok (.goto 4, 3) := by decide +kernel
theorem dX6_drops_18 : decode cX6_drops 18 = .ok (.iconst 0, 1) := by decide +kernel
theorem dX6_drops_19 : decode cX6_drops 19 = .ok (.istore 5, 2) := by decide +kernel
theorem dX6_drops_21 : decode cX6_drops 21 = .ok (.iload_n 3, 1) := by decide +kernel
theorem dX6_drops_22 : decode cX6_drops 22 = .ok (.iconst 1, 1) := by decide +kernel
theorem dX6_drops_23 : decode cX6_drops 23 = .ok (.iconst 3, 1) := by decide +kernel
theorem dX6_drops_24 : decode cX6_drops 24 = .ok (.invokestatic 52, 3) := by decide +kernel
theorem dX6_drops_27 : decode cX6_drops 27 = .ok (.ifCond .eq 19, 3) := by decide +kernel
theorem dX6_drops_30 : decode cX6_drops 30 = .ok (.iload 4, 2) := by decide +kernel
theorem dX6_drops_32 : decode cX6_drops 32 = .ok (.iconst 1, 1) := by decide +kernel
theorem dX6_drops_33 : decode cX6_drops 33 = .ok (.sipush 1000, 3) := by decide +kernel
theorem dX6_drops_36 : decode cX6_drops 36 = .ok (.invokestatic 52, 3) := by decide +kernel
theorem dX6_drops_39 : decode cX6_drops 39 = .ok (.ifCond .eq 7, 3) := by decide +kernel
theorem dX6_drops_42 : decode cX6_drops 42 = .ok (.iconst 1, 1) := by decide +kernel
theorem dX6_drops_43 : decode cX6_drops 43 = .ok (.goto 4, 3) := by decide +kernel
theorem dX6_drops_46 : decode cX6_drops 46 = .ok (.iconst 0, 1) := by decide +kernel
theorem dX6_drops_47 : decode cX6_drops 47 = .ok (.istore 6, 2) := by decide +kernel
theorem dX6_drops_49 : decode cX6_drops 49 = .ok (.aload_n 0, 1) := by decide +kernel
theorem dX6_drops_50 : decode cX6_drops 50 = .ok (.iload 5, 2) := by decide +kernel
theorem dX6_drops_52 : decode cX6_drops 52 = .ok (.ifCond .ne 7, 3) := by decide +kernel
theorem dX6_drops_55 : decode cX6_drops 55 = .ok (.iconst 1, 1) := by decide +kernel
theorem dX6_drops_56 : decode cX6_drops 56 = .ok (.goto 26, 3) := by decide +kernel
theorem dX6_drops_59 : decode cX6_drops 59 = .ok (.iload 6, 2) := by decide +kernel
theorem dX6_drops_61 : decode cX6_drops 61 = .ok (.ifCond .ne 7, 3) := by decide +kernel
theorem dX6_drops_64 : decode cX6_drops 64 = .ok (.iconst 2, 1) := by decide +kernel
theorem dX6_drops_65 : decode cX6_drops 65 = .ok (.goto 17, 3) := by decide +kernel
theorem dX6_drops_68 : decode cX6_drops 68 = .ok (.aload_n 0, 1) := by decide +kernel
theorem dX6_drops_69 : decode cX6_drops 69 = .ok (.getfield 63, 3) := by decide +kernel
theorem dX6_drops_72 : decode cX6_drops 72 = .ok (.bipush 100, 2) := by decide +kernel
theorem dX6_drops_74 : decode cX6_drops 74 = .ok (.if_icmp .ne 7, 3) := by decide +kernel
theorem dX6_drops_77 : decode cX6_drops 77 = .ok (.iconst 3, 1) := by decide +kernel
theorem dX6_drops_78 : decode cX6_drops 78 = .ok (.goto 4, 3) := by decide +kernel
theorem dX6_drops_81 : decode cX6_drops 81 = .ok (.iconst 0, 1) := by decide +kernel
theorem dX6_drops_82 : decode cX6_drops 82 = .ok (.invokevirtual 66, 3) := by decide +kernel
theorem dX6_drops_85 : decode cX6_drops 85 = .ok (.ifCond .ne 5, 3) := by decide +kernel
theorem dX6_drops_88 : decode cX6_drops 88 = .ok (.iconst 0, 1) := by decide +kernel
theorem dX6_drops_89 : decode cX6_drops 89 = .ok (.ireturn, 1) := by decide +kernel
theorem dX6_drops_90 : decode cX6_drops 90 = .ok (.bipush 30, 2) := by decide +kernel
theorem dX6_drops_92 : decode cX6_drops 92 = .ok (.iload_n 1, 1) := by decide +kernel
theorem dX6_drops_93 : decode cX6_drops 93 = .ok (.imul, 1) := by decide +kernel
theorem dX6_drops_94 : decode cX6_drops 94 = .ok (.iconst 3, 1) := by decide +kernel
theorem dX6_drops_95 : decode cX6_drops 95 = .ok (.iload_n 2, 1) := by decide +kernel
theorem dX6_drops_96 : decode cX6_drops 96 = .ok (.imul, 1) := by decide +kernel
theorem dX6_drops_97 : decode cX6_drops 97 = .ok (.iadd, 1) := by decide +kernel
theorem dX6_drops_98 : decode cX6_drops 98 = .ok (.iload_n 3, 1) := by decide +kernel
theorem dX6_drops_99 : decode cX6_drops 99 = .ok (.iadd, 1) := by decide +kernel
theorem dX6_drops_100 : decode cX6_drops 100 = .ok (.iconst 1, 1) := by decide +kernel
theorem dX6_drops_101 : decode cX6_drops 101 = .ok (.isub, 1) := by decide +kernel
theorem dX6_drops_102 : decode cX6_drops 102 = .ok (.istore 7, 2) := by decide +kernel
theorem dX6_drops_104 : decode cX6_drops 104 = .ok (.aload_n 0, 1) := by decide +kernel
theorem dX6_drops_105 : decode cX6_drops 105 = .ok (.getfield 13, 3) := by decide +kernel
theorem dX6_drops_108 : decode cX6_drops 108 = .ok (.iload 7, 2) := by decide +kernel
theorem dX6_drops_110 : decode cX6_drops 110 = .ok (.dup2, 1) := by decide +kernel
theorem dX6_drops_111 : decode cX6_drops 111 = .ok (.iaload, 1) := by decide +kernel
theorem dX6_drops_112 : decode cX6_drops 112 = .ok (.iload 4, 2) := by decide +kernel
theorem dX6_drops_114 : decode cX6_drops 114 = .ok (.iadd, 1) := by decide +kernel
theorem dX6_drops_115 : decode cX6_drops 115 = .ok (.iastore, 1) := by decide +kernel
theorem dX6_drops_116 : decode cX6_drops 116 = .ok (.aload_n 0, 1) := by decide +kernel
theorem dX6_drops_117 : decode cX6_drops 117 = .ok (.dup, 1) := by decide +kernel
theorem dX6_drops_118 : decode cX6_drops 118 = .ok (.getfield 69, 3) := by decide +kernel
theorem dX6_drops_121 : decode cX6_drops 121 = .ok (.iload 4, 2) := by decide +kernel
theorem dX6_drops_123 : decode cX6_drops 123 = .ok (.i2l, 1) := by decide +kernel
theorem dX6_drops_124 : decode cX6_drops 124 = .ok (.iload_n 3, 1) := by decide +kernel
theorem dX6_drops_125 : decode cX6_drops 125 = .ok (.i2l, 1) := by decide +kernel
theorem dX6_drops_126 : decode cX6_drops 126 = .ok (.lmul, 1) := by decide +kernel
theorem dX6_drops_127 : decode cX6_drops 127 = .ok (.iload_n 3, 1) := by decide +kernel
theorem dX6_drops_128 : decode cX6_drops 128 = .ok (.i2l, 1) := by decide +kernel
theorem dX6_drops_129 : decode cX6_drops 129 = .ok (.lmul, 1) := by decide +kernel
theorem dX6_drops_130 : decode cX6_drops 130 = .ok (.iload_n 3, 1) := by decide +kernel
theorem dX6_drops_131 : decode cX6_drops 131 = .ok (.i2l, 1) := by decide +kernel
theorem dX6_drops_132 : decode cX6_drops 132 = .ok (.lmul, 1) := by decide +kernel
theorem dX6_drops_133 : decode cX6_drops 133 = .ok (.ladd, 1) := by decide +kernel
theorem dX6_drops_134 : decode cX6_drops 134 = .ok (.putfield 69, 3) := by decide +kernel
theorem dX6_drops_137 : decode cX6_drops 137 = .ok (.aload_n 0, 1) := by decide +kernel
theorem dX6_drops_138 : decode cX6_drops 138 = .ok (.dup, 1) := by decide +kernel
theorem dX6_drops_139 : decode cX6_drops 139 = .ok (.getfield 63, 3) := by decide +kernel
theorem dX6_drops_142 : decode cX6_drops 142 = .ok (.iconst 1, 1) := by decide +kernel
theorem dX6_drops_143 : decode cX6_drops 143 = .ok (.iadd, 1) := by decide +kernel
theorem dX6_drops_144 : decode cX6_drops 144 = .ok (.putfield 63, 3) := by decide +kernel
theorem dX6_drops_147 : decode cX6_drops 147 = .ok (.aload_n 0, 1) := by decide +kernel
theorem dX6_drops_148 : decode cX6_drops 148 = .ok (.getfield 13, 3) := by decide +kernel
theorem dX6_drops_151 : decode cX6_drops 151 = .ok (.iload 7, 2) := by decide +kernel
theorem dX6_drops_153 : decode cX6_drops 153 = .ok (.iaload, 1) := by decide +kernel
theorem dX6_drops_154 : decode cX6_drops 154 = .ok (.ireturn, 1) := by decide +kernel
theorem dX6_melt_0 : decode cX6_melt 0 = .ok (.aload_n 0, 1) := by decide +kernel
theorem dX6_melt_1 : decode cX6_melt 1 = .ok (.iload_n 1, 1) := by decide +kernel
theorem dX6_melt_2 : decode cX6_melt 2 = .ok (.invokestatic 60, 3) := by decide +kernel
theorem dX6_melt_5 : decode cX6_melt 5 = .ok (.ifCond .eq 7, 3) := by decide +kernel
theorem dX6_melt_8 : decode cX6_melt 8 = .ok (.iconst 0, 1) := by decide +kernel
theorem dX6_melt_9 : decode cX6_melt 9 = .ok (.goto 4, 3) := by decide +kernel
theorem dX6_melt_12 : decode cX6_melt 12 = .ok (.iconst 1, 1) := by decide +kernel
theorem dX6_melt_13 : decode cX6_melt 13 = .ok (.invokevirtual 66, 3) := by decide +kernel
theorem dX6_melt_16 : decode cX6_melt 16 = .ok (.ifCond .ne 5, 3) := by decide +kernel
theorem dX6_melt_19 : decode cX6_melt 19 = .ok (.iconst 0, 1) := by decide +kernel
theorem dX6_melt_20 : decode cX6_melt 20 = .ok (.ireturn, 1) := by decide +kernel
theorem dX6_melt_21 : decode cX6_melt 21 = .ok (.aload_n 0, 1) := by decide +kernel
theorem dX6_melt_22 : decode cX6_melt 22 = .ok (.getfield 7, 3) := by decide +kernel
theorem dX6_melt_25 : decode cX6_melt 25 = .ok (.istore_n 2, 1) := by decide +kernel
theorem dX6_melt_26 : decode cX6_melt 26 = .ok (.aload_n 0, 1) := by decide +kernel
theorem dX6_melt_27 : decode cX6_melt 27 = .ok (.iload_n 1, 1) := by decide +kernel
theorem dX6_melt_28 : decode cX6_melt 28 = .ok (.putfield 7, 3) := by decide +kernel
theorem dX6_melt_31 : decode cX6_melt 31 = .ok (.iload_n 2, 1) := by decide +kernel
theorem dX6_melt_32 : decode cX6_melt 32 = .ok (.ireturn, 1) := by decide +kernel
theorem dX6_hill_0 : decode cX6_hill 0 = .ok (.iload_n 1, 1) := by decide +kernel
theorem dX6_hill_1 : decode cX6_hill 1 = .ok (.invokestatic 56, 3) := by decide +kernel
theorem dX6_hill_4 : decode cX6_hill 4 = .ok (.istore_n 3, 1) := by decide +kernel
theorem dX6_hill_5 : decode cX6_hill 5 = .ok (.aload_n 0, 1) := by decide +kernel
theorem dX6_hill_6 : decode cX6_hill 6 = .ok (.iload_n 3, 1) := by decide +kernel
theorem dX6_hill_7 : decode cX6_hill 7 = .ok (.ifCond .ne 7, 3) := by decide +kernel
theorem dX6_hill_10 : decode cX6_hill 10 = .ok (.iconst 1, 1) := by decide +kernel
theorem dX6_hill_11 : decode cX6_hill 11 = .ok (.goto 18, 3) := by decide +kernel
theorem dX6_hill_14 : decode cX6_hill 14 = .ok (.iload_n 2, 1) := by decide +kernel
theorem dX6_hill_15 : decode cX6_hill 15 = .ok (.iconst 0, 1) := by decide +kernel
theorem dX6_hill_16 : decode cX6_hill 16 = .ok (.bipush 9, 2) := by decide +kernel
theorem dX6_hill_18 : decode cX6_hill 18 = .ok (.invokestatic 52, 3) := by decide +kernel
theorem dX6_hill_21 : decode cX6_hill 21 = .ok (.ifCond .eq 7, 3) := by decide +kernel
theorem dX6_hill_24 : decode cX6_hill 24 = .ok (.iconst 0, 1) := by decide +kernel
theorem dX6_hill_25 : decode cX6_hill 25 = .ok (.goto 4, 3) := by decide +kernel
theorem dX6_hill_28 : decode cX6_hill 28 = .ok (.iconst 2, 1) := by decide +kernel
theorem dX6_hill_29 : decode cX6_hill 29 = .ok (.invokevirtual 66, 3) := by decide +kernel
theorem dX6_hill_32 : decode cX6_hill 32 = .ok (.ifCond .ne 5, 3) := by decide +kernel
theorem dX6_hill_35 : decode cX6_hill 35 = .ok (.iconst 0, 1) := by decide +kernel
theorem dX6_hill_36 : decode cX6_hill 36 = .ok (.ireturn, 1) := by decide +kernel
theorem dX6_hill_37 : decode cX6_hill 37 = .ok (.aload_n 0, 1) := by decide +kernel
theorem dX6_hill_38 : decode cX6_hill 38 = .ok (.getfield 20, 3) := by decide +kernel
theorem dX6_hill_41 : decode cX6_hill 41 = .ok (.iload_n 1, 1) := by decide +kernel
theorem dX6_hill_42 : decode cX6_hill 42 = .ok (.iaload, 1) := by decide +kernel
theorem dX6_hill_43 : decode cX6_hill 43 = .ok (.istore 4, 2) := by decide +kernel
theorem dX6_hill_45 : decode cX6_hill 45 = .ok (.aload_n 0, 1) := by decide +kernel
theorem dX6_hill_46 : decode cX6_hill 46 = .ok (.getfield 20, 3) := by decide +kernel
theorem dX6_hill_49 : decode cX6_hill 49 = .ok (.iload_n 1, 1) := by decide +kernel
theorem dX6_hill_50 : decode cX6_hill 50 = .ok (.iload_n 2, 1) := by decide +kernel
theorem dX6_hill_51 : decode cX6_hill 51 = .ok (.iastore, 1) := by decide +kernel
theorem dX6_hill_52 : decode cX6_hill 52 = .ok (.iload 4, 2) := by decide +kernel
theorem dX6_hill_54 : decode cX6_hill 54 = .ok (.ireturn, 1) := by decide +kernel
theorem dX6_drift_0 : decode cX6_drift 0 = .ok (.aload_n 0, 1) := by decide +kernel
theorem dX6_drift_1 : decode cX6_drift 1 = .ok (.iload_n 1, 1) := by decide +kernel
theorem dX6_drift_2 : decode cX6_drift 2 = .ok (.iconst 0, 1) := by decide +kernel
theorem dX6_drift_3 : decode cX6_drift 3 = .ok (.bipush 60, 2) := by decide +kernel
theorem dX6_drift_5 : decode cX6_drift 5 = .ok (.invokestatic 52, 3) := by decide +kernel
theorem dX6_drift_8 : decode cX6_drift 8 = .ok (.ifCond .eq 7, 3) := by decide +kernel
theorem dX6_drift_11 : decode cX6_drift 11 = .ok (.iconst 0, 1) := by decide +kernel
theorem dX6_drift_12 : decode cX6_drift 12 = .ok (.goto 4, 3) := by decide +kernel
theorem dX6_drift_15 : decode cX6_drift 15 = .ok (.iconst 1, 1) := by decide +kernel
theorem dX6_drift_16 : decode cX6_drift 16 = .ok (.invokevirtual 66, 3) := by decide +kernel
theorem dX6_drift_19 : decode cX6_drift 19 = .ok (.ifCond .ne 5, 3) := by decide +kernel
theorem dX6_drift_22 : decode cX6_drift 22 = .ok (.iconst 0, 1) := by decide +kernel
theorem dX6_drift_23 : decode cX6_drift 23 = .ok (.ireturn, 1) := by decide +kernel
theorem dX6_drift_24 : decode cX6_drift 24 = .ok (.aload_n 0, 1) := by decide +kernel
theorem dX6_drift_25 : decode cX6_drift 25 = .ok (.getfield 73, 3) := by decide +kernel
theorem dX6_drift_28 : decode cX6_drift 28 = .ok (.istore_n 3, 1) := by decide +kernel
theorem dX6_drift_29 : decode cX6_drift 29 = .ok (.aload_n 0, 1) := by decide +kernel
theorem dX6_drift_30 : decode cX6_drift 30 = .ok (.iload_n 1, 1) := by decide +kernel
theorem dX6_drift_31 : decode cX6_drift 31 = .ok (.putfield 73, 3) := by decide +kernel
theorem dX6_drift_34 : decode cX6_drift 34 = .ok (.aload_n 0, 1) := by decide +kernel
theorem dX6_drift_35 : decode cX6_drift 35 = .ok (.iload_n 2, 1) := by decide +kernel
theorem dX6_drift_36 : decode cX6_drift 36 = .ok (.putfield 76, 3) := by decide +kernel
theorem dX6_drift_39 : decode cX6_drift 39 = .ok (.iload_n 3, 1) := by decide +kernel
theorem dX6_drift_40 : decode cX6_drift 40 = .ok (.ireturn, 1) := by decide +kernel
theorem dX6_gauge_0 : decode cX6_gauge 0 = .ok (.aload_n 0, 1) := by decide +kernel
theorem dX6_gauge_1 : decode cX6_gauge 1 = .ok (.iload_n 1, 1) := by decide +kernel
theorem dX6_gauge_2 : decode cX6_gauge 2 = .ok (.invokestatic 56, 3) := by decide +kernel
theorem dX6_gauge_5 : decode cX6_gauge 5 = .ok (.ifCond .eq 7, 3) := by decide +kernel
theorem dX6_gauge_8 : decode cX6_gauge 8 = .ok (.iconst 0, 1) := by decide +kernel
theorem dX6_gauge_9 : decode cX6_gauge 9 = .ok (.goto 4, 3) := by decide +kernel
theorem dX6_gauge_12 : decode cX6_gauge 12 = .ok (.iconst 1, 1) := by decide +kernel
theorem dX6_gauge_13 : decode cX6_gauge 13 = .ok (.invokevirtual 66, 3) := by decide +kernel
theorem dX6_gauge_16 : decode cX6_gauge 16 = .ok (.ifCond .ne 5, 3) := by decide +kernel
theorem dX6_gauge_19 : decode cX6_gauge 19 = .ok (.iconst 0, 1) := by decide +kernel
theorem dX6_gauge_20 : decode cX6_gauge 20 = .ok (.ireturn, 1) := by decide +kernel
theorem dX6_gauge_21 : decode cX6_gauge 21 = .ok (.aload_n 0, 1) := by decide +kernel
theorem dX6_gauge_22 : decode cX6_gauge 22 = .ok (.getfield 23, 3) := by decide +kernel
theorem dX6_gauge_25 : decode cX6_gauge 25 = .ok (.iload_n 1, 1) := by decide +kernel
theorem dX6_gauge_26 : decode cX6_gauge 26 = .ok (.baload, 1) := by decide +kernel
theorem dX6_gauge_27 : decode cX6_gauge 27 = .ok (.istore_n 3, 1) := by decide +kernel
theorem dX6_gauge_28 : decode cX6_gauge 28 = .ok (.aload_n 0, 1) := by decide +kernel
theorem dX6_gauge_29 : decode cX6_gauge 29 = .ok (.getfield 23, 3) := by decide +kernel
theorem dX6_gauge_32 : decode cX6_gauge 32 = .ok (.iload_n 1, 1) := by decide +kernel
theorem dX6_gauge_33 : decode cX6_gauge 33 = .ok (.iload_n 2, 1) := by decide +kernel
theorem dX6_gauge_34 : decode cX6_gauge 34 = .ok (.bastore, 1) := by decide +kernel
theorem dX6_gauge_35 : decode cX6_gauge 35 = .ok (.aload_n 0, 1) := by decide +kernel
theorem dX6_gauge_36 : decode cX6_gauge 36 = .ok (.getfield 27, 3) := by decide +kernel
theorem dX6_gauge_39 : decode cX6_gauge 39 = .ok (.iload_n 1, 1) := by decide +kernel
theorem dX6_gauge_40 : decode cX6_gauge 40 = .ok (.iload_n 2, 1) := by decide +kernel
theorem dX6_gauge_41 : decode cX6_gauge 41 = .ok (.ifCond .eq 16, 3) := by decide +kernel
theorem dX6_gauge_44 : decode cX6_gauge 44 = .ok (.aload_n 0, 1) := by decide +kernel
theorem dX6_gauge_45 : decode cX6_gauge 45 = .ok (.getfield 27, 3) := by decide +kernel
theorem dX6_gauge_48 : decode cX6_gauge 48 = .ok (.iload_n 1, 1) := by decide +kernel
theorem dX6_gauge_49 : decode cX6_gauge 49 = .ok (.baload, 1) := by decide +kernel
theorem dX6_gauge_50 : decode cX6_gauge 50 = .ok (.ifCond .eq 7, 3) := by decide +kernel
theorem dX6_gauge_53 : decode cX6_gauge 53 = .ok (.iconst 1, 1) := by decide +kernel
theorem dX6_gauge_54 : decode cX6_gauge 54 = .ok (.goto 4, 3) := by decide +kernel
theorem dX6_gauge_57 : decode cX6_gauge 57 = .ok (.iconst 0, 1) := by decide +kernel
theorem dX6_gauge_58 : decode cX6_gauge 58 = .ok (.bastore, 1) := by decide +kernel
theorem dX6_gauge_59 : decode cX6_gauge 59 = .ok (.aload_n 0, 1) := by decide +kernel
theorem dX6_gauge_60 : decode cX6_gauge 60 = .ok (.getfield 30, 3) := by decide +kernel
theorem dX6_gauge_63 : decode cX6_gauge 63 = .ok (.iload_n 1, 1) := by decide +kernel
theorem dX6_gauge_64 : decode cX6_gauge 64 = .ok (.iload_n 2, 1) := by decide +kernel
theorem dX6_gauge_65 : decode cX6_gauge 65 = .ok (.ifCond .eq 12, 3) := by decide +kernel
theorem dX6_gauge_68 : decode cX6_gauge 68 = .ok (.aload_n 0, 1) := by decide +kernel
theorem dX6_gauge_69 : decode cX6_gauge 69 = .ok (.getfield 30, 3) := by decide +kernel
theorem dX6_gauge_72 : decode cX6_gauge 72 = .ok (.iload_n 1, 1) := by decide +kernel
theorem dX6_gauge_73 : decode cX6_gauge 73 = .ok (.laload, 1) := by decide +kernel
theorem dX6_gauge_74 : decode cX6_gauge 74 = .ok (.goto 4, 3) := by decide +kernel
theorem dX6_gauge_77 : decode cX6_gauge 77 = .ok (.lconst 0, 1) := by decide +kernel
theorem dX6_gauge_78 : decode cX6_gauge 78 = .ok (.lastore, 1) := by decide +kernel
theorem dX6_gauge_79 : decode cX6_gauge 79 = .ok (.iload_n 3, 1) := by decide +kernel
theorem dX6_gauge_80 : decode cX6_gauge 80 = .ok (.ireturn, 1) := by decide +kernel
theorem dX6_clog_0 : decode cX6_clog 0 = .ok (.aload_n 0, 1) := by decide +kernel
theorem dX6_clog_1 : decode cX6_clog 1 = .ok (.iload_n 1, 1) := by decide +kernel
theorem dX6_clog_2 : decode cX6_clog 2 = .ok (.invokestatic 56, 3) := by decide +kernel
theorem dX6_clog_5 : decode cX6_clog 5 = .ok (.ifCond .eq 16, 3) := by decide +kernel
theorem dX6_clog_8 : decode cX6_clog 8 = .ok (.aload_n 0, 1) := by decide +kernel
theorem dX6_clog_9 : decode cX6_clog 9 = .ok (.getfield 23, 3) := by decide +kernel
theorem dX6_clog_12 : decode cX6_clog 12 = .ok (.iload_n 1, 1) := by decide +kernel
theorem dX6_clog_13 : decode cX6_clog 13 = .ok (.baload, 1) := by decide +kernel
theorem dX6_clog_14 : decode cX6_clog 14 = .ok (.ifCond .eq 7, 3) := by decide +kernel
theorem dX6_clog_17 : decode cX6_clog 17 = .ok (.iconst 0, 1) := by decide +kernel
theorem dX6_clog_18 : decode cX6_clog 18 = .ok (.goto 4, 3) := by decide +kernel
theorem dX6_clog_21 : decode cX6_clog 21 = .ok (.iconst 1, 1) := by decide +kernel
theorem dX6_clog_22 : decode cX6_clog 22 = .ok (.invokevirtual 66, 3) := by decide +kernel
theorem dX6_clog_25 : decode cX6_clog 25 = .ok (.ifCond .ne 5, 3) := by decide +kernel
theorem dX6_clog_28 : decode cX6_clog 28 = .ok (.iconst 0, 1) := by decide +kernel
theorem dX6_clog_29 : decode cX6_clog 29 = .ok (.ireturn, 1) := by decide +kernel
theorem dX6_clog_30 : decode cX6_clog 30 = .ok (.aload_n 0, 1) := by decide +kernel
theorem dX6_clog_31 : decode cX6_clog 31 = .ok (.getfield 27, 3) := by decide +kernel
theorem dX6_clog_34 : decode cX6_clog 34 = .ok (.iload_n 1, 1) := by decide +kernel
theorem dX6_clog_35 : decode cX6_clog 35 = .ok (.baload, 1) := by decide +kernel
theorem dX6_clog_36 : decode cX6_clog 36 = .ok (.istore_n 3, 1) := by decide +kernel
theorem dX6_clog_37 : decode cX6_clog 37 = .ok (.aload_n 0, 1) := by decide +kernel
theorem dX6_clog_38 : decode cX6_clog 38 = .ok (.getfield 27, 3) := by decide +kernel
theorem dX6_clog_41 : decode cX6_clog 41 = .ok (.iload_n 1, 1) := by decide +kernel
theorem dX6_clog_42 : decode cX6_clog 42 = .ok (.iload_n 2, 1) := by decide +kernel
theorem dX6_clog_43 : decode cX6_clog 43 = .ok (.bastore, 1) := by decide +kernel
theorem dX6_clog_44 : decode cX6_clog 44 = .ok (.iload_n 3, 1) := by decide +kernel
theorem dX6_clog_45 : decode cX6_clog 45 = .ok (.ireturn, 1) := by decide +kernel
theorem dX6_phaseOf_0 : decode cX6_phaseOf 0 = .ok (.iload_n 1, 1) := by decide +kernel
theorem dX6_phaseOf_1 : decode cX6_phaseOf 1 = .ok (.aload_n 0, 1) := by decide +kernel
theorem dX6_phaseOf_2 : decode cX6_phaseOf 2 = .ok (.getfield 7, 3) := by decide +kernel
theorem dX6_phaseOf_5 : decode cX6_phaseOf 5 = .ok (.if_icmp .le 7, 3) := by decide +kernel
theorem dX6_phaseOf_8 : decode cX6_phaseOf 8 = .ok (.iconst 0, 1) := by decide +kernel
theorem dX6_phaseOf_9 : decode cX6_phaseOf 9 = .ok (.goto 16, 3) := by decide +kernel
theorem dX6_phaseOf_12 : decode cX6_phaseOf 12 = .ok (.iload_n 1, 1) := by decide +kernel
theorem dX6_phaseOf_13 : decode cX6_phaseOf 13 = .ok (.aload_n 0, 1) := by decide +kernel
theorem dX6_phaseOf_14 : decode cX6_phaseOf 14 = .ok (.getfield 7, 3) := by decide +kernel
theorem dX6_phaseOf_17 : decode cX6_phaseOf 17 = .ok (.if_icmp .ne 7, 3) := by decide +kernel
theorem dX6_phaseOf_20 : decode cX6_phaseOf 20 = .ok (.iconst 1, 1) := by decide +kernel
theorem dX6_phaseOf_21 : decode cX6_phaseOf 21 = .ok (.goto 4, 3) := by decide +kernel
theorem dX6_phaseOf_24 : decode cX6_phaseOf 24 = .ok (.iconst 2, 1) := by decide +kernel
theorem dX6_phaseOf_25 : decode cX6_phaseOf 25 = .ok (.ireturn, 1) := by decide +kernel
theorem dX6_clear_0 : decode cX6_clear 0 = .ok (.iconst 0, 1) := by decide +kernel
theorem dX6_clear_1 : decode cX6_clear 1 = .ok (.istore_n 1, 1) := by decide +kernel
theorem dX6_clear_2 : decode cX6_clear 2 = .ok (.iload_n 1, 1) := by decide +kernel
theorem dX6_clear_3 : decode cX6_clear 3 = .ok (.sipush 600, 3) := by decide +kernel
theorem dX6_clear_6 : decode cX6_clear 6 = .ok (.if_icmp .ge 16, 3) := by decide +kernel
theorem dX6_clear_9 : decode cX6_clear 9 = .ok (.aload_n 0, 1) := by decide +kernel
theorem dX6_clear_10 : decode cX6_clear 10 = .ok (.getfield 17, 3) := by decide +kernel
theorem dX6_clear_13 : decode cX6_clear 13 = .ok (.iload_n 1, 1) := by decide +kernel
theorem dX6_clear_14 : decode cX6_clear 14 = .ok (.iconst 0, 1) := by decide +kernel
theorem dX6_clear_15 : decode cX6_clear 15 = .ok (.iastore, 1) := by decide +kernel
theorem dX6_clear_16 : decode cX6_clear 16 = .ok (.iinc 1 1, 3) := by decide +kernel
theorem dX6_clear_19 : decode cX6_clear 19 = .ok (.goto (-17), 3) := by decide +kernel
theorem dX6_clear_22 : decode cX6_clear 22 = .ok (.return_, 1) := by decide +kernel
theorem dX6_swap_0 : decode cX6_swap 0 = .ok (.aload_n 0, 1) := by decide +kernel
theorem dX6_swap_1 : decode cX6_swap 1 = .ok (.getfield 13, 3) := by decide +kernel
theorem dX6_swap_4 : decode cX6_swap 4 = .ok (.astore_n 1, 1) := by decide +kernel
theorem dX6_swap_5 : decode cX6_swap 5 = .ok (.aload_n 0, 1) := by decide +kernel
theorem dX6_swap_6 : decode cX6_swap 6 = .ok (.aload_n 0, 1) := by decide +kernel
theorem dX6_swap_7 : decode cX6_swap 7 = .ok (.getfield 17, 3) := by decide +kernel
theorem dX6_swap_10 : decode cX6_swap 10 = .ok (.putfield 13, 3) := by decide +kernel
theorem dX6_swap_13 : decode cX6_swap 13 = .ok (.aload_n 0, 1) := by decide +kernel
theorem dX6_swap_14 : decode cX6_swap 14 = .ok (.aload_n 1, 1) := by decide +kernel
theorem dX6_swap_15 : decode cX6_swap 15 = .ok (.putfield 17, 3) := by decide +kernel
theorem dX6_swap_18 : decode cX6_swap 18 = .ok (.return_, 1) := by decide +kernel
theorem dX6_fall_0 : decode cX6_fall 0 = .ok (.aload_n 0, 1) := by decide +kernel
theorem dX6_fall_1 : decode cX6_fall 1 = .ok (.invokevirtual 80, 3) := by decide +kernel
theorem dX6_fall_4 : decode cX6_fall 4 = .ok (.iconst 0, 1) := by decide +kernel
theorem dX6_fall_5 : decode cX6_fall 5 = .ok (.istore_n 1, 1) := by decide +kernel
theorem dX6_fall_6 : decode cX6_fall 6 = .ok (.iload_n 1, 1) := by decide +kernel
theorem dX6_fall_7 : decode cX6_fall 7 = .ok (.bipush 20, 2) := by decide +kernel
theorem dX6_fall_9 : decode cX6_fall 9 = .ok (.if_icmp .ge 16, 3) := by decide +kernel
theorem dX6_fall_12 : decode cX6_fall 12 = .ok (.aload_n 0, 1) := by decide +kernel
theorem dX6_fall_13 : decode cX6_fall 13 = .ok (.getfield 37, 3) := by decide +kernel
theorem dX6_fall_16 : decode cX6_fall 16 = .ok (.iload_n 1, 1) := by decide +kernel
theorem dX6_fall_17 : decode cX6_fall 17 = .ok (.lconst 0, 1) := by decide +kernel
theorem dX6_fall_18 : decode cX6_fall 18 = .ok (.lastore, 1) := by decide +kernel
theorem dX6_fall_19 : decode cX6_fall 19 = .ok (.iinc 1 1, 3) := by decide +kernel
theorem dX6_fall_22 : decode cX6_fall 22 = .ok (.goto (-16), 3) := by decide +kernel
theorem dX6_fall_25 : decode cX6_fall 25 = .ok (.iconst 0, 1) := by decide +kernel
theorem dX6_fall_26 : decode cX6_fall 26 = .ok (.istore_n 1, 1) := by decide +kernel
theorem dX6_fall_27 : decode cX6_fall 27 = .ok (.iload_n 1, 1) := by decide +kernel
theorem dX6_fall_28 : decode cX6_fall 28 = .ok (.sipush 600, 3) := by decide +kernel
theorem dX6_fall_31 : decode cX6_fall 31 = .ok (.if_icmp .ge 94, 3) := by decide +kernel
theorem dX6_fall_34 : decode cX6_fall 34 = .ok (.iload_n 1, 1) := by decide +kernel
theorem dX6_fall_35 : decode cX6_fall 35 = .ok (.iconst 3, 1) := by decide +kernel
theorem dX6_fall_36 : decode cX6_fall 36 = .ok (.idiv, 1) := by decide +kernel
theorem dX6_fall_37 : decode cX6_fall 37 = .ok (.bipush 10, 2) := by decide +kernel
theorem dX6_fall_39 : decode cX6_fall 39 = .ok (.irem, 1) := by decide +kernel
theorem dX6_fall_40 : decode cX6_fall 40 = .ok (.istore_n 2, 1) := by decide +kernel
theorem dX6_fall_41 : decode cX6_fall 41 = .ok (.iload_n 1, 1) := by decide +kernel
theorem dX6_fall_42 : decode cX6_fall 42 = .ok (.iconst 3, 1) := by decide +kernel
theorem dX6_fall_43 : decode cX6_fall 43 = .ok (.irem, 1) := by decide +kernel
theorem dX6_fall_44 : decode cX6_fall 44 = .ok (.iconst 1, 1) := by decide +kernel
theorem dX6_fall_45 : decode cX6_fall 45 = .ok (.iadd, 1) := by decide +kernel
theorem dX6_fall_46 : decode cX6_fall 46 = .ok (.istore_n 3, 1) := by decide +kernel
theorem dX6_fall_47 : decode cX6_fall 47 = .ok (.aload_n 0, 1) := by decide +kernel
theorem dX6_fall_48 : decode cX6_fall 48 = .ok (.iload_n 2, 1) := by decide +kernel
theorem dX6_fall_49 : decode cX6_fall 49 = .ok (.invokevirtual 83, 3) := by decide +kernel
theorem dX6_fall_52 : decode cX6_fall 52 = .ok (.ifCond .ne 7, 3) := by decide +kernel
theorem dX6_fall_55 : decode cX6_fall 55 = .ok (.iconst 1, 1) := by decide +kernel
theorem dX6_fall_56 : decode cX6_fall 56 = .ok (.goto 4, 3) := by decide +kernel
theorem dX6_fall_59 : decode cX6_fall 59 = .ok (.iload_n 3, 1) := by decide +kernel
theorem dX6_fall_60 : decode cX6_fall 60 = .ok (.istore 4, 2) := by decide +kernel
theorem dX6_fall_62 : decode cX6_fall 62 = .ok (.iload_n 2, 1) := by decide +kernel
theorem dX6_fall_63 : decode cX6_fall 63 = .ok (.iload 4, 2) := by decide +kernel
theorem dX6_fall_65 : decode cX6_fall 65 = .ok (.if_icmp .ge 34, 3) := by decide +kernel
theorem dX6_fall_68 : decode cX6_fall 68 = .ok (.aload_n 0, 1) := by decide +kernel
theorem dX6_fall_69 : decode cX6_fall 69 = .ok (.getfield 37, 3) := by decide +kernel
theorem dX6_fall_72 : decode cX6_fall 72 = .ok (.iload_n 1, 1) := by decide +kernel
theorem dX6_fall_73 : decode cX6_fall 73 = .ok (.bipush 30, 2) := by decide +kernel
theorem dX6_fall_75 : decode cX6_fall 75 = .ok (.idiv, 1) := by decide +kernel
theorem dX6_fall_76 : decode cX6_fall 76 = .ok (.dup2, 1) := by decide +kernel
theorem dX6_fall_77 : decode cX6_fall 77 = .ok (.laload, 1) := by decide +kernel
theorem dX6_fall_78 : decode cX6_fall 78 = .ok (.aload_n 0, 1) := by decide +kernel
theorem dX6_fall_79 : decode cX6_fall 79 = .ok (.getfield 13, 3) := by decide +kernel
theorem dX6_fall_82 : decode cX6_fall 82 = .ok (.iload_n 1, 1) := by decide +kernel
theorem dX6_fall_83 : decode cX6_fall 83 = .ok (.iaload, 1) := by decide +kernel
theorem dX6_fall_84 : decode cX6_fall 84 = .ok (.i2l, 1) := by decide +kernel
theorem dX6_fall_85 : decode cX6_fall 85 = .ok (.iload_n 3, 1) := by decide +kernel
theorem dX6_fall_86 : decode cX6_fall 86 = .ok (.i2l, 1) := by decide +kernel
theorem dX6_fall_87 : decode cX6_fall 87 = .ok (.lmul, 1) := by decide +kernel
theorem dX6_fall_88 : decode cX6_fall 88 = .ok (.iload_n 3, 1) := by decide +kernel
theorem dX6_fall_89 : decode cX6_fall 89 = .ok (.i2l, 1) := by decide +kernel
theorem dX6_fall_90 : decode cX6_fall 90 = .ok (.lmul, 1) := by decide +kernel
theorem dX6_fall_91 : decode cX6_fall 91 = .ok (.iload_n 3, 1) := by decide +kernel
theorem dX6_fall_92 : decode cX6_fall 92 = .ok (.i2l, 1) := by decide +kernel
theorem dX6_fall_93 : decode cX6_fall 93 = .ok (.lmul, 1) := by decide +kernel
theorem dX6_fall_94 : decode cX6_fall 94 = .ok (.ladd, 1) := by decide +kernel
theorem dX6_fall_95 : decode cX6_fall 95 = .ok (.lastore, 1) := by decide +kernel
theorem dX6_fall_96 : decode cX6_fall 96 = .ok (.goto 23, 3) := by decide +kernel
theorem dX6_fall_99 : decode cX6_fall 99 = .ok (.aload_n 0, 1) := by decide +kernel
theorem dX6_fall_100 : decode cX6_fall 100 = .ok (.getfield 17, 3) := by decide +kernel
theorem dX6_fall_103 : decode cX6_fall 103 = .ok (.iload_n 1, 1) := by decide +kernel
theorem dX6_fall_104 : decode cX6_fall 104 = .ok (.iconst 3, 1) := by decide +kernel
theorem dX6_fall_105 : decode cX6_fall 105 = .ok (.iload 4, 2) := by decide +kernel
theorem dX6_fall_107 : decode cX6_fall 107 = .ok (.imul, 1) := by decide +kernel
theorem dX6_fall_108 : decode cX6_fall 108 = .ok (.isub, 1) := by decide +kernel
theorem dX6_fall_109 : decode cX6_fall 109 = .ok (.dup2, 1) := by decide +kernel
theorem dX6_fall_110 : decode cX6_fall 110 = .ok (.iaload, 1) := by decide +kernel
theorem dX6_fall_111 : decode cX6_fall 111 = .ok (.aload_n 0, 1) := by decide +kernel
theorem dX6_fall_112 : decode cX6_fall 112 = .ok (.getfield 13, 3) := by decide +kernel
theorem dX6_fall_115 : decode cX6_fall 115 = .ok (.iload_n 1, 1) := by decide +kernel
theorem dX6_fall_116 : decode cX6_fall 116 = .ok (.iaload, 1) := by decide +kernel
theorem dX6_fall_117 : decode cX6_fall 117 = .ok (.iadd, 1) := by decide +kernel
theorem dX6_fall_118 : decode cX6_fall 118 = .ok (.iastore, 1) := by decide +kernel
theorem dX6_fall_119 : decode cX6_fall 119 = .ok (.iinc 1 1, 3) := by decide +kernel
theorem dX6_fall_122 : decode cX6_fall 122 = .ok (.goto (-95), 3) := by decide +kernel
theorem dX6_fall_125 : decode cX6_fall 125 = .ok (.aload_n 0, 1) := by decide +kernel
theorem dX6_fall_126 : decode cX6_fall 126 = .ok (.invokevirtual 87, 3) := by decide +kernel
theorem dX6_fall_129 : decode cX6_fall 129 = .ok (.iconst 0, 1) := by decide +kernel
theorem dX6_fall_130 : decode cX6_fall 130 = .ok (.istore_n 1, 1) := by decide +kernel
theorem dX6_fall_131 : decode cX6_fall 131 = .ok (.iload_n 1, 1) := by decide +kernel
theorem dX6_fall_132 : decode cX6_fall 132 = .ok (.bipush 20, 2) := by decide +kernel
theorem dX6_fall_134 : decode cX6_fall 134 = .ok (.if_icmp .ge 74, 3) := by decide +kernel
theorem dX6_fall_137 : decode cX6_fall 137 = .ok (.aload_n 0, 1) := by decide +kernel
theorem dX6_fall_138 : decode cX6_fall 138 = .ok (.getfield 34, 3) := by decide +kernel
theorem dX6_fall_141 : decode cX6_fall 141 = .ok (.iload_n 1, 1) := by decide +kernel
theorem dX6_fall_142 : decode cX6_fall 142 = .ok (.dup2, 1) := by decide +kernel
theorem dX6_fall_143 : decode cX6_fall 143 = .ok (.laload, 1) := by decide +kernel
theorem dX6_fall_144 : decode cX6_fall 144 = .ok (.aload_n 0, 1) := by decide +kernel
theorem dX6_fall_145 : decode cX6_fall 145 = .ok (.getfield 37, 3) := by decide +kernel
theorem dX6_fall_148 : decode cX6_fall 148 = .ok (.iload_n 1, 1) := by decide +kernel
theorem dX6_fall_149 : decode cX6_fall 149 = .ok (.laload, 1) := by decide +kernel
theorem dX6_fall_150 : decode cX6_fall 150 = .ok (.ladd, 1) := by decide +kernel
theorem dX6_fall_151 : decode cX6_fall 151 = .ok (.lastore, 1) := by decide +kernel
theorem dX6_fall_152 : decode cX6_fall 152 = .ok (.aload_n 0, 1) := by decide +kernel
theorem dX6_fall_153 : decode cX6_fall 153 = .ok (.getfield 30, 3) := by decide +kernel
theorem dX6_fall_156 : decode cX6_fall 156 = .ok (.iload_n 1, 1) := by decide +kernel
theorem dX6_fall_157 : decode cX6_fall 157 = .ok (.dup2, 1) := by decide +kernel
theorem dX6_fall_158 : decode cX6_fall 158 = .ok (.laload, 1) := by decide +kernel
theorem dX6_fall_159 : decode cX6_fall 159 = .ok (.aload_n 0, 1) := by decide +kernel
theorem dX6_fall_160 : decode cX6_fall 160 = .ok (.getfield 23, 3) := by decide +kernel
theorem dX6_fall_163 : decode cX6_fall 163 = .ok (.iload_n 1, 1) := by decide +kernel
theorem dX6_fall_164 : decode cX6_fall 164 = .ok (.baload, 1) := by decide +kernel
theorem dX6_fall_165 : decode cX6_fall 165 = .ok (.ifCond .ne 7, 3) := by decide +kernel
theorem dX6_fall_168 : decode cX6_fall 168 = .ok (.lconst 0, 1) := by decide +kernel
theorem dX6_fall_169 : decode cX6_fall 169 = .ok (.goto 31, 3) := by decide +kernel
theorem dX6_fall_172 : decode cX6_fall 172 = .ok (.aload_n 0, 1) := by decide +kernel
theorem dX6_fall_173 : decode cX6_fall 173 = .ok (.getfield 27, 3) := by decide +kernel
theorem dX6_fall_176 : decode cX6_fall 176 = .ok (.iload_n 1, 1) := by decide +kernel
theorem dX6_fall_177 : decode cX6_fall 177 = .ok (.baload, 1) := by decide +kernel
theorem dX6_fall_178 : decode cX6_fall 178 = .ok (.ifCond .eq 16, 3) := by decide +kernel
theorem dX6_fall_181 : decode cX6_fall 181 = .ok (.aload_n 0, 1) := by decide +kernel
theorem dX6_fall_182 : decode cX6_fall 182 = .ok (.getfield 37, 3) := by decide +kernel
theorem dX6_fall_185 : decode cX6_fall 185 = .ok (.iload_n 1, 1) := by decide +kernel
theorem dX6_fall_186 : decode cX6_fall 186 = .ok (.laload, 1) := by decide +kernel
theorem dX6_fall_187 : decode cX6_fall 187 = .ok (.ldc2_w 90, 3) := by decide +kernel
theorem dX6_fall_190 : decode cX6_fall 190 = .ok (.ldiv, 1) := by decide +kernel
theorem dX6_fall_191 : decode cX6_fall 191 = .ok (.goto 9, 3) := by decide +kernel
theorem dX6_fall_194 : decode cX6_fall 194 = .ok (.aload_n 0, 1) := by decide +kernel
theorem dX6_fall_195 : decode cX6_fall 195 = .ok (.getfield 37, 3) := by decide +kernel
theorem dX6_fall_198 : decode cX6_fall 198 = .ok (.iload_n 1, 1) := by decide +kernel
theorem dX6_fall_199 : decode cX6_fall 199 = .ok (.laload, 1) := by decide +kernel
theorem dX6_fall_200 : decode cX6_fall 200 = .ok (.ladd, 1) := by decide +kernel
theorem dX6_fall_201 : decode cX6_fall 201 = .ok (.lastore, 1) := by decide +kernel
theorem dX6_fall_202 : decode cX6_fall 202 = .ok (.iinc 1 1, 3) := by decide +kernel
theorem dX6_fall_205 : decode cX6_fall 205 = .ok (.goto (-74), 3) := by decide +kernel
theorem dX6_fall_208 : decode cX6_fall 208 = .ok (.return_, 1) := by decide +kernel
theorem dX6_blow_0 : decode cX6_blow 0 = .ok (.aload_n 0, 1) := by decide +kernel
theorem dX6_blow_1 : decode cX6_blow 1 = .ok (.invokevirtual 80, 3) := by decide +kernel
theorem dX6_blow_4 : decode cX6_blow 4 = .ok (.iconst 0, 1) := by decide +kernel
theorem dX6_blow_5 : decode cX6_blow 5 = .ok (.istore_n 1, 1) := by decide +kernel
theorem dX6_blow_6 : decode cX6_blow 6 = .ok (.iload_n 1, 1) := by decide +kernel
theorem dX6_blow_7 : decode cX6_blow 7 = .ok (.sipush 600, 3) := by decide +kernel
theorem dX6_blow_10 : decode cX6_blow 10 = .ok (.if_icmp .ge 88, 3) := by decide +kernel
theorem dX6_blow_13 : decode cX6_blow 13 = .ok (.aload_n 0, 1) := by decide +kernel
theorem dX6_blow_14 : decode cX6_blow 14 = .ok (.getfield 76, 3) := by decide +kernel
theorem dX6_blow_17 : decode cX6_blow 17 = .ok (.ifCond .eq 10, 3) := by decide +kernel
theorem dX6_blow_20 : decode cX6_blow 20 = .ok (.iload_n 1, 1) := by decide +kernel
theorem dX6_blow_21 : decode cX6_blow 21 = .ok (.bipush 30, 2) := by decide +kernel
theorem dX6_blow_23 : decode cX6_blow 23 = .ok (.iadd, 1) := by decide +kernel
theorem dX6_blow_24 : decode cX6_blow 24 = .ok (.goto 7, 3) := by decide +kernel
theorem dX6_blow_27 : decode cX6_blow 27 = .ok (.iload_n 1, 1) := by decide +kernel
theorem dX6_blow_28 : decode cX6_blow 28 = .ok (.bipush 30, 2) := by decide +kernel
theorem dX6_blow_30 : decode cX6_blow 30 = .ok (.isub, 1) := by decide +kernel
theorem dX6_blow_31 : decode cX6_blow 31 = .ok (.istore_n 2, 1) := by decide +kernel
theorem dX6_blow_32 : decode cX6_blow 32 = .ok (.iload_n 1, 1) := by decide +kernel
theorem dX6_blow_33 : decode cX6_blow 33 = .ok (.iconst 3, 1) := by decide +kernel
theorem dX6_blow_34 : decode cX6_blow 34 = .ok (.irem, 1) := by decide +kernel
theorem dX6_blow_35 : decode cX6_blow 35 = .ok (.iconst 1, 1) := by decide +kernel
theorem dX6_blow_36 : decode cX6_blow 36 = .ok (.iadd, 1) := by decide +kernel
theorem dX6_blow_37 : decode cX6_blow 37 = .ok (.istore_n 3, 1) := by decide +kernel
theorem dX6_blow_38 : decode cX6_blow 38 = .ok (.iload_n 2, 1) := by decide +kernel
theorem dX6_blow_39 : decode cX6_blow 39 = .ok (.iconst 0, 1) := by decide +kernel
theorem dX6_blow_40 : decode cX6_blow 40 = .ok (.sipush 599, 3) := by decide +kernel
theorem dX6_blow_43 : decode cX6_blow 43 = .ok (.invokestatic 52, 3) := by decide +kernel
theorem dX6_blow_46 : decode cX6_blow 46 = .ok (.ifCond .eq 21, 3) := by decide +kernel
theorem dX6_blow_49 : decode cX6_blow 49 = .ok (.aload_n 0, 1) := by decide +kernel
theorem dX6_blow_50 : decode cX6_blow 50 = .ok (.getfield 17, 3) := by decide +kernel
theorem dX6_blow_53 : decode cX6_blow 53 = .ok (.iload_n 2, 1) := by decide +kernel
theorem dX6_blow_54 : decode cX6_blow 54 = .ok (.dup2, 1) := by decide +kernel
theorem dX6_blow_55 : decode cX6_blow 55 = .ok (.iaload, 1) := by decide +kernel
theorem dX6_blow_56 : decode cX6_blow 56 = .ok (.aload_n 0, 1) := by decide +kernel
theorem dX6_blow_57 : decode cX6_blow 57 = .ok (.getfield 13, 3) := by decide +kernel
theorem dX6_blow_60 : decode cX6_blow 60 = .ok (.iload_n 1, 1) := by decide +kernel
theorem dX6_blow_61 : decode cX6_blow 61 = .ok (.iaload, 1) := by decide +kernel
theorem dX6_blow_62 : decode cX6_blow 62 = .ok (.iadd, 1) := by decide +kernel
theorem dX6_blow_63 : decode cX6_blow 63 = .ok (.iastore, 1) := by decide +kernel
theorem dX6_blow_64 : decode cX6_blow 64 = .ok (.goto 28, 3) := by decide +kernel
theorem dX6_blow_67 : decode cX6_blow 67 = .ok (.aload_n 0, 1) := by decide +kernel
theorem dX6_blow_68 : decode cX6_blow 68 = .ok (.dup, 1) := by decide +kernel
theorem dX6_blow_69 : decode cX6_blow 69 = .ok (.getfield 92, 3) := by decide +kernel
theorem dX6_blow_72 : decode cX6_blow 72 = .ok (.aload_n 0, 1) := by decide +kernel
theorem dX6_blow_73 : decode cX6_blow 73 = .ok (.getfield 13, 3) := by decide +kernel
theorem dX6_blow_76 : decode cX6_blow 76 = .ok (.iload_n 1, 1) := by decide +kernel
theorem dX6_blow_77 : decode cX6_blow 77 = .ok (.iaload, 1) := by decide +kernel
theorem dX6_blow_78 : decode cX6_blow 78 = .ok (.i2l, 1) := by decide +kernel
theorem dX6_blow_79 : decode cX6_blow 79 = .ok (.iload_n 3, 1) := by decide +kernel
theorem dX6_blow_80 : decode cX6_blow 80 = .ok (.i2l, 1) := by decide +kernel
theorem dX6_blow_81 : decode cX6_blow 81 = .ok (.lmul, 1) := by decide +kernel
theorem dX6_blow_82 : decode cX6_blow 82 = .ok (.iload_n 3, 1) := by decide +kernel
theorem dX6_blow_83 : decode cX6_blow 83 = .ok (.i2l, 1) := by decide +kernel
theorem dX6_blow_84 : decode cX6_blow 84 = .ok (.lmul, 1) := by decide +kernel
theorem dX6_blow_85 : decode cX6_blow 85 = .ok (.iload_n 3, 1) := by decide +kernel
theorem dX6_blow_86 : decode cX6_blow 86 = .ok (.i2l, 1) := by decide +kernel
theorem dX6_blow_87 : decode cX6_blow 87 = .ok (.lmul, 1) := by decide +kernel
theorem dX6_blow_88 : decode cX6_blow 88 = .ok (.ladd, 1) := by decide +kernel
theorem dX6_blow_89 : decode cX6_blow 89 = .ok (.putfield 92, 3) := by decide +kernel
theorem dX6_blow_92 : decode cX6_blow 92 = .ok (.iinc 1 1, 3) := by decide +kernel
theorem dX6_blow_95 : decode cX6_blow 95 = .ok (.goto (-89), 3) := by decide +kernel
theorem dX6_blow_98 : decode cX6_blow 98 = .ok (.aload_n 0, 1) := by decide +kernel
theorem dX6_blow_99 : decode cX6_blow 99 = .ok (.invokevirtual 87, 3) := by decide +kernel
theorem dX6_blow_102 : decode cX6_blow 102 = .ok (.return_, 1) := by decide +kernel
theorem dX6_pass_0 : decode cX6_pass 0 = .ok (.iload_n 1, 1) := by decide +kernel
theorem dX6_pass_1 : decode cX6_pass 1 = .ok (.iconst 1, 1) := by decide +kernel
theorem dX6_pass_2 : decode cX6_pass 2 = .ok (.bipush 60, 2) := by decide +kernel
theorem dX6_pass_4 : decode cX6_pass 4 = .ok (.invokestatic 52, 3) := by decide +kernel
theorem dX6_pass_7 : decode cX6_pass 7 = .ok (.istore_n 2, 1) := by decide +kernel
theorem dX6_pass_8 : decode cX6_pass 8 = .ok (.aload_n 0, 1) := by decide +kernel
theorem dX6_pass_9 : decode cX6_pass 9 = .ok (.iload_n 2, 1) := by decide +kernel
theorem dX6_pass_10 : decode cX6_pass 10 = .ok (.ifCond .ne 7, 3) := by decide +kernel
theorem dX6_pass_13 : decode cX6_pass 13 = .ok (.iconst 1, 1) := by decide +kernel
theorem dX6_pass_14 : decode cX6_pass 14 = .ok (.goto 20, 3) := by decide +kernel
theorem dX6_pass_17 : decode cX6_pass 17 = .ok (.aload_n 0, 1) := by decide +kernel
theorem dX6_pass_18 : decode cX6_pass 18 = .ok (.getfield 95, 3) := by decide +kernel
theorem dX6_pass_21 : decode cX6_pass 21 = .ok (.iload_n 1, 1) := by decide +kernel
theorem dX6_pass_22 : decode cX6_pass 22 = .ok (.iadd, 1) := by decide +kernel
theorem dX6_pass_23 : decode cX6_pass 23 = .ok (.sipush 600, 3) := by decide +kernel
theorem dX6_pass_26 : decode cX6_pass 26 = .ok (.if_icmp .le 7, 3) := by decide +kernel
theorem dX6_pass_29 : decode cX6_pass 29 = .ok (.iconst 2, 1) := by decide +kernel
theorem dX6_pass_30 : decode cX6_pass 30 = .ok (.goto 4, 3) := by decide +kernel
theorem dX6_pass_33 : decode cX6_pass 33 = .ok (.iconst 0, 1) := by decide +kernel
theorem dX6_pass_34 : decode cX6_pass 34 = .ok (.invokevirtual 66, 3) := by decide +kernel
theorem dX6_pass_37 : decode cX6_pass 37 = .ok (.ifCond .ne 5, 3) := by decide +kernel
theorem dX6_pass_40 : decode cX6_pass 40 = .ok (.iconst 0, 1) := by decide +kernel
theorem dX6_pass_41 : decode cX6_pass 41 = .ok (.ireturn, 1) := by decide +kernel
theorem dX6_pass_42 : decode cX6_pass 42 = .ok (.iconst 0, 1) := by decide +kernel
theorem dX6_pass_43 : decode cX6_pass 43 = .ok (.istore_n 3, 1) := by decide +kernel
theorem dX6_pass_44 : decode cX6_pass 44 = .ok (.iload_n 3, 1) := by decide +kernel
theorem dX6_pass_45 : decode cX6_pass 45 = .ok (.iload_n 1, 1) := by decide +kernel
theorem dX6_pass_46 : decode cX6_pass 46 = .ok (.if_icmp .ge 46, 3) := by decide +kernel
theorem dX6_pass_49 : decode cX6_pass 49 = .ok (.aload_n 0, 1) := by decide +kernel
theorem dX6_pass_50 : decode cX6_pass 50 = .ok (.invokevirtual 98, 3) := by decide +kernel
theorem dX6_pass_53 : decode cX6_pass 53 = .ok (.aload_n 0, 1) := by decide +kernel
theorem dX6_pass_54 : decode cX6_pass 54 = .ok (.dup, 1) := by decide +kernel
theorem dX6_pass_55 : decode cX6_pass 55 = .ok (.getfield 95, 3) := by decide +kernel
theorem dX6_pass_58 : decode cX6_pass 58 = .ok (.iconst 1, 1) := by decide +kernel
theorem dX6_pass_59 : decode cX6_pass 59 = .ok (.iadd, 1) := by decide +kernel
theorem dX6_pass_60 : decode cX6_pass 60 = .ok (.putfield 95, 3) := by decide +kernel
theorem dX6_pass_63 : decode cX6_pass 63 = .ok (.aload_n 0, 1) := by decide +kernel
theorem dX6_pass_64 : decode cX6_pass 64 = .ok (.getfield 73, 3) := by decide +kernel
theorem dX6_pass_67 : decode cX6_pass 67 = .ok (.ifCond .le 19, 3) := by decide +kernel
theorem dX6_pass_70 : decode cX6_pass 70 = .ok (.aload_n 0, 1) := by decide +kernel
theorem dX6_pass_71 : decode cX6_pass 71 = .ok (.getfield 95, 3) := by decide +kernel
theorem dX6_pass_74 : decode cX6_pass 74 = .ok (.aload_n 0, 1) := by decide +kernel
theorem dX6_pass_75 : decode cX6_pass 75 = .ok (.getfield 73, 3) := by decide +kernel
theorem dX6_pass_78 : decode cX6_pass 78 = .ok (.irem, 1) := by decide +kernel
theorem dX6_pass_79 : decode cX6_pass 79 = .ok (.ifCond .ne 7, 3) := by decide +kernel
theorem dX6_pass_82 : decode cX6_pass 82 = .ok (.aload_n 0, 1) := by decide +kernel
theorem dX6_pass_83 : decode cX6_pass 83 = .ok (.invokevirtual 101, 3) := by decide +kernel
theorem dX6_pass_86 : decode cX6_pass 86 = .ok (.iinc 3 1, 3) := by decide +kernel
theorem dX6_pass_89 : decode cX6_pass 89 = .ok (.goto (-45), 3) := by decide +kernel
theorem dX6_pass_92 : decode cX6_pass 92 = .ok (.aload_n 0, 1) := by decide +kernel
theorem dX6_pass_93 : decode cX6_pass 93 = .ok (.getfield 95, 3) := by decide +kernel
theorem dX6_pass_96 : decode cX6_pass 96 = .ok (.ireturn, 1) := by decide +kernel
theorem dX6_beam_0 : decode cX6_beam 0 = .ok (.iload_n 1, 1) := by decide +kernel
theorem dX6_beam_1 : decode cX6_beam 1 = .ok (.iload_n 0, 1) := by decide +kernel
theorem dX6_beam_2 : decode cX6_beam 2 = .ok (.imul, 1) := by decide +kernel
theorem dX6_beam_3 : decode cX6_beam 3 = .ok (.iconst 4, 1) := by decide +kernel
theorem dX6_beam_4 : decode cX6_beam 4 = .ok (.idiv, 1) := by decide +kernel
theorem dX6_beam_5 : decode cX6_beam 5 = .ok (.iload_n 0, 1) := by decide +kernel
theorem dX6_beam_6 : decode cX6_beam 6 = .ok (.iload_n 0, 1) := by decide +kernel
theorem dX6_beam_7 : decode cX6_beam 7 = .ok (.imul, 1) := by decide +kernel
theorem dX6_beam_8 : decode cX6_beam 8 = .ok (.bipush 100, 2) := by decide +kernel
theorem dX6_beam_10 : decode cX6_beam 10 = .ok (.idiv, 1) := by decide +kernel
theorem dX6_beam_11 : decode cX6_beam 11 = .ok (.iadd, 1) := by decide +kernel
theorem dX6_beam_12 : decode cX6_beam 12 = .ok (.ireturn, 1) := by decide +kernel
theorem dX6_isBlocked_0 : decode cX6_isBlocked 0 = .ok (.iconst 0, 1) := by decide +kernel
theorem dX6_isBlocked_1 : decode cX6_isBlocked 1 = .ok (.istore_n 3, 1) := by decide +kernel
theorem dX6_isBlocked_2 : decode cX6_isBlocked 2 = .ok (.iconst 0, 1) := by decide +kernel
theorem dX6_isBlocked_3 : decode cX6_isBlocked 3 = .ok (.istore 4, 2) := by decide +kernel
theorem dX6_isBlocked_5 : decode cX6_isBlocked 5 = .ok (.iload 4, 2) := by decide +kernel
theorem dX6_isBlocked_7 : decode cX6_isBlocked 7 = .ok (.iload_n 1, 1) := by decide +kernel
theorem dX6_isBlocked_8 : decode cX6_isBlocked 8 = .ok (.if_icmp .gt 35, 3) := by decide +kernel
theorem dX6_isBlocked_11 : decode cX6_isBlocked 11 = .ok (.iload_n 3, 1) := by decide +kernel
theorem dX6_isBlocked_12 : decode cX6_isBlocked 12 = .ok (.ifCond .ne 19, 3) := by decide +kernel
theorem dX6_isBlocked_15 : decode cX6_isBlocked 15 = .ok (.aload_n 0, 1) := by decide +kernel
theorem dX6_isBlocked_16 : decode cX6_isBlocked 16 = .ok (.getfield 20, 3) := by decide +kernel
theorem dX6_isBlocked_19 : decode cX6_isBlocked 19 = .ok (.iload 4, 2) := by decide +kernel
theorem dX6_isBlocked_21 : decode cX6_isBlocked 21 = .ok (.iaload, 1) := by decide +kernel
theorem dX6_isBlocked_22 : decode cX6_isBlocked 22 = .ok (.iload 4, 2) := by decide +kernel
theorem dX6_isBlocked_24 : decode cX6_isBlocked 24 = .ok (.iload_n 2, 1) := by decide +kernel
theorem dX6_isBlocked_25 : decode cX6_isBlocked 25 = .ok (.invokestatic 104, 3) := by decide +kernel
theorem dX6_isBlocked_28 : decode cX6_isBlocked 28 = .ok (.if_icmp .le 7, 3) := by decide +kernel
theorem dX6_isBlocked_31 : decode cX6_isBlocked 31 = .ok (.iconst 1, 1) := by decide +kernel
theorem dX6_isBlocked_32 : decode cX6_isBlocked 32 = .ok (.goto 4, 3) := by decide +kernel
theorem dX6_isBlocked_35 : decode cX6_isBlocked 35 = .ok (.iconst 0, 1) := by decide +kernel
theorem dX6_isBlocked_36 : decode cX6_isBlocked 36 = .ok (.istore_n 3, 1) := by decide +kernel
theorem dX6_isBlocked_37 : decode cX6_isBlocked 37 = .ok (.iinc 4 1, 3) := by decide +kernel
theorem dX6_isBlocked_40 : decode cX6_isBlocked 40 = .ok (.goto (-35), 3) := by decide +kernel
theorem dX6_isBlocked_43 : decode cX6_isBlocked 43 = .ok (.iload_n 3, 1) := by decide +kernel
theorem dX6_isBlocked_44 : decode cX6_isBlocked 44 = .ok (.ireturn, 1) := by decide +kernel
theorem dX6_echoOf_0 : decode cX6_echoOf 0 = .ok (.iload_n 1, 1) := by decide +kernel
theorem dX6_echoOf_1 : decode cX6_echoOf 1 = .ok (.iload_n 2, 1) := by decide +kernel
theorem dX6_echoOf_2 : decode cX6_echoOf 2 = .ok (.invokestatic 104, 3) := by decide +kernel
theorem dX6_echoOf_5 : decode cX6_echoOf 5 = .ok (.istore_n 3, 1) := by decide +kernel
theorem dX6_echoOf_6 : decode cX6_echoOf 6 = .ok (.iload_n 3, 1) := by decide +kernel
theorem dX6_echoOf_7 : decode cX6_echoOf 7 = .ok (.bipush 10, 2) := by decide +kernel
theorem dX6_echoOf_9 : decode cX6_echoOf 9 = .ok (.if_icmp .lt 5, 3) := by decide +kernel
theorem dX6_echoOf_12 : decode cX6_echoOf 12 = .ok (.lconst 0, 1) := by decide +kernel
theorem dX6_echoOf_13 : decode cX6_echoOf 13 = .ok (.lreturn, 1) := by decide +kernel
theorem dX6_echoOf_14 : decode cX6_echoOf 14 = .ok (.bipush 30, 2) := by decide +kernel
theorem dX6_echoOf_16 : decode cX6_echoOf 16 = .ok (.iload_n 1, 1) := by decide +kernel
theorem dX6_echoOf_17 : decode cX6_echoOf 17 = .ok (.imul, 1) := by decide +kernel
theorem dX6_echoOf_18 : decode cX6_echoOf 18 = .ok (.iconst 3, 1) := by decide +kernel
theorem dX6_echoOf_19 : decode cX6_echoOf 19 = .ok (.iload_n 3, 1) := by decide +kernel
theorem dX6_echoOf_20 : decode cX6_echoOf 20 = .ok (.imul, 1) := by decide +kernel
theorem dX6_echoOf_21 : decode cX6_echoOf 21 = .ok (.iadd, 1) := by decide +kernel
theorem dX6_echoOf_22 : decode cX6_echoOf 22 = .ok (.istore 4, 2) := by decide +kernel
theorem dX6_echoOf_24 : decode cX6_echoOf 24 = .ok (.aload_n 0, 1) := by decide +kernel
theorem dX6_echoOf_25 : decode cX6_echoOf 25 = .ok (.getfield 13, 3) := by decide +kernel
theorem dX6_echoOf_28 : decode cX6_echoOf 28 = .ok (.iload 4, 2) := by decide +kernel
theorem dX6_echoOf_30 : decode cX6_echoOf 30 = .ok (.iaload, 1) := by decide +kernel
theorem dX6_echoOf_31 : decode cX6_echoOf 31 = .ok (.i2l, 1) := by decide +kernel
theorem dX6_echoOf_32 : decode cX6_echoOf 32 = .ok (.ldc2_w 108, 3) := by decide +kernel
theorem dX6_echoOf_35 : decode cX6_echoOf 35 = .ok (.aload_n 0, 1) := by decide +kernel
theorem dX6_echoOf_36 : decode cX6_echoOf 36 = .ok (.getfield 13, 3) := by decide +kernel
theorem dX6_echoOf_39 : decode cX6_echoOf 39 = .ok (.iload 4, 2) := by decide +kernel
theorem dX6_echoOf_41 : decode cX6_echoOf 41 = .ok (.iconst 1, 1) := by decide +kernel
theorem dX6_echoOf_42 : decode cX6_echoOf 42 = .ok (.iadd, 1) := by decide +kernel
theorem dX6_echoOf_43 : decode cX6_echoOf 43 = .ok (.iaload, 1) := by decide +kernel
theorem dX6_echoOf_44 : decode cX6_echoOf 44 = .ok (.i2l, 1) := by decide +kernel
theorem dX6_echoOf_45 : decode cX6_echoOf 45 = .ok (.lmul, 1) := by decide +kernel
theorem dX6_echoOf_46 : decode cX6_echoOf 46 = .ok (.ladd, 1) := by decide +kernel
theorem dX6_echoOf_47 : decode cX6_echoOf 47 = .ok (.ldc2_w 110, 3) := by decide +kernel
theorem dX6_echoOf_50 : decode cX6_echoOf 50 = .ok (.aload_n 0, 1) := by decide +kernel
theorem dX6_echoOf_51 : decode cX6_echoOf 51 = .ok (.getfield 13, 3) := by decide +kernel
theorem dX6_echoOf_54 : decode cX6_echoOf 54 = .ok (.iload 4, 2) := by decide +kernel
theorem dX6_echoOf_56 : decode cX6_echoOf 56 = .ok (.iconst 2, 1) := by decide +kernel
theorem dX6_echoOf_57 : decode cX6_echoOf 57 = .ok (.iadd, 1) := by decide +kernel
theorem dX6_echoOf_58 : decode cX6_echoOf 58 = .ok (.iaload, 1) := by decide +kernel
theorem dX6_echoOf_59 : decode cX6_echoOf 59 = .ok (.i2l, 1) := by decide +kernel
theorem dX6_echoOf_60 : decode cX6_echoOf 60 = .ok (.lmul, 1) := by decide +kernel
theorem dX6_echoOf_61 : decode cX6_echoOf 61 = .ok (.ladd, 1) := by decide +kernel
theorem dX6_echoOf_62 : decode cX6_echoOf 62 = .ok (.lstore 5, 2) := by decide +kernel
theorem dX6_echoOf_64 : decode cX6_echoOf 64 = .ok (.aload_n 0, 1) := by decide +kernel
theorem dX6_echoOf_65 : decode cX6_echoOf 65 = .ok (.iload_n 3, 1) := by decide +kernel
theorem dX6_echoOf_66 : decode cX6_echoOf 66 = .ok (.invokevirtual 83, 3) := by decide +kernel
theorem dX6_echoOf_69 : decode cX6_echoOf 69 = .ok (.istore 7, 2) := by decide +kernel
theorem dX6_echoOf_71 : decode cX6_echoOf 71 = .ok (.iload 7, 2) := by decide +kernel
theorem dX6_echoOf_73 : decode cX6_echoOf 73 = .ok (.ifCond .ne 12, 3) := by decide +kernel
theorem dX6_echoOf_76 : decode cX6_echoOf 76 = .ok (.lload 5, 2) := by decide +kernel
theorem dX6_echoOf_78 : decode cX6_echoOf 78 = .ok (.ldc2_w 112, 3) := by decide +kernel
theorem dX6_echoOf_81 : decode cX6_echoOf 81 = .ok (.ldiv, 1) := by decide +kernel
theorem dX6_echoOf_82 : decode cX6_echoOf 82 = .ok (.goto 20, 3) := by decide +kernel
theorem dX6_echoOf_85 : decode cX6_echoOf 85 = .ok (.iload 7, 2) := by decide +kernel
theorem dX6_echoOf_87 : decode cX6_echoOf 87 = .ok (.iconst 1, 1) := by decide +kernel
theorem dX6_echoOf_88 : decode cX6_echoOf 88 = .ok (.if_icmp .ne 12, 3) := by decide +kernel
theorem dX6_echoOf_91 : decode cX6_echoOf 91 = .ok (.ldc2_w 114, 3) := by decide +kernel
theorem dX6_echoOf_94 : decode cX6_echoOf 94 = .ok (.lload 5, 2) := by decide +kernel
theorem dX6_echoOf_96 : decode cX6_echoOf 96 = .ok (.lmul, 1) := by decide +kernel
theorem dX6_echoOf_97 : decode cX6_echoOf 97 = .ok (.goto 5, 3) := by decide +kernel
theorem dX6_echoOf_100 : decode cX6_echoOf 100 = .ok (.lload 5, 2) := by decide +kernel
theorem dX6_echoOf_102 : decode cX6_echoOf 102 = .ok (.lreturn, 1) := by decide +kernel
theorem dX6_bits_0 : decode cX6_bits 0 = .ok (.dload_n 0, 1) := by decide +kernel
theorem dX6_bits_1 : decode cX6_bits 1 = .ok (.dconst 0, 1) := by decide +kernel
theorem dX6_bits_2 : decode cX6_bits 2 = .ok (.dcmp .l, 1) := by decide +kernel
theorem dX6_bits_3 : decode cX6_bits 3 = .ok (.ifCond .ne 5, 3) := by decide +kernel
theorem dX6_bits_6 : decode cX6_bits 6 = .ok (.lconst 0, 1) := by decide +kernel
theorem dX6_bits_7 : decode cX6_bits 7 = .ok (.lreturn, 1) := by decide +kernel
theorem dX6_bits_8 : decode cX6_bits 8 = .ok (.dload_n 0, 1) := by decide +kernel
theorem dX6_bits_9 : decode cX6_bits 9 = .ok (.dstore_n 2, 1) := by decide +kernel
theorem dX6_bits_10 : decode cX6_bits 10 = .ok (.ldc2_w 116, 3) := by decide +kernel
theorem dX6_bits_13 : decode cX6_bits 13 = .ok (.lstore 4, 2) := by decide +kernel
theorem dX6_bits_15 : decode cX6_bits 15 = .ok (.dload_n 2, 1) := by decide +kernel
theorem dX6_bits_16 : decode cX6_bits 16 = .ok (.ldc2_w 118, 3) := by decide +kernel
theorem dX6_bits_19 : decode cX6_bits 19 = .ok (.dcmp .g, 1) := by decide +kernel
theorem dX6_bits_20 : decode cX6_bits 20 = .ok (.ifCond .ge 18, 3) := by decide +kernel
theorem dX6_bits_23 : decode cX6_bits 23 = .ok (.dload_n 2, 1) := by decide +kernel
theorem dX6_bits_24 : decode cX6_bits 24 = .ok (.ldc2_w 120, 3) := by decide +kernel
theorem dX6_bits_27 : decode cX6_bits 27 = .ok (.dmul, 1) := by decide +kernel
theorem dX6_bits_28 : decode cX6_bits 28 = .ok (.dstore_n 2, 1) := by decide +kernel
theorem dX6_bits_29 : decode cX6_bits 29 = .ok (.lload 4, 2) := by decide +kernel
theorem dX6_bits_31 : decode cX6_bits 31 = .ok (.lconst 1, 1) := by decide +kernel
theorem dX6_bits_32 : decode cX6_bits 32 = .ok (.lsub, 1) := by decide +kernel
theorem dX6_bits_33 : decode cX6_bits 33 = .ok (.lstore 4, 2) := by decide +kernel
theorem dX6_bits_35 : decode cX6_bits 35 = .ok (.goto (-20), 3) := by decide +kernel
theorem dX6_bits_38 : decode cX6_bits 38 = .ok (.dload_n 2, 1) := by decide +kernel
theorem dX6_bits_39 : decode cX6_bits 39 = .ok (.ldc2_w 122, 3) := by decide +kernel
theorem dX6_bits_42 : decode cX6_bits 42 = .ok (.dcmp .l, 1) := by decide +kernel
theorem dX6_bits_43 : decode cX6_bits 43 = .ok (.ifCond .lt 18, 3) := by decide +kernel
theorem dX6_bits_46 : decode cX6_bits 46 = .ok (.dload_n 2, 1) := by decide +kernel
theorem dX6_bits_47 : decode cX6_bits 47 = .ok (.ldc2_w 120, 3) := by decide +kernel
theorem dX6_bits_50 : decode cX6_bits 50 = .ok (.ddiv, 1) := by decide +kernel
theorem dX6_bits_51 : decode cX6_bits 51 = .ok (.dstore_n 2, 1) := by decide +kernel
theorem dX6_bits_52 : decode cX6_bits 52 = .ok (.lload 4, 2) := by decide +kernel
theorem dX6_bits_54 : decode cX6_bits 54 = .ok (.lconst 1, 1) := by decide +kernel
theorem dX6_bits_55 : decode cX6_bits 55 = .ok (.ladd, 1) := by decide +kernel
theorem dX6_bits_56 : decode cX6_bits 56 = .ok (.lstore 4, 2) := by decide +kernel
theorem dX6_bits_58 : decode cX6_bits 58 = .ok (.goto (-20), 3) := by decide +kernel
theorem dX6_bits_61 : decode cX6_bits 61 = .ok (.lload 4, 2) := by decide +kernel
theorem dX6_bits_63 : decode cX6_bits 63 = .ok (.bipush 52, 2) := by decide +kernel
theorem dX6_bits_65 : decode cX6_bits 65 = .ok (.lshl, 1) := by decide +kernel
theorem dX6_bits_66 : decode cX6_bits 66 = .ok (.dload_n 2, 1) := by decide +kernel
theorem dX6_bits_67 : decode cX6_bits 67 = .ok (.d2l, 1) := by decide +kernel
theorem dX6_bits_68 : decode cX6_bits 68 = .ok (.ldc2_w 124, 3) := by decide +kernel
theorem dX6_bits_71 : decode cX6_bits 71 = .ok (.lsub, 1) := by decide +kernel
theorem dX6_bits_72 : decode cX6_bits 72 = .ok (.ladd, 1) := by decide +kernel
theorem dX6_bits_73 : decode cX6_bits 73 = .ok (.lreturn, 1) := by decide +kernel
theorem dX6_echo_0 : decode cX6_echo 0 = .ok (.iload_n 1, 1) := by decide +kernel
theorem dX6_echo_1 : decode cX6_echo 1 = .ok (.invokestatic 56, 3) := by decide +kernel
theorem dX6_echo_4 : decode cX6_echo 4 = .ok (.istore_n 3, 1) := by decide +kernel
theorem dX6_echo_5 : decode cX6_echo 5 = .ok (.aload_n 0, 1) := by decide +kernel
theorem dX6_echo_6 : decode cX6_echo 6 = .ok (.iload_n 3, 1) := by decide +kernel
theorem dX6_echo_7 : decode cX6_echo 7 = .ok (.ifCond .ne 7, 3) := by decide +kernel
theorem dX6_echo_10 : decode cX6_echo 10 = .ok (.iconst 1, 1) := by decide +kernel
theorem dX6_echo_11 : decode cX6_echo 11 = .ok (.goto 15, 3) := by decide +kernel
theorem dX6_echo_14 : decode cX6_echo 14 = .ok (.iload_n 2, 1) := by decide +kernel
theorem dX6_echo_15 : decode cX6_echo 15 = .ok (.invokestatic 126, 3) := by decide +kernel
theorem dX6_echo_18 : decode cX6_echo 18 = .ok (.ifCond .eq 7, 3) := by decide +kernel
theorem dX6_echo_21 : decode cX6_echo 21 = .ok (.iconst 0, 1) := by decide +kernel
theorem dX6_echo_22 : decode cX6_echo 22 = .ok (.goto 4, 3) := by decide +kernel
theorem dX6_echo_25 : decode cX6_echo 25 = .ok (.iconst 2, 1) := by decide +kernel
theorem dX6_echo_26 : decode cX6_echo 26 = .ok (.invokevirtual 66, 3) := by decide +kernel
theorem dX6_echo_29 : decode cX6_echo 29 = .ok (.ifCond .ne 5, 3) := by decide +kernel
theorem dX6_echo_32 : decode cX6_echo 32 = .ok (.lconst 0, 1) := by decide +kernel
theorem dX6_echo_33 : decode cX6_echo 33 = .ok (.lreturn, 1) := by decide +kernel
theorem dX6_echo_34 : decode cX6_echo 34 = .ok (.aload_n 0, 1) := by decide +kernel
theorem dX6_echo_35 : decode cX6_echo 35 = .ok (.iload_n 1, 1) := by decide +kernel
theorem dX6_echo_36 : decode cX6_echo 36 = .ok (.iload_n 2, 1) := by decide +kernel
theorem dX6_echo_37 : decode cX6_echo 37 = .ok (.invokevirtual 129, 3) := by decide +kernel
theorem dX6_echo_40 : decode cX6_echo 40 = .ok (.ifCond .eq 9, 3) := by decide +kernel
theorem dX6_echo_43 : decode cX6_echo 43 = .ok (.ldc2_w 133, 3) := by decide +kernel
theorem dX6_echo_46 : decode cX6_echo 46 = .ok (.goto 9, 3) := by decide +kernel
theorem dX6_echo_49 : decode cX6_echo 49 = .ok (.aload_n 0, 1) := by decide +kernel
theorem dX6_echo_50 : decode cX6_echo 50 = .ok (.iload_n 1, 1) := by decide +kernel
theorem dX6_echo_51 : decode cX6_echo 51 = .ok (.iload_n 2, 1) := by decide +kernel
theorem dX6_echo_52 : decode cX6_echo 52 = .ok (.invokevirtual 135, 3) := by decide +kernel
theorem dX6_echo_55 : decode cX6_echo 55 = .ok (.lreturn, 1) := by decide +kernel
theorem dX6_seen_0 : decode cX6_seen 0 = .ok (.iload_n 1, 1) := by decide +kernel
theorem dX6_seen_1 : decode cX6_seen 1 = .ok (.invokestatic 56, 3) := by decide +kernel
theorem dX6_seen_4 : decode cX6_seen 4 = .ok (.istore_n 3, 1) := by decide +kernel
theorem dX6_seen_5 : decode cX6_seen 5 = .ok (.aload_n 0, 1) := by decide +kernel
theorem dX6_seen_6 : decode cX6_seen 6 = .ok (.iload_n 3, 1) := by decide +kernel
theorem dX6_seen_7 : decode cX6_seen 7 = .ok (.ifCond .ne 7, 3) := by decide +kernel
theorem dX6_seen_10 : decode cX6_seen 10 = .ok (.iconst 1, 1) := by decide +kernel
theorem dX6_seen_11 : decode cX6_seen 11 = .ok (.goto 15, 3) := by decide +kernel
theorem dX6_seen_14 : decode cX6_seen 14 = .ok (.iload_n 2, 1) := by decide +kernel
theorem dX6_seen_15 : decode cX6_seen 15 = .ok (.invokestatic 126, 3) := by decide +kernel
theorem dX6_seen_18 : decode cX6_seen 18 = .ok (.ifCond .eq 7, 3) := by decide +kernel
theorem dX6_seen_21 : decode cX6_seen 21 = .ok (.iconst 0, 1) := by decide +kernel
theorem dX6_seen_22 : decode cX6_seen 22 = .ok (.goto 4, 3) := by decide +kernel
theorem dX6_seen_25 : decode cX6_seen 25 = .ok (.iconst 2, 1) := by decide +kernel
theorem dX6_seen_26 : decode cX6_seen 26 = .ok (.invokevirtual 66, 3) := by decide +kernel
theorem dX6_seen_29 : decode cX6_seen 29 = .ok (.ifCond .ne 5, 3) := by decide +kernel
theorem dX6_seen_32 : decode cX6_seen 32 = .ok (.lconst 0, 1) := by decide +kernel
theorem dX6_seen_33 : decode cX6_seen 33 = .ok (.lreturn, 1) := by decide +kernel
theorem dX6_seen_34 : decode cX6_seen 34 = .ok (.aload_n 0, 1) := by decide +kernel
theorem dX6_seen_35 : decode cX6_seen 35 = .ok (.iload_n 1, 1) := by decide +kernel
theorem dX6_seen_36 : decode cX6_seen 36 = .ok (.iload_n 2, 1) := by decide +kernel
theorem dX6_seen_37 : decode cX6_seen 37 = .ok (.invokevirtual 129, 3) := by decide +kernel
theorem dX6_seen_40 : decode cX6_seen 40 = .ok (.ifCond .eq 7, 3) := by decide +kernel
theorem dX6_seen_43 : decode cX6_seen 43 = .ok (.ldc2_w 133, 3) := by decide +kernel
theorem dX6_seen_46 : decode cX6_seen 46 = .ok (.lreturn, 1) := by decide +kernel
theorem dX6_seen_47 : decode cX6_seen 47 = .ok (.aload_n 0, 1) := by decide +kernel
theorem dX6_seen_48 : decode cX6_seen 48 = .ok (.iload_n 1, 1) := by decide +kernel
theorem dX6_seen_49 : decode cX6_seen 49 = .ok (.iload_n 2, 1) := by decide +kernel
theorem dX6_seen_50 : decode cX6_seen 50 = .ok (.invokevirtual 135, 3) := by decide +kernel
theorem dX6_seen_53 : decode cX6_seen 53 = .ok (.l2d, 1) := by decide +kernel
theorem dX6_seen_54 : decode cX6_seen 54 = .ok (.dstore 4, 2) := by decide +kernel
theorem dX6_seen_56 : decode cX6_seen 56 = .ok (.iconst 0, 1) := by decide +kernel
theorem dX6_seen_57 : decode cX6_seen 57 = .ok (.istore 6, 2) := by decide +kernel
theorem dX6_seen_59 : decode cX6_seen 59 = .ok (.iload 6, 2) := by decide +kernel
theorem dX6_seen_61 : decode cX6_seen 61 = .ok (.iload_n 1, 1) := by decide +kernel
theorem dX6_seen_62 : decode cX6_seen 62 = .ok (.if_icmp .ge 58, 3) := by decide +kernel
theorem dX6_seen_65 : decode cX6_seen 65 = .ok (.aload_n 0, 1) := by decide +kernel
theorem dX6_seen_66 : decode cX6_seen 66 = .ok (.iload 6, 2) := by decide +kernel
theorem dX6_seen_68 : decode cX6_seen 68 = .ok (.iload_n 2, 1) := by decide +kernel
theorem dX6_seen_69 : decode cX6_seen 69 = .ok (.invokevirtual 135, 3) := by decide +kernel
theorem dX6_seen_72 : decode cX6_seen 72 = .ok (.lstore 7, 2) := by decide +kernel
theorem dX6_seen_74 : decode cX6_seen 74 = .ok (.lload 7, 2) := by decide +kernel
theorem dX6_seen_76 : decode cX6_seen 76 = .ok (.ldc2_w 139, 3) := by decide +kernel
theorem dX6_seen_79 : decode cX6_seen 79 = .ok (.lcmp, 1) := by decide +kernel
theorem dX6_seen_80 : decode cX6_seen 80 = .ok (.ifCond .lt 12, 3) := by decide +kernel
theorem dX6_seen_83 : decode cX6_seen 83 = .ok (.dload 4, 2) := by decide +kernel
theorem dX6_seen_85 : decode cX6_seen 85 = .ok (.ldc2_w 141, 3) := by decide +kernel
theorem dX6_seen_88 : decode cX6_seen 88 = .ok (.dmul, 1) := by decide +kernel
theorem dX6_seen_89 : decode cX6_seen 89 = .ok (.goto 23, 3) := by decide +kernel
theorem dX6_seen_92 : decode cX6_seen 92 = .ok (.lload 7, 2) := by decide +kernel
theorem dX6_seen_94 : decode cX6_seen 94 = .ok (.ldc2_w 143, 3) := by decide +kernel
theorem dX6_seen_97 : decode cX6_seen 97 = .ok (.lcmp, 1) := by decide +kernel
theorem dX6_seen_98 : decode cX6_seen 98 = .ok (.ifCond .lt 12, 3) := by decide +kernel
theorem dX6_seen_101 : decode cX6_seen 101 = .ok (.dload 4, 2) := by decide +kernel
theorem dX6_seen_103 : decode cX6_seen 103 = .ok (.ldc2_w 145, 3) := by decide +kernel
theorem dX6_seen_106 : decode cX6_seen 106 = .ok (.dmul, 1) := by decide +kernel
theorem dX6_seen_107 : decode cX6_seen 107 = .ok (.goto 5, 3) := by decide +kernel
theorem dX6_seen_110 : decode cX6_seen 110 = .ok (.dload 4, 2) := by decide +kernel
theorem dX6_seen_112 : decode cX6_seen 112 = .ok (.dstore 4, 2) := by decide +kernel
theorem dX6_seen_114 : decode cX6_seen 114 = .ok (.iinc 6 1, 3) := by decide +kernel
theorem dX6_seen_117 : decode cX6_seen 117 = .ok (.goto (-58), 3) := by decide +kernel
theorem dX6_seen_120 : decode cX6_seen 120 = .ok (.dload 4, 2) := by decide +kernel
theorem dX6_seen_122 : decode cX6_seen 122 = .ok (.invokestatic 147, 3) := by decide +kernel
theorem dX6_seen_125 : decode cX6_seen 125 = .ok (.lreturn, 1) := by decide +kernel
theorem dX6_scan_0 : decode cX6_scan 0 = .ok (.iload_n 1, 1) := by decide +kernel
theorem dX6_scan_1 : decode cX6_scan 1 = .ok (.invokestatic 126, 3) := by decide +kernel
theorem dX6_scan_4 : decode cX6_scan 4 = .ok (.istore_n 2, 1) := by decide +kernel
theorem dX6_scan_5 : decode cX6_scan 5 = .ok (.aload_n 0, 1) := by decide +kernel
theorem dX6_scan_6 : decode cX6_scan 6 = .ok (.iload_n 2, 1) := by decide +kernel
theorem dX6_scan_7 : decode cX6_scan 7 = .ok (.ifCond .ne 7, 3) := by decide +kernel
theorem dX6_scan_10 : decode cX6_scan 10 = .ok (.iconst 1, 1) := by decide +kernel
theorem dX6_scan_11 : decode cX6_scan 11 = .ok (.goto 17, 3) := by decide +kernel
theorem dX6_scan_14 : decode cX6_scan 14 = .ok (.aload_n 0, 1) := by decide +kernel
theorem dX6_scan_15 : decode cX6_scan 15 = .ok (.getfield 151, 3) := by decide +kernel
theorem dX6_scan_18 : decode cX6_scan 18 = .ok (.bipush 30, 2) := by decide +kernel
theorem dX6_scan_20 : decode cX6_scan 20 = .ok (.if_icmp .ne 7, 3) := by decide +kernel
theorem dX6_scan_23 : decode cX6_scan 23 = .ok (.iconst 2, 1) := by decide +kernel
theorem dX6_scan_24 : decode cX6_scan 24 = .ok (.goto 4, 3) := by decide +kernel
theorem dX6_scan_27 : decode cX6_scan 27 = .ok (.iconst 0, 1) := by decide +kernel
theorem dX6_scan_28 : decode cX6_scan 28 = .ok (.invokevirtual 66, 3) := by decide +kernel
theorem dX6_scan_31 : decode cX6_scan 31 = .ok (.ifCond .ne 5, 3) := by decide +kernel
theorem dX6_scan_34 : decode cX6_scan 34 = .ok (.iconst 0, 1) := by decide +kernel
theorem dX6_scan_35 : decode cX6_scan 35 = .ok (.ireturn, 1) := by decide +kernel
theorem dX6_scan_36 : decode cX6_scan 36 = .ok (.iconst 0, 1) := by decide +kernel
theorem dX6_scan_37 : decode cX6_scan 37 = .ok (.istore_n 3, 1) := by decide +kernel
theorem dX6_scan_38 : decode cX6_scan 38 = .ok (.iconst 0, 1) := by decide +kernel
theorem dX6_scan_39 : decode cX6_scan 39 = .ok (.istore 4, 2) := by decide +kernel
theorem dX6_scan_41 : decode cX6_scan 41 = .ok (.iload 4, 2) := by decide +kernel
theorem dX6_scan_43 : decode cX6_scan 43 = .ok (.bipush 20, 2) := by decide +kernel
theorem dX6_scan_45 : decode cX6_scan 45 = .ok (.if_icmp .ge 62, 3) := by decide +kernel
theorem dX6_scan_48 : decode cX6_scan 48 = .ok (.aload_n 0, 1) := by decide +kernel
theorem dX6_scan_49 : decode cX6_scan 49 = .ok (.iload 4, 2) := by decide +kernel
theorem dX6_scan_51 : decode cX6_scan 51 = .ok (.iload_n 1, 1) := by decide +kernel
theorem dX6_scan_52 : decode cX6_scan 52 = .ok (.invokevirtual 129, 3) := by decide +kernel
theorem dX6_scan_55 : decode cX6_scan 55 = .ok (.istore 5, 2) := by decide +kernel
theorem dX6_scan_57 : decode cX6_scan 57 = .ok (.aload_n 0, 1) := by decide +kernel
theorem dX6_scan_58 : decode cX6_scan 58 = .ok (.getfield 43, 3) := by decide +kernel
theorem dX6_scan_61 : decode cX6_scan 61 = .ok (.bipush 20, 2) := by decide +kernel
theorem dX6_scan_63 : decode cX6_scan 63 = .ok (.aload_n 0, 1) := by decide +kernel
theorem dX6_scan_64 : decode cX6_scan 64 = .ok (.getfield 151, 3) := by decide +kernel
theorem dX6_scan_67 : decode cX6_scan 67 = .ok (.imul, 1) := by decide +kernel
theorem dX6_scan_68 : decode cX6_scan 68 = .ok (.iload 4, 2) := by decide +kernel
theorem dX6_scan_70 : decode cX6_scan 70 = .ok (.iadd, 1) := by decide +kernel
theorem dX6_scan_71 : decode cX6_scan 71 = .ok (.iload 5, 2) := by decide +kernel
theorem dX6_scan_73 : decode cX6_scan 73 = .ok (.ifCond .eq 7, 3) := by decide +kernel
theorem dX6_scan_76 : decode cX6_scan 76 = .ok (.lconst 0, 1) := by decide +kernel
theorem dX6_scan_77 : decode cX6_scan 77 = .ok (.goto 10, 3) := by decide +kernel
theorem dX6_scan_80 : decode cX6_scan 80 = .ok (.aload_n 0, 1) := by decide +kernel
theorem dX6_scan_81 : decode cX6_scan 81 = .ok (.iload 4, 2) := by decide +kernel
theorem dX6_scan_83 : decode cX6_scan 83 = .ok (.iload_n 1, 1) := by decide +kernel
theorem dX6_scan_84 : decode cX6_scan 84 = .ok (.invokevirtual 135, 3) := by decide +kernel
theorem dX6_scan_87 : decode cX6_scan 87 = .ok (.lastore, 1) := by decide +kernel
theorem dX6_scan_88 : decode cX6_scan 88 = .ok (.iload_n 3, 1) := by decide +kernel
theorem dX6_scan_89 : decode cX6_scan 89 = .ok (.iload 5, 2) := by decide +kernel
theorem dX6_scan_91 : decode cX6_scan 91 = .ok (.ifCond .eq 7, 3) := by decide +kernel
theorem dX6_scan_94 : decode cX6_scan 94 = .ok (.iconst 0, 1) := by decide +kernel
theorem dX6_scan_95 : decode cX6_scan 95 = .ok (.goto 4, 3) := by decide +kernel
theorem dX6_scan_98 : decode cX6_scan 98 = .ok (.iconst 1, 1) := by decide +kernel
theorem dX6_scan_99 : decode cX6_scan 99 = .ok (.iadd, 1) := by decide +kernel
theorem dX6_scan_100 : decode cX6_scan 100 = .ok (.istore_n 3, 1) := by decide +kernel
theorem dX6_scan_101 : decode cX6_scan 101 = .ok (.iinc 4 1, 3) := by decide +kernel
theorem dX6_scan_104 : decode cX6_scan 104 = .ok (.goto (-63), 3) := by decide +kernel
theorem dX6_scan_107 : decode cX6_scan 107 = .ok (.aload_n 0, 1) := by decide +kernel
theorem dX6_scan_108 : decode cX6_scan 108 = .ok (.getfield 46, 3) := by decide +kernel
theorem dX6_scan_111 : decode cX6_scan 111 = .ok (.aload_n 0, 1) := by decide +kernel
theorem dX6_scan_112 : decode cX6_scan 112 = .ok (.getfield 151, 3) := by decide +kernel
theorem dX6_scan_115 : decode cX6_scan 115 = .ok (.aload_n 0, 1) := by decide +kernel
theorem dX6_scan_116 : decode cX6_scan 116 = .ok (.getfield 40, 3) := by decide +kernel
theorem dX6_scan_119 : decode cX6_scan 119 = .ok (.iastore, 1) := by decide +kernel
theorem dX6_scan_120 : decode cX6_scan 120 = .ok (.aload_n 0, 1) := by decide +kernel
theorem dX6_scan_121 : decode cX6_scan 121 = .ok (.dup, 1) := by decide +kernel
theorem dX6_scan_122 : decode cX6_scan 122 = .ok (.getfield 151, 3) := by decide +kernel
theorem dX6_scan_125 : decode cX6_scan 125 = .ok (.iconst 1, 1) := by decide +kernel
theorem dX6_scan_126 : decode cX6_scan 126 = .ok (.iadd, 1) := by decide +kernel
theorem dX6_scan_127 : decode cX6_scan 127 = .ok (.putfield 151, 3) := by decide +kernel
theorem dX6_scan_130 : decode cX6_scan 130 = .ok (.iload_n 3, 1) := by decide +kernel
theorem dX6_scan_131 : decode cX6_scan 131 = .ok (.ireturn, 1) := by decide +kernel
theorem dX6_rule_0 : decode cX6_rule 0 = .ok (.aload_n 0, 1) := by decide +kernel
theorem dX6_rule_1 : decode cX6_rule 1 = .ok (.iload_n 1, 1) := by decide +kernel
theorem dX6_rule_2 : decode cX6_rule 2 = .ok (.iconst 1, 1) := by decide +kernel
theorem dX6_rule_3 : decode cX6_rule 3 = .ok (.sipush 1000, 3) := by decide +kernel
theorem dX6_rule_6 : decode cX6_rule 6 = .ok (.invokestatic 52, 3) := by decide +kernel
theorem dX6_rule_9 : decode cX6_rule 9 = .ok (.ifCond .eq 7, 3) := by decide +kernel
theorem dX6_rule_12 : decode cX6_rule 12 = .ok (.iconst 0, 1) := by decide +kernel
theorem dX6_rule_13 : decode cX6_rule 13 = .ok (.goto 4, 3) := by decide +kernel
theorem dX6_rule_16 : decode cX6_rule 16 = .ok (.iconst 1, 1) := by decide +kernel
theorem dX6_rule_17 : decode cX6_rule 17 = .ok (.invokevirtual 66, 3) := by decide +kernel
theorem dX6_rule_20 : decode cX6_rule 20 = .ok (.ifCond .ne 5, 3) := by decide +kernel
theorem dX6_rule_23 : decode cX6_rule 23 = .ok (.iconst 0, 1) := by decide +kernel
theorem dX6_rule_24 : decode cX6_rule 24 = .ok (.ireturn, 1) := by decide +kernel
theorem dX6_rule_25 : decode cX6_rule 25 = .ok (.aload_n 0, 1) := by decide +kernel
theorem dX6_rule_26 : decode cX6_rule 26 = .ok (.getfield 40, 3) := by decide +kernel
theorem dX6_rule_29 : decode cX6_rule 29 = .ok (.istore_n 2, 1) := by decide +kernel
theorem dX6_rule_30 : decode cX6_rule 30 = .ok (.aload_n 0, 1) := by decide +kernel
theorem dX6_rule_31 : decode cX6_rule 31 = .ok (.iload_n 1, 1) := by decide +kernel
theorem dX6_rule_32 : decode cX6_rule 32 = .ok (.putfield 40, 3) := by decide +kernel
theorem dX6_rule_35 : decode cX6_rule 35 = .ok (.iload_n 2, 1) := by decide +kernel
theorem dX6_rule_36 : decode cX6_rule 36 = .ok (.ireturn, 1) := by decide +kernel
theorem dX6_count_0 : decode cX6_count 0 = .ok (.iload_n 1, 1) := by decide +kernel
theorem dX6_count_1 : decode cX6_count 1 = .ok (.invokestatic 56, 3) := by decide +kernel
theorem dX6_count_4 : decode cX6_count 4 = .ok (.ifCond .eq 14, 3) := by decide +kernel
theorem dX6_count_7 : decode cX6_count 7 = .ok (.iload_n 2, 1) := by decide +kernel
theorem dX6_count_8 : decode cX6_count 8 = .ok (.invokestatic 60, 3) := by decide +kernel
theorem dX6_count_11 : decode cX6_count 11 = .ok (.ifCond .eq 7, 3) := by decide +kernel
theorem dX6_count_14 : decode cX6_count 14 = .ok (.iconst 1, 1) := by decide +kernel
theorem dX6_count_15 : decode cX6_count 15 = .ok (.goto 4, 3) := by decide +kernel
theorem dX6_count_18 : decode cX6_count 18 = .ok (.iconst 0, 1) := by decide +kernel
theorem dX6_count_19 : decode cX6_count 19 = .ok (.istore 4, 2) := by decide +kernel
theorem dX6_count_21 : decode cX6_count 21 = .ok (.aload_n 0, 1) := by decide +kernel
theorem dX6_count_22 : decode cX6_count 22 = .ok (.iload 4, 2) := by decide +kernel
theorem dX6_count_24 : decode cX6_count 24 = .ok (.ifCond .ne 7, 3) := by decide +kernel
theorem dX6_count_27 : decode cX6_count 27 = .ok (.iconst 1, 1) := by decide +kernel
theorem dX6_count_28 : decode cX6_count 28 = .ok (.goto 17, 3) := by decide +kernel
theorem dX6_count_31 : decode cX6_count 31 = .ok (.iload_n 3, 1) := by decide +kernel
theorem dX6_count_32 : decode cX6_count 32 = .ok (.iconst 1, 1) := by decide +kernel
theorem dX6_count_33 : decode cX6_count 33 = .ok (.iconst 3, 1) := by decide +kernel
theorem dX6_count_34 : decode cX6_count 34 = .ok (.invokestatic 52, 3) := by decide +kernel
theorem dX6_count_37 : decode cX6_count 37 = .ok (.ifCond .eq 7, 3) := by decide +kernel
theorem dX6_count_40 : decode cX6_count 40 = .ok (.iconst 0, 1) := by decide +kernel
theorem dX6_count_41 : decode cX6_count 41 = .ok (.goto 4, 3) := by decide +kernel
theorem dX6_count_44 : decode cX6_count 44 = .ok (.iconst 2, 1) := by decide +kernel
theorem dX6_count_45 : decode cX6_count 45 = .ok (.invokevirtual 66, 3) := by decide +kernel
theorem dX6_count_48 : decode cX6_count 48 = .ok (.ifCond .ne 5, 3) := by decide +kernel
theorem dX6_count_51 : decode cX6_count 51 = .ok (.iconst 0, 1) := by decide +kernel
theorem dX6_count_52 : decode cX6_count 52 = .ok (.ireturn, 1) := by decide +kernel
theorem dX6_count_53 : decode cX6_count 53 = .ok (.aload_n 0, 1) := by decide +kernel
theorem dX6_count_54 : decode cX6_count 54 = .ok (.getfield 13, 3) := by decide +kernel
theorem dX6_count_57 : decode cX6_count 57 = .ok (.bipush 30, 2) := by decide +kernel
theorem dX6_count_59 : decode cX6_count 59 = .ok (.iload_n 1, 1) := by decide +kernel
theorem dX6_count_60 : decode cX6_count 60 = .ok (.imul, 1) := by decide +kernel
theorem dX6_count_61 : decode cX6_count 61 = .ok (.iconst 3, 1) := by decide +kernel
theorem dX6_count_62 : decode cX6_count 62 = .ok (.iload_n 2, 1) := by decide +kernel
theorem dX6_count_63 : decode cX6_count 63 = .ok (.imul, 1) := by decide +kernel
theorem dX6_count_64 : decode cX6_count 64 = .ok (.iadd, 1) := by decide +kernel
theorem dX6_count_65 : decode cX6_count 65 = .ok (.iload_n 3, 1) := by decide +kernel
theorem dX6_count_66 : decode cX6_count 66 = .ok (.iadd, 1) := by decide +kernel
theorem dX6_count_67 : decode cX6_count 67 = .ok (.iconst 1, 1) := by decide +kernel
theorem dX6_count_68 : decode cX6_count 68 = .ok (.isub, 1) := by decide +kernel
theorem dX6_count_69 : decode cX6_count 69 = .ok (.iaload, 1) := by decide +kernel
theorem dX6_count_70 : decode cX6_count 70 = .ok (.ireturn, 1) := by decide +kernel
theorem dX6_phase_0 : decode cX6_phase 0 = .ok (.aload_n 0, 1) := by decide +kernel
theorem dX6_phase_1 : decode cX6_phase 1 = .ok (.iload_n 1, 1) := by decide +kernel
theorem dX6_phase_2 : decode cX6_phase 2 = .ok (.invokestatic 60, 3) := by decide +kernel
theorem dX6_phase_5 : decode cX6_phase 5 = .ok (.ifCond .eq 7, 3) := by decide +kernel
theorem dX6_phase_8 : decode cX6_phase 8 = .ok (.iconst 0, 1) := by decide +kernel
theorem dX6_phase_9 : decode cX6_phase 9 = .ok (.goto 4, 3) := by decide +kernel
theorem dX6_phase_12 : decode cX6_phase 12 = .ok (.iconst 1, 1) := by decide +kernel
theorem dX6_phase_13 : decode cX6_phase 13 = .ok (.invokevirtual 66, 3) := by decide +kernel
theorem dX6_phase_16 : decode cX6_phase 16 = .ok (.ifCond .eq 11, 3) := by decide +kernel
theorem dX6_phase_19 : decode cX6_phase 19 = .ok (.aload_n 0, 1) := by decide +kernel
theorem dX6_phase_20 : decode cX6_phase 20 = .ok (.iload_n 1, 1) := by decide +kernel
theorem dX6_phase_21 : decode cX6_phase 21 = .ok (.invokevirtual 83, 3) := by decide +kernel
theorem dX6_phase_24 : decode cX6_phase 24 = .ok (.goto 4, 3) := by decide +kernel
theorem dX6_phase_27 : decode cX6_phase 27 = .ok (.iconst 0, 1) := by decide +kernel
theorem dX6_phase_28 : decode cX6_phase 28 = .ok (.ireturn, 1) := by decide +kernel
theorem dX6_rain_0 : decode cX6_rain 0 = .ok (.aload_n 0, 1) := by decide +kernel
theorem dX6_rain_1 : decode cX6_rain 1 = .ok (.iload_n 1, 1) := by decide +kernel
theorem dX6_rain_2 : decode cX6_rain 2 = .ok (.invokestatic 56, 3) := by decide +kernel
theorem dX6_rain_5 : decode cX6_rain 5 = .ok (.ifCond .eq 7, 3) := by decide +kernel
theorem dX6_rain_8 : decode cX6_rain 8 = .ok (.iconst 0, 1) := by decide +kernel
theorem dX6_rain_9 : decode cX6_rain 9 = .ok (.goto 4, 3) := by decide +kernel
theorem dX6_rain_12 : decode cX6_rain 12 = .ok (.iconst 1, 1) := by decide +kernel
theorem dX6_rain_13 : decode cX6_rain 13 = .ok (.invokevirtual 66, 3) := by decide +kernel
theorem dX6_rain_16 : decode cX6_rain 16 = .ok (.ifCond .ne 5, 3) := by decide +kernel
theorem dX6_rain_19 : decode cX6_rain 19 = .ok (.lconst 0, 1) := by decide +kernel
theorem dX6_rain_20 : decode cX6_rain 20 = .ok (.lreturn, 1) := by decide +kernel
theorem dX6_rain_21 : decode cX6_rain 21 = .ok (.lconst 0, 1) := by decide +kernel
theorem dX6_rain_22 : decode cX6_rain 22 = .ok (.lstore_n 2, 1) := by decide +kernel
theorem dX6_rain_23 : decode cX6_rain 23 = .ok (.iconst 0, 1) := by decide +kernel
theorem dX6_rain_24 : decode cX6_rain 24 = .ok (.istore 4, 2) := by decide +kernel
theorem dX6_rain_26 : decode cX6_rain 26 = .ok (.iload 4, 2) := by decide +kernel
theorem dX6_rain_28 : decode cX6_rain 28 = .ok (.aload_n 0, 1) := by decide +kernel
theorem dX6_rain_29 : decode cX6_rain 29 = .ok (.getfield 151, 3) := by decide +kernel
theorem dX6_rain_32 : decode cX6_rain 32 = .ok (.if_icmp .ge 33, 3) := by decide +kernel
theorem dX6_rain_35 : decode cX6_rain 35 = .ok (.lload_n 2, 1) := by decide +kernel
theorem dX6_rain_36 : decode cX6_rain 36 = .ok (.aload_n 0, 1) := by decide +kernel
theorem dX6_rain_37 : decode cX6_rain 37 = .ok (.getfield 43, 3) := by decide +kernel
theorem dX6_rain_40 : decode cX6_rain 40 = .ok (.bipush 20, 2) := by decide +kernel
theorem dX6_rain_42 : decode cX6_rain 42 = .ok (.iload 4, 2) := by decide +kernel
theorem dX6_rain_44 : decode cX6_rain 44 = .ok (.imul, 1) := by decide +kernel
theorem dX6_rain_45 : decode cX6_rain 45 = .ok (.iload_n 1, 1) := by decide +kernel
theorem dX6_rain_46 : decode cX6_rain 46 = .ok (.iadd, 1) := by decide +kernel
theorem dX6_rain_47 : decode cX6_rain 47 = .ok (.laload, 1) := by decide +kernel
theorem dX6_rain_48 : decode cX6_rain 48 = .ok (.aload_n 0, 1) := by decide +kernel
theorem dX6_rain_49 : decode cX6_rain 49 = .ok (.getfield 46, 3) := by decide +kernel
theorem dX6_rain_52 : decode cX6_rain 52 = .ok (.iload 4, 2) := by decide +kernel
theorem dX6_rain_54 : decode cX6_rain 54 = .ok (.iaload, 1) := by decide +kernel
theorem dX6_rain_55 : decode cX6_rain 55 = .ok (.i2l, 1) := by decide +kernel
theorem dX6_rain_56 : decode cX6_rain 56 = .ok (.ldiv, 1) := by decide +kernel
theorem dX6_rain_57 : decode cX6_rain 57 = .ok (.ladd, 1) := by decide +kernel
theorem dX6_rain_58 : decode cX6_rain 58 = .ok (.lstore_n 2, 1) := by decide +kernel
theorem dX6_rain_59 : decode cX6_rain 59 = .ok (.iinc 4 1, 3) := by decide +kernel
theorem dX6_rain_62 : decode cX6_rain 62 = .ok (.goto (-36), 3) := by decide +kernel
theorem dX6_rain_65 : decode cX6_rain 65 = .ok (.lload_n 2, 1) := by decide +kernel
theorem dX6_rain_66 : decode cX6_rain 66 = .ok (.lreturn, 1) := by decide +kernel
theorem dX6_rainBy_0 : decode cX6_rainBy 0 = .ok (.iload_n 1, 1) := by decide +kernel
theorem dX6_rainBy_1 : decode cX6_rainBy 1 = .ok (.invokestatic 56, 3) := by decide +kernel
theorem dX6_rainBy_4 : decode cX6_rainBy 4 = .ok (.istore_n 3, 1) := by decide +kernel
theorem dX6_rainBy_5 : decode cX6_rainBy 5 = .ok (.aload_n 0, 1) := by decide +kernel
theorem dX6_rainBy_6 : decode cX6_rainBy 6 = .ok (.iload_n 3, 1) := by decide +kernel
theorem dX6_rainBy_7 : decode cX6_rainBy 7 = .ok (.ifCond .ne 7, 3) := by decide +kernel
theorem dX6_rainBy_10 : decode cX6_rainBy 10 = .ok (.iconst 1, 1) := by decide +kernel
theorem dX6_rainBy_11 : decode cX6_rainBy 11 = .ok (.goto 19, 3) := by decide +kernel
theorem dX6_rainBy_14 : decode cX6_rainBy 14 = .ok (.iload_n 2, 1) := by decide +kernel
theorem dX6_rainBy_15 : decode cX6_rainBy 15 = .ok (.iconst 1, 1) := by decide +kernel
theorem dX6_rainBy_16 : decode cX6_rainBy 16 = .ok (.sipush 1000, 3) := by decide +kernel
theorem dX6_rainBy_19 : decode cX6_rainBy 19 = .ok (.invokestatic 52, 3) := by decide +kernel
theorem dX6_rainBy_22 : decode cX6_rainBy 22 = .ok (.ifCond .eq 7, 3) := by decide +kernel
theorem dX6_rainBy_25 : decode cX6_rainBy 25 = .ok (.iconst 0, 1) := by decide +kernel
theorem dX6_rainBy_26 : decode cX6_rainBy 26 = .ok (.goto 4, 3) := by decide +kernel
theorem dX6_rainBy_29 : decode cX6_rainBy 29 = .ok (.iconst 2, 1) := by decide +kernel
theorem dX6_rainBy_30 : decode cX6_rainBy 30 = .ok (.invokevirtual 66, 3) := by decide +kernel
theorem dX6_rainBy_33 : decode cX6_rainBy 33 = .ok (.ifCond .ne 5, 3) := by decide +kernel
theorem dX6_rainBy_36 : decode cX6_rainBy 36 = .ok (.lconst 0, 1) := by decide +kernel
theorem dX6_rainBy_37 : decode cX6_rainBy 37 = .ok (.lreturn, 1) := by decide +kernel
theorem dX6_rainBy_38 : decode cX6_rainBy 38 = .ok (.lconst 0, 1) := by decide +kernel
theorem dX6_rainBy_39 : decode cX6_rainBy 39 = .ok (.lstore 4, 2) := by decide +kernel
theorem dX6_rainBy_41 : decode cX6_rainBy 41 = .ok (.iconst 0, 1) := by decide +kernel
theorem dX6_rainBy_42 : decode cX6_rainBy 42 = .ok (.istore 6, 2) := by decide +kernel
theorem dX6_rainBy_44 : decode cX6_rainBy 44 = .ok (.iload 6, 2) := by decide +kernel
theorem dX6_rainBy_46 : decode cX6_rainBy 46 = .ok (.aload_n 0, 1) := by decide +kernel
theorem dX6_rainBy_47 : decode cX6_rainBy 47 = .ok (.getfield 151, 3) := by decide +kernel
theorem dX6_rainBy_50 : decode cX6_rainBy 50 = .ok (.if_icmp .ge 29, 3) := by decide +kernel
theorem dX6_rainBy_53 : decode cX6_rainBy 53 = .ok (.lload 4, 2) := by decide +kernel
theorem dX6_rainBy_55 : decode cX6_rainBy 55 = .ok (.aload_n 0, 1) := by decide +kernel
theorem dX6_rainBy_56 : decode cX6_rainBy 56 = .ok (.getfield 43, 3) := by decide +kernel
theorem dX6_rainBy_59 : decode cX6_rainBy 59 = .ok (.bipush 20, 2) := by decide +kernel
theorem dX6_rainBy_61 : decode cX6_rainBy 61 = .ok (.iload 6, 2) := by decide +kernel
theorem dX6_rainBy_63 : decode cX6_rainBy 63 = .ok (.imul, 1) := by decide +kernel
theorem dX6_rainBy_64 : decode cX6_rainBy 64 = .ok (.iload_n 1, 1) := by decide +kernel
theorem dX6_rainBy_65 : decode cX6_rainBy 65 = .ok (.iadd, 1) := by decide +kernel
theorem dX6_rainBy_66 : decode cX6_rainBy 66 = .ok (.laload, 1) := by decide +kernel
theorem dX6_rainBy_67 : decode cX6_rainBy 67 = .ok (.iload_n 2, 1) := by decide +kernel
theorem dX6_rainBy_68 : decode cX6_rainBy 68 = .ok (.i2l, 1) := by decide +kernel
theorem dX6_rainBy_69 : decode cX6_rainBy 69 = .ok (.ldiv, 1) := by decide +kernel
theorem dX6_rainBy_70 : decode cX6_rainBy 70 = .ok (.ladd, 1) := by decide +kernel
theorem dX6_rainBy_71 : decode cX6_rainBy 71 = .ok (.lstore 4, 2) := by decide +kernel
theorem dX6_rainBy_73 : decode cX6_rainBy 73 = .ok (.iinc 6 1, 3) := by decide +kernel
theorem dX6_rainBy_76 : decode cX6_rainBy 76 = .ok (.goto (-32), 3) := by decide +kernel
theorem dX6_rainBy_79 : decode cX6_rainBy 79 = .ok (.lload 4, 2) := by decide +kernel
theorem dX6_rainBy_81 : decode cX6_rainBy 81 = .ok (.lreturn, 1) := by decide +kernel
theorem dX6_differs_0 : decode cX6_differs 0 = .ok (.lconst 0, 1) := by decide +kernel
theorem dX6_differs_1 : decode cX6_differs 1 = .ok (.lstore_n 2, 1) := by decide +kernel
theorem dX6_differs_2 : decode cX6_differs 2 = .ok (.iconst 0, 1) := by decide +kernel
theorem dX6_differs_3 : decode cX6_differs 3 = .ok (.istore 4, 2) := by decide +kernel
theorem dX6_differs_5 : decode cX6_differs 5 = .ok (.iload 4, 2) := by decide +kernel
theorem dX6_differs_7 : decode cX6_differs 7 = .ok (.bipush 20, 2) := by decide +kernel
theorem dX6_differs_9 : decode cX6_differs 9 = .ok (.if_icmp .ge 84, 3) := by decide +kernel
theorem dX6_differs_12 : decode cX6_differs 12 = .ok (.iload 4, 2) := by decide +kernel
theorem dX6_differs_14 : decode cX6_differs 14 = .ok (.iload_n 1, 1) := by decide +kernel
theorem dX6_differs_15 : decode cX6_differs 15 = .ok (.isub, 1) := by decide +kernel
theorem dX6_differs_16 : decode cX6_differs 16 = .ok (.invokestatic 56, 3) := by decide +kernel
theorem dX6_differs_19 : decode cX6_differs 19 = .ok (.ifCond .eq 25, 3) := by decide +kernel
theorem dX6_differs_22 : decode cX6_differs 22 = .ok (.aload_n 0, 1) := by decide +kernel
theorem dX6_differs_23 : decode cX6_differs 23 = .ok (.getfield 43, 3) := by decide +kernel
theorem dX6_differs_26 : decode cX6_differs 26 = .ok (.bipush 20, 2) := by decide +kernel
theorem dX6_differs_28 : decode cX6_differs 28 = .ok (.aload_n 0, 1) := by decide +kernel
theorem dX6_differs_29 : decode cX6_differs 29 = .ok (.getfield 151, 3) := by decide +kernel
theorem dX6_differs_32 : decode cX6_differs 32 = .ok (.iconst 2, 1) := by decide +kernel
theorem dX6_differs_33 : decode cX6_differs 33 = .ok (.isub, 1) := by decide +kernel
theorem dX6_differs_34 : decode cX6_differs 34 = .ok (.imul, 1) := by decide +kernel
theorem dX6_differs_35 : decode cX6_differs 35 = .ok (.iload 4, 2) := by decide +kernel
theorem dX6_differs_37 : decode cX6_differs 37 = .ok (.iadd, 1) := by decide +kernel
theorem dX6_differs_38 : decode cX6_differs 38 = .ok (.iload_n 1, 1) := by decide +kernel
theorem dX6_differs_39 : decode cX6_differs 39 = .ok (.isub, 1) := by decide +kernel
theorem dX6_differs_40 : decode cX6_differs 40 = .ok (.laload, 1) := by decide +kernel
theorem dX6_differs_41 : decode cX6_differs 41 = .ok (.goto 4, 3) := by decide +kernel
theorem dX6_differs_44 : decode cX6_differs 44 = .ok (.lconst 0, 1) := by decide +kernel
theorem dX6_differs_45 : decode cX6_differs 45 = .ok (.lstore 5, 2) := by decide +kernel
theorem dX6_differs_47 : decode cX6_differs 47 = .ok (.aload_n 0, 1) := by decide +kernel
theorem dX6_differs_48 : decode cX6_differs 48 = .ok (.getfield 43, 3) := by decide +kernel
theorem dX6_differs_51 : decode cX6_differs 51 = .ok (.bipush 20, 2) := by decide +kernel
theorem dX6_differs_53 : decode cX6_differs 53 = .ok (.aload_n 0, 1) := by decide +kernel
theorem dX6_differs_54 : decode cX6_differs 54 = .ok (.getfield 151, 3) := by decide +kernel
theorem dX6_differs_57 : decode cX6_differs 57 = .ok (.iconst 1, 1) := by decide +kernel
theorem dX6_differs_58 : decode cX6_differs 58 = .ok (.isub, 1) := by decide +kernel
theorem dX6_differs_59 : decode cX6_differs 59 = .ok (.imul, 1) := by decide +kernel
theorem dX6_differs_60 : decode cX6_differs 60 = .ok (.iload 4, 2) := by decide +kernel
theorem dX6_differs_62 : decode cX6_differs 62 = .ok (.iadd, 1) := by decide +kernel
theorem dX6_differs_63 : decode cX6_differs 63 = .ok (.laload, 1) := by decide +kernel
theorem dX6_differs_64 : decode cX6_differs 64 = .ok (.lload 5, 2) := by decide +kernel
theorem dX6_differs_66 : decode cX6_differs 66 = .ok (.lsub, 1) := by decide +kernel
theorem dX6_differs_67 : decode cX6_differs 67 = .ok (.lstore 7, 2) := by decide +kernel
theorem dX6_differs_69 : decode cX6_differs 69 = .ok (.lload_n 2, 1) := by decide +kernel
theorem dX6_differs_70 : decode cX6_differs 70 = .ok (.lload 7, 2) := by decide +kernel
theorem dX6_differs_72 : decode cX6_differs 72 = .ok (.lconst 0, 1) := by decide +kernel
theorem dX6_differs_73 : decode cX6_differs 73 = .ok (.lcmp, 1) := by decide +kernel
theorem dX6_differs_74 : decode cX6_differs 74 = .ok (.ifCond .ge 9, 3) := by decide +kernel
theorem dX6_differs_77 : decode cX6_differs 77 = .ok (.lload 7, 2) := by decide +kernel
theorem dX6_differs_79 : decode cX6_differs 79 = .ok (.lneg, 1) := by decide +kernel
theorem dX6_differs_80 : decode cX6_differs 80 = .ok (.goto 5, 3) := by decide +kernel
theorem dX6_differs_83 : decode cX6_differs 83 = .ok (.lload 7, 2) := by decide +kernel
theorem dX6_differs_85 : decode cX6_differs 85 = .ok (.ladd, 1) := by decide +kernel
theorem dX6_differs_86 : decode cX6_differs 86 = .ok (.lstore_n 2, 1) := by decide +kernel
theorem dX6_differs_87 : decode cX6_differs 87 = .ok (.iinc 4 1, 3) := by decide +kernel
theorem dX6_differs_90 : decode cX6_differs 90 = .ok (.goto (-85), 3) := by decide +kernel
theorem dX6_differs_93 : decode cX6_differs 93 = .ok (.lload_n 2, 1) := by decide +kernel
theorem dX6_differs_94 : decode cX6_differs 94 = .ok (.lreturn, 1) := by decide +kernel
theorem dX6_motion_0 : decode cX6_motion 0 = .ok (.aload_n 0, 1) := by decide +kernel
theorem dX6_motion_1 : decode cX6_motion 1 = .ok (.aload_n 0, 1) := by decide +kernel
theorem dX6_motion_2 : decode cX6_motion 2 = .ok (.getfield 151, 3) := by decide +kernel
theorem dX6_motion_5 : decode cX6_motion 5 = .ok (.iconst 2, 1) := by decide +kernel
theorem dX6_motion_6 : decode cX6_motion 6 = .ok (.if_icmp .ge 7, 3) := by decide +kernel
theorem dX6_motion_9 : decode cX6_motion 9 = .ok (.iconst 1, 1) := by decide +kernel
theorem dX6_motion_10 : decode cX6_motion 10 = .ok (.goto 4, 3) := by decide +kernel
theorem dX6_motion_13 : decode cX6_motion 13 = .ok (.iconst 0, 1) := by decide +kernel
theorem dX6_motion_14 : decode cX6_motion 14 = .ok (.invokevirtual 66, 3) := by decide +kernel
theorem dX6_motion_17 : decode cX6_motion 17 = .ok (.ifCond .ne 5, 3) := by decide +kernel
theorem dX6_motion_20 : decode cX6_motion 20 = .ok (.iconst 0, 1) := by decide +kernel
theorem dX6_motion_21 : decode cX6_motion 21 = .ok (.ireturn, 1) := by decide +kernel
theorem dX6_motion_22 : decode cX6_motion 22 = .ok (.iconst 0, 1) := by decide +kernel
theorem dX6_motion_23 : decode cX6_motion 23 = .ok (.istore_n 1, 1) := by decide +kernel
theorem dX6_motion_24 : decode cX6_motion 24 = .ok (.aload_n 0, 1) := by decide +kernel
theorem dX6_motion_25 : decode cX6_motion 25 = .ok (.iconst 0, 1) := by decide +kernel
theorem dX6_motion_26 : decode cX6_motion 26 = .ok (.invokevirtual 154, 3) := by decide +kernel
theorem dX6_motion_29 : decode cX6_motion 29 = .ok (.lstore_n 2, 1) := by decide +kernel
theorem dX6_motion_30 : decode cX6_motion 30 = .ok (.iconst 1, 1) := by decide +kernel
theorem dX6_motion_31 : decode cX6_motion 31 = .ok (.istore 4, 2) := by decide +kernel
theorem dX6_motion_33 : decode cX6_motion 33 = .ok (.iload 4, 2) := by decide +kernel
theorem dX6_motion_35 : decode cX6_motion 35 = .ok (.iconst 3, 1) := by decide +kernel
theorem dX6_motion_36 : decode cX6_motion 36 = .ok (.if_icmp .gt 51, 3) := by decide +kernel
theorem dX6_motion_39 : decode cX6_motion 39 = .ok (.iconst (-1), 1) := by decide +kernel
theorem dX6_motion_40 : decode cX6_motion 40 = .ok (.istore 5, 2) := by decide +kernel
theorem dX6_motion_42 : decode cX6_motion 42 = .ok (.iload 5, 2) := by decide +kernel
theorem dX6_motion_44 : decode cX6_motion 44 = .ok (.iconst 2, 1) := by decide +kernel
theorem dX6_motion_45 : decode cX6_motion 45 = .ok (.if_icmp .ge 36, 3) := by decide +kernel
theorem dX6_motion_48 : decode cX6_motion 48 = .ok (.aload_n 0, 1) := by decide +kernel
theorem dX6_motion_49 : decode cX6_motion 49 = .ok (.iload 5, 2) := by decide +kernel
theorem dX6_motion_51 : decode cX6_motion 51 = .ok (.iload 4, 2) := by decide +kernel
theorem dX6_motion_53 : decode cX6_motion 53 = .ok (.imul, 1) := by decide +kernel
theorem dX6_motion_54 : decode cX6_motion 54 = .ok (.invokevirtual 154, 3) := by decide +kernel
theorem dX6_motion_57 : decode cX6_motion 57 = .ok (.lstore 6, 2) := by decide +kernel
theorem dX6_motion_59 : decode cX6_motion 59 = .ok (.lload 6, 2) := by decide +kernel
theorem dX6_motion_61 : decode cX6_motion 61 = .ok (.lload_n 2, 1) := by decide +kernel
theorem dX6_motion_62 : decode cX6_motion 62 = .ok (.lcmp, 1) := by decide +kernel
theorem dX6_motion_63 : decode cX6_motion 63 = .ok (.ifCond .ge 12, 3) := by decide +kernel
theorem dX6_motion_66 : decode cX6_motion 66 = .ok (.lload 6, 2) := by decide +kernel
theorem dX6_motion_68 : decode cX6_motion 68 = .ok (.lstore_n 2, 1) := by decide +kernel
theorem dX6_motion_69 : decode cX6_motion 69 = .ok (.iload 5, 2) := by decide +kernel
theorem dX6_motion_71 : decode cX6_motion 71 = .ok (.iload 4, 2) := by decide +kernel
theorem dX6_motion_73 : decode cX6_motion 73 = .ok (.imul, 1) := by decide +kernel
theorem dX6_motion_74 : decode cX6_motion 74 = .ok (.istore_n 1, 1) := by decide +kernel
theorem dX6_motion_75 : decode cX6_motion 75 = .ok (.iinc 5 2, 3) := by decide +kernel
theorem dX6_motion_78 : decode cX6_motion 78 = .ok (.goto (-36), 3) := by decide +kernel
theorem dX6_motion_81 : decode cX6_motion 81 = .ok (.iinc 4 1, 3) := by decide +kernel
theorem dX6_motion_84 : decode cX6_motion 84 = .ok (.goto (-51), 3) := by decide +kernel
theorem dX6_motion_87 : decode cX6_motion 87 = .ok (.iload_n 1, 1) := by decide +kernel
theorem dX6_motion_88 : decode cX6_motion 88 = .ok (.ireturn, 1) := by decide +kernel
theorem dX6_collected_0 : decode cX6_collected 0 = .ok (.aload_n 0, 1) := by decide +kernel
theorem dX6_collected_1 : decode cX6_collected 1 = .ok (.iload_n 1, 1) := by decide +kernel
theorem dX6_collected_2 : decode cX6_collected 2 = .ok (.invokestatic 56, 3) := by decide +kernel
theorem dX6_collected_5 : decode cX6_collected 5 = .ok (.ifCond .eq 16, 3) := by decide +kernel
theorem dX6_collected_8 : decode cX6_collected 8 = .ok (.aload_n 0, 1) := by decide +kernel
theorem dX6_collected_9 : decode cX6_collected 9 = .ok (.getfield 23, 3) := by decide +kernel
theorem dX6_collected_12 : decode cX6_collected 12 = .ok (.iload_n 1, 1) := by decide +kernel
theorem dX6_collected_13 : decode cX6_collected 13 = .ok (.baload, 1) := by decide +kernel
theorem dX6_collected_14 : decode cX6_collected 14 = .ok (.ifCond .eq 7, 3) := by decide +kernel
theorem dX6_collected_17 : decode cX6_collected 17 = .ok (.iconst 0, 1) := by decide +kernel
theorem dX6_collected_18 : decode cX6_collected 18 = .ok (.goto 4, 3) := by decide +kernel
theorem dX6_collected_21 : decode cX6_collected 21 = .ok (.iconst 1, 1) := by decide +kernel
theorem dX6_collected_22 : decode cX6_collected 22 = .ok (.invokevirtual 66, 3) := by decide +kernel
theorem dX6_collected_25 : decode cX6_collected 25 = .ok (.ifCond .eq 12, 3) := by decide +kernel
theorem dX6_collected_28 : decode cX6_collected 28 = .ok (.aload_n 0, 1) := by decide +kernel
theorem dX6_collected_29 : decode cX6_collected 29 = .ok (.getfield 30, 3) := by decide +kernel
theorem dX6_collected_32 : decode cX6_collected 32 = .ok (.iload_n 1, 1) := by decide +kernel
theorem dX6_collected_33 : decode cX6_collected 33 = .ok (.laload, 1) := by decide +kernel
theorem dX6_collected_34 : decode cX6_collected 34 = .ok (.goto 4, 3) := by decide +kernel
theorem dX6_collected_37 : decode cX6_collected 37 = .ok (.lconst 0, 1) := by decide +kernel
theorem dX6_collected_38 : decode cX6_collected 38 = .ok (.lreturn, 1) := by decide +kernel
theorem dX6_ground_0 : decode cX6_ground 0 = .ok (.aload_n 0, 1) := by decide +kernel
theorem dX6_ground_1 : decode cX6_ground 1 = .ok (.iload_n 1, 1) := by decide +kernel
theorem dX6_ground_2 : decode cX6_ground 2 = .ok (.invokestatic 56, 3) := by decide +kernel
theorem dX6_ground_5 : decode cX6_ground 5 = .ok (.ifCond .eq 7, 3) := by decide +kernel
theorem dX6_ground_8 : decode cX6_ground 8 = .ok (.iconst 0, 1) := by decide +kernel
theorem dX6_ground_9 : decode cX6_ground 9 = .ok (.goto 4, 3) := by decide +kernel
theorem dX6_ground_12 : decode cX6_ground 12 = .ok (.iconst 1, 1) := by decide +kernel
theorem dX6_ground_13 : decode cX6_ground 13 = .ok (.invokevirtual 66, 3) := by decide +kernel
theorem dX6_ground_16 : decode cX6_ground 16 = .ok (.ifCond .eq 12, 3) := by decide +kernel
theorem dX6_ground_19 : decode cX6_ground 19 = .ok (.aload_n 0, 1) := by decide +kernel
theorem dX6_ground_20 : decode cX6_ground 20 = .ok (.getfield 34, 3) := by decide +kernel
theorem dX6_ground_23 : decode cX6_ground 23 = .ok (.iload_n 1, 1) := by decide +kernel
theorem dX6_ground_24 : decode cX6_ground 24 = .ok (.laload, 1) := by decide +kernel
theorem dX6_ground_25 : decode cX6_ground 25 = .ok (.goto 4, 3) := by decide +kernel
theorem dX6_ground_28 : decode cX6_ground 28 = .ok (.lconst 0, 1) := by decide +kernel
theorem dX6_ground_29 : decode cX6_ground 29 = .ok (.lreturn, 1) := by decide +kernel
theorem dX6_groundAnew_0 : decode cX6_groundAnew 0 = .ok (.aload_n 0, 1) := by decide +kernel
theorem dX6_groundAnew_1 : decode cX6_groundAnew 1 = .ok (.iload_n 1, 1) := by decide +kernel
theorem dX6_groundAnew_2 : decode cX6_groundAnew 2 = .ok (.invokestatic 56, 3) := by decide +kernel
theorem dX6_groundAnew_5 : decode cX6_groundAnew 5 = .ok (.ifCond .eq 7, 3) := by decide +kernel
theorem dX6_groundAnew_8 : decode cX6_groundAnew 8 = .ok (.iconst 0, 1) := by decide +kernel
theorem dX6_groundAnew_9 : decode cX6_groundAnew 9 = .ok (.goto 4, 3) := by decide +kernel
theorem dX6_groundAnew_12 : decode cX6_groundAnew 12 = .ok (.iconst 1, 1) := by decide +kernel
theorem dX6_groundAnew_13 : decode cX6_groundAnew 13 = .ok (.invokevirtual 66, 3) := by decide +kernel
theorem dX6_groundAnew_16 : decode cX6_groundAnew 16 = .ok (.ifCond .eq 12, 3) := by decide +kernel
theorem dX6_groundAnew_19 : decode cX6_groundAnew 19 = .ok (.aload_n 0, 1) := by decide +kernel
theorem dX6_groundAnew_20 : decode cX6_groundAnew 20 = .ok (.getfield 34, 3) := by decide +kernel
theorem dX6_groundAnew_23 : decode cX6_groundAnew 23 = .ok (.iload_n 1, 1) := by decide +kernel
theorem dX6_groundAnew_24 : decode cX6_groundAnew 24 = .ok (.laload, 1) := by decide +kernel
theorem dX6_groundAnew_25 : decode cX6_groundAnew 25 = .ok (.goto 4, 3) := by decide +kernel
theorem dX6_groundAnew_28 : decode cX6_groundAnew 28 = .ok (.lconst 0, 1) := by decide +kernel
theorem dX6_groundAnew_29 : decode cX6_groundAnew 29 = .ok (.lreturn, 1) := by decide +kernel
theorem dX6_water_0 : decode cX6_water 0 = .ok (.aload_n 0, 1) := by decide +kernel
theorem dX6_water_1 : decode cX6_water 1 = .ok (.iload_n 1, 1) := by decide +kernel
theorem dX6_water_2 : decode cX6_water 2 = .ok (.iconst 0, 1) := by decide +kernel
theorem dX6_water_3 : decode cX6_water 3 = .ok (.iconst 3, 1) := by decide +kernel
theorem dX6_water_4 : decode cX6_water 4 = .ok (.invokestatic 52, 3) := by decide +kernel
theorem dX6_water_7 : decode cX6_water 7 = .ok (.ifCond .eq 7, 3) := by decide +kernel
theorem dX6_water_10 : decode cX6_water 10 = .ok (.iconst 0, 1) := by decide +kernel
theorem dX6_water_11 : decode cX6_water 11 = .ok (.goto 4, 3) := by decide +kernel
theorem dX6_water_14 : decode cX6_water 14 = .ok (.iconst 1, 1) := by decide +kernel
theorem dX6_water_15 : decode cX6_water 15 = .ok (.invokevirtual 66, 3) := by decide +kernel
theorem dX6_water_18 : decode cX6_water 18 = .ok (.ifCond .ne 5, 3) := by decide +kernel
theorem dX6_water_21 : decode cX6_water 21 = .ok (.lconst 0, 1) := by decide +kernel
theorem dX6_water_22 : decode cX6_water 22 = .ok (.lreturn, 1) := by decide +kernel
theorem dX6_water_23 : decode cX6_water 23 = .ok (.iload_n 1, 1) := by decide +kernel
theorem dX6_water_24 : decode cX6_water 24 = .ok (.ifCond .ne 10, 3) := by decide +kernel
theorem dX6_water_27 : decode cX6_water 27 = .ok (.aload_n 0, 1) := by decide +kernel
theorem dX6_water_28 : decode cX6_water 28 = .ok (.getfield 69, 3) := by decide +kernel
theorem dX6_water_31 : decode cX6_water 31 = .ok (.goto 16, 3) := by decide +kernel
theorem dX6_water_34 : decode cX6_water 34 = .ok (.iload_n 1, 1) := by decide +kernel
theorem dX6_water_35 : decode cX6_water 35 = .ok (.iconst 3, 1) := by decide +kernel
theorem dX6_water_36 : decode cX6_water 36 = .ok (.if_icmp .ne 10, 3) := by decide +kernel
theorem dX6_water_39 : decode cX6_water 39 = .ok (.aload_n 0, 1) := by decide +kernel
theorem dX6_water_40 : decode cX6_water 40 = .ok (.getfield 92, 3) := by decide +kernel
theorem dX6_water_43 : decode cX6_water 43 = .ok (.goto 4, 3) := by decide +kernel
theorem dX6_water_46 : decode cX6_water 46 = .ok (.lconst 0, 1) := by decide +kernel
theorem dX6_water_47 : decode cX6_water 47 = .ok (.lstore_n 2, 1) := by decide +kernel
theorem dX6_water_48 : decode cX6_water 48 = .ok (.iconst 0, 1) := by decide +kernel
theorem dX6_water_49 : decode cX6_water 49 = .ok (.istore 4, 2) := by decide +kernel
theorem dX6_water_51 : decode cX6_water 51 = .ok (.iload 4, 2) := by decide +kernel
theorem dX6_water_53 : decode cX6_water 53 = .ok (.sipush 600, 3) := by decide +kernel
theorem dX6_water_56 : decode cX6_water 56 = .ok (.if_icmp .ge 45, 3) := by decide +kernel
theorem dX6_water_59 : decode cX6_water 59 = .ok (.iload_n 1, 1) := by decide +kernel
theorem dX6_water_60 : decode cX6_water 60 = .ok (.iconst 1, 1) := by decide +kernel
theorem dX6_water_61 : decode cX6_water 61 = .ok (.if_icmp .ne 40, 3) := by decide +kernel
theorem dX6_water_64 : decode cX6_water 64 = .ok (.iload 4, 2) := by decide +kernel
theorem dX6_water_66 : decode cX6_water 66 = .ok (.iconst 3, 1) := by decide +kernel
theorem dX6_water_67 : decode cX6_water 67 = .ok (.irem, 1) := by decide +kernel
theorem dX6_water_68 : decode cX6_water 68 = .ok (.iconst 1, 1) := by decide +kernel
theorem dX6_water_69 : decode cX6_water 69 = .ok (.iadd, 1) := by decide +kernel
theorem dX6_water_70 : decode cX6_water 70 = .ok (.istore 5, 2) := by decide +kernel
theorem dX6_water_72 : decode cX6_water 72 = .ok (.lload_n 2, 1) := by decide +kernel
theorem dX6_water_73 : decode cX6_water 73 = .ok (.aload_n 0, 1) := by decide +kernel
theorem dX6_water_74 : decode cX6_water 74 = .ok (.getfield 13, 3) := by decide +kernel
theorem dX6_water_77 : decode cX6_water 77 = .ok (.iload 4, 2) := by decide +kernel
theorem dX6_water_79 : decode cX6_water 79 = .ok (.iaload, 1) := by decide +kernel
theorem dX6_water_80 : decode cX6_water 80 = .ok (.i2l, 1) := by decide +kernel
theorem dX6_water_81 : decode cX6_water 81 = .ok (.iload 5, 2) := by decide +kernel
theorem dX6_water_83 : decode cX6_water 83 = .ok (.i2l, 1) := by decide +kernel
theorem dX6_water_84 : decode cX6_water 84 = .ok (.lmul, 1) := by decide +kernel
theorem dX6_water_85 : decode cX6_water 85 = .ok (.iload 5, 2) := by decide +kernel
theorem dX6_water_87 : decode cX6_water 87 = .ok (.i2l, 1) := by decide +kernel
theorem dX6_water_88 : decode cX6_water 88 = .ok (.lmul, 1) := by decide +kernel
theorem dX6_water_89 : decode cX6_water 89 = .ok (.iload 5, 2) := by decide +kernel
theorem dX6_water_91 : decode cX6_water 91 = .ok (.i2l, 1) := by decide +kernel
theorem dX6_water_92 : decode cX6_water 92 = .ok (.lmul, 1) := by decide +kernel
theorem dX6_water_93 : decode cX6_water 93 = .ok (.ladd, 1) := by decide +kernel
theorem dX6_water_94 : decode cX6_water 94 = .ok (.lstore_n 2, 1) := by decide +kernel
theorem dX6_water_95 : decode cX6_water 95 = .ok (.iinc 4 1, 3) := by decide +kernel
theorem dX6_water_98 : decode cX6_water 98 = .ok (.goto (-47), 3) := by decide +kernel
theorem dX6_water_101 : decode cX6_water 101 = .ok (.iconst 0, 1) := by decide +kernel
theorem dX6_water_102 : decode cX6_water 102 = .ok (.istore 4, 2) := by decide +kernel
theorem dX6_water_104 : decode cX6_water 104 = .ok (.iload 4, 2) := by decide +kernel
theorem dX6_water_106 : decode cX6_water 106 = .ok (.bipush 20, 2) := by decide +kernel
theorem dX6_water_108 : decode cX6_water 108 = .ok (.if_icmp .ge 24, 3) := by decide +kernel
theorem dX6_water_111 : decode cX6_water 111 = .ok (.iload_n 1, 1) := by decide +kernel
theorem dX6_water_112 : decode cX6_water 112 = .ok (.iconst 2, 1) := by decide +kernel
theorem dX6_water_113 : decode cX6_water 113 = .ok (.if_icmp .ne 19, 3) := by decide +kernel
theorem dX6_water_116 : decode cX6_water 116 = .ok (.lload_n 2, 1) := by decide +kernel
theorem dX6_water_117 : decode cX6_water 117 = .ok (.aload_n 0, 1) := by decide +kernel
theorem dX6_water_118 : decode cX6_water 118 = .ok (.getfield 34, 3) := by decide +kernel
theorem dX6_water_121 : decode cX6_water 121 = .ok (.iload 4, 2) := by decide +kernel
theorem dX6_water_123 : decode cX6_water 123 = .ok (.laload, 1) := by decide +kernel
theorem dX6_water_124 : decode cX6_water 124 = .ok (.ladd, 1) := by decide +kernel
theorem dX6_water_125 : decode cX6_water 125 = .ok (.lstore_n 2, 1) := by decide +kernel
theorem dX6_water_126 : decode cX6_water 126 = .ok (.iinc 4 1, 3) := by decide +kernel
theorem dX6_water_129 : decode cX6_water 129 = .ok (.goto (-25), 3) := by decide +kernel
theorem dX6_water_132 : decode cX6_water 132 = .ok (.lload_n 2, 1) := by decide +kernel
theorem dX6_water_133 : decode cX6_water 133 = .ok (.lreturn, 1) := by decide +kernel
theorem dJ9_abs_067f4_0 : decode cJ9_abs_067f4 0 = .ok (.lload_n 0, 1) := by decide +kernel
theorem dJ9_abs_067f4_1 : decode cJ9_abs_067f4 1 = .ok (.lconst 0, 1) := by decide +kernel
theorem dJ9_abs_067f4_2 : decode cJ9_abs_067f4 2 = .ok (.lcmp, 1) := by decide +kernel
theorem dJ9_abs_067f4_3 : decode cJ9_abs_067f4 3 = .ok (.ifCond .ge 8, 3) := by decide +kernel
theorem dJ9_abs_067f4_6 : decode cJ9_abs_067f4 6 = .ok (.lload_n 0, 1) := by decide +kernel
theorem dJ9_abs_067f4_7 : decode cJ9_abs_067f4 7 = .ok (.lneg, 1) := by decide +kernel
theorem dJ9_abs_067f4_8 : decode cJ9_abs_067f4 8 = .ok (.goto 4, 3) := by decide +kernel
theorem dJ9_abs_067f4_11 : decode cJ9_abs_067f4 11 = .ok (.lload_n 0, 1) := by decide +kernel
theorem dJ9_abs_067f4_12 : decode cJ9_abs_067f4 12 = .ok (.lreturn, 1) := by decide +kernel
theorem dL_drops_0 : decode cL_drops 0 = .ok (.aload 5, 2) := by decide +kernel
theorem dL_drops_2 : decode cL_drops 2 = .ok (.iconst 0, 1) := by decide +kernel
theorem dL_drops_3 : decode cL_drops 3 = .ok (.aload_n 0, 1) := by decide +kernel
theorem dL_drops_4 : decode cL_drops 4 = .ok (.iload_n 1, 1) := by decide +kernel
theorem dL_drops_5 : decode cL_drops 5 = .ok (.iload_n 2, 1) := by decide +kernel
theorem dL_drops_6 : decode cL_drops 6 = .ok (.iload_n 3, 1) := by decide +kernel
theorem dL_drops_7 : decode cL_drops 7 = .ok (.iload 4, 2) := by decide +kernel
theorem dL_drops_9 : decode cL_drops 9 = .ok (.invokevirtual 7, 3) := by decide +kernel
theorem dL_drops_12 : decode cL_drops 12 = .ok (.i2l, 1) := by decide +kernel
theorem dL_drops_13 : decode cL_drops 13 = .ok (.lastore, 1) := by decide +kernel
theorem dL_drops_14 : decode cL_drops 14 = .ok (.goto 15, 3) := by decide +kernel
theorem dL_drops_17 : decode cL_drops 17 = .ok (.astore 6, 2) := by decide +kernel
theorem dL_drops_19 : decode cL_drops 19 = .ok (.iconst 1, 1) := by decide +kernel
theorem dL_drops_20 : decode cL_drops 20 = .ok (.ireturn, 1) := by decide +kernel
theorem dL_drops_21 : decode cL_drops 21 = .ok (.astore 6, 2) := by decide +kernel
theorem dL_drops_23 : decode cL_drops 23 = .ok (.iconst 2, 1) := by decide +kernel
theorem dL_drops_24 : decode cL_drops 24 = .ok (.ireturn, 1) := by decide +kernel
theorem dL_drops_25 : decode cL_drops 25 = .ok (.astore 6, 2) := by decide +kernel
theorem dL_drops_27 : decode cL_drops 27 = .ok (.iconst 3, 1) := by decide +kernel
theorem dL_drops_28 : decode cL_drops 28 = .ok (.ireturn, 1) := by decide +kernel
theorem dL_drops_29 : decode cL_drops 29 = .ok (.iconst 0, 1) := by decide +kernel
theorem dL_drops_30 : decode cL_drops 30 = .ok (.ireturn, 1) := by decide +kernel
theorem dL_melt_0 : decode cL_melt 0 = .ok (.aload_n 2, 1) := by decide +kernel
theorem dL_melt_1 : decode cL_melt 1 = .ok (.iconst 0, 1) := by decide +kernel
theorem dL_melt_2 : decode cL_melt 2 = .ok (.aload_n 0, 1) := by decide +kernel
theorem dL_melt_3 : decode cL_melt 3 = .ok (.iload_n 1, 1) := by decide +kernel
theorem dL_melt_4 : decode cL_melt 4 = .ok (.invokevirtual 19, 3) := by decide +kernel
theorem dL_melt_7 : decode cL_melt 7 = .ok (.i2l, 1) := by decide +kernel
theorem dL_melt_8 : decode cL_melt 8 = .ok (.lastore, 1) := by decide +kernel
theorem dL_melt_9 : decode cL_melt 9 = .ok (.goto 6, 3) := by decide +kernel
theorem dL_melt_12 : decode cL_melt 12 = .ok (.astore_n 3, 1) := by decide +kernel
theorem dL_melt_13 : decode cL_melt 13 = .ok (.iconst 1, 1) := by decide +kernel
theorem dL_melt_14 : decode cL_melt 14 = .ok (.ireturn, 1) := by decide +kernel
theorem dL_melt_15 : decode cL_melt 15 = .ok (.iconst 0, 1) := by decide +kernel
theorem dL_melt_16 : decode cL_melt 16 = .ok (.ireturn, 1) := by decide +kernel
theorem dL_hill_0 : decode cL_hill 0 = .ok (.aload_n 3, 1) := by decide +kernel
theorem dL_hill_1 : decode cL_hill 1 = .ok (.iconst 0, 1) := by decide +kernel
theorem dL_hill_2 : decode cL_hill 2 = .ok (.aload_n 0, 1) := by decide +kernel
theorem dL_hill_3 : decode cL_hill 3 = .ok (.iload_n 1, 1) := by decide +kernel
theorem dL_hill_4 : decode cL_hill 4 = .ok (.iload_n 2, 1) := by decide +kernel
theorem dL_hill_5 : decode cL_hill 5 = .ok (.invokevirtual 23, 3) := by decide +kernel
theorem dL_hill_8 : decode cL_hill 8 = .ok (.i2l, 1) := by decide +kernel
theorem dL_hill_9 : decode cL_hill 9 = .ok (.lastore, 1) := by decide +kernel
theorem dL_hill_10 : decode cL_hill 10 = .ok (.goto 11, 3) := by decide +kernel
theorem dL_hill_13 : decode cL_hill 13 = .ok (.astore 4, 2) := by decide +kernel
theorem dL_hill_15 : decode cL_hill 15 = .ok (.iconst 1, 1) := by decide +kernel
theorem dL_hill_16 : decode cL_hill 16 = .ok (.ireturn, 1) := by decide +kernel
theorem dL_hill_17 : decode cL_hill 17 = .ok (.astore 4, 2) := by decide +kernel
theorem dL_hill_19 : decode cL_hill 19 = .ok (.iconst 2, 1) := by decide +kernel
theorem dL_hill_20 : decode cL_hill 20 = .ok (.ireturn, 1) := by decide +kernel
theorem dL_hill_21 : decode cL_hill 21 = .ok (.iconst 0, 1) := by decide +kernel
theorem dL_hill_22 : decode cL_hill 22 = .ok (.ireturn, 1) := by decide +kernel
theorem dL_drift_0 : decode cL_drift 0 = .ok (.aload_n 3, 1) := by decide +kernel
theorem dL_drift_1 : decode cL_drift 1 = .ok (.iconst 0, 1) := by decide +kernel
theorem dL_drift_2 : decode cL_drift 2 = .ok (.aload_n 0, 1) := by decide +kernel
theorem dL_drift_3 : decode cL_drift 3 = .ok (.iload_n 1, 1) := by decide +kernel
theorem dL_drift_4 : decode cL_drift 4 = .ok (.iload_n 2, 1) := by decide +kernel
theorem dL_drift_5 : decode cL_drift 5 = .ok (.invokevirtual 27, 3) := by decide +kernel
theorem dL_drift_8 : decode cL_drift 8 = .ok (.i2l, 1) := by decide +kernel
theorem dL_drift_9 : decode cL_drift 9 = .ok (.lastore, 1) := by decide +kernel
theorem dL_drift_10 : decode cL_drift 10 = .ok (.goto 7, 3) := by decide +kernel
theorem dL_drift_13 : decode cL_drift 13 = .ok (.astore 4, 2) := by decide +kernel
theorem dL_drift_15 : decode cL_drift 15 = .ok (.iconst 1, 1) := by decide +kernel
theorem dL_drift_16 : decode cL_drift 16 = .ok (.ireturn, 1) := by decide +kernel
theorem dL_drift_17 : decode cL_drift 17 = .ok (.iconst 0, 1) := by decide +kernel
theorem dL_drift_18 : decode cL_drift 18 = .ok (.ireturn, 1) := by decide +kernel
theorem dL_gauge_0 : decode cL_gauge 0 = .ok (.aload_n 3, 1) := by decide +kernel
theorem dL_gauge_1 : decode cL_gauge 1 = .ok (.iconst 0, 1) := by decide +kernel
theorem dL_gauge_2 : decode cL_gauge 2 = .ok (.aload_n 0, 1) := by decide +kernel
theorem dL_gauge_3 : decode cL_gauge 3 = .ok (.iload_n 1, 1) := by decide +kernel
theorem dL_gauge_4 : decode cL_gauge 4 = .ok (.iload_n 2, 1) := by decide +kernel
theorem dL_gauge_5 : decode cL_gauge 5 = .ok (.invokevirtual 31, 3) := by decide +kernel
theorem dL_gauge_8 : decode cL_gauge 8 = .ok (.ifCond .eq 7, 3) := by decide +kernel
theorem dL_gauge_11 : decode cL_gauge 11 = .ok (.lconst 1, 1) := by decide +kernel
theorem dL_gauge_12 : decode cL_gauge 12 = .ok (.goto 4, 3) := by decide +kernel
theorem dL_gauge_15 : decode cL_gauge 15 = .ok (.lconst 0, 1) := by decide +kernel
theorem dL_gauge_16 : decode cL_gauge 16 = .ok (.lastore, 1) := by decide +kernel
theorem dL_gauge_17 : decode cL_gauge 17 = .ok (.goto 7, 3) := by decide +kernel
theorem dL_gauge_20 : decode cL_gauge 20 = .ok (.astore 4, 2) := by decide +kernel
theorem dL_gauge_22 : decode cL_gauge 22 = .ok (.iconst 1, 1) := by decide +kernel
theorem dL_gauge_23 : decode cL_gauge 23 = .ok (.ireturn, 1) := by decide +kernel
theorem dL_gauge_24 : decode cL_gauge 24 = .ok (.iconst 0, 1) := by decide +kernel
theorem dL_gauge_25 : decode cL_gauge 25 = .ok (.ireturn, 1) := by decide +kernel
theorem dL_clog_0 : decode cL_clog 0 = .ok (.aload_n 3, 1) := by decide +kernel
theorem dL_clog_1 : decode cL_clog 1 = .ok (.iconst 0, 1) := by decide +kernel
theorem dL_clog_2 : decode cL_clog 2 = .ok (.aload_n 0, 1) := by decide +kernel
theorem dL_clog_3 : decode cL_clog 3 = .ok (.iload_n 1, 1) := by decide +kernel
theorem dL_clog_4 : decode cL_clog 4 = .ok (.iload_n 2, 1) := by decide +kernel
theorem dL_clog_5 : decode cL_clog 5 = .ok (.invokevirtual 35, 3) := by decide +kernel
theorem dL_clog_8 : decode cL_clog 8 = .ok (.ifCond .eq 7, 3) := by decide +kernel
theorem dL_clog_11 : decode cL_clog 11 = .ok (.lconst 1, 1) := by decide +kernel
theorem dL_clog_12 : decode cL_clog 12 = .ok (.goto 4, 3) := by decide +kernel
theorem dL_clog_15 : decode cL_clog 15 = .ok (.lconst 0, 1) := by decide +kernel
theorem dL_clog_16 : decode cL_clog 16 = .ok (.lastore, 1) := by decide +kernel
theorem dL_clog_17 : decode cL_clog 17 = .ok (.goto 7, 3) := by decide +kernel
theorem dL_clog_20 : decode cL_clog 20 = .ok (.astore 4, 2) := by decide +kernel
theorem dL_clog_22 : decode cL_clog 22 = .ok (.iconst 1, 1) := by decide +kernel
theorem dL_clog_23 : decode cL_clog 23 = .ok (.ireturn, 1) := by decide +kernel
theorem dL_clog_24 : decode cL_clog 24 = .ok (.iconst 0, 1) := by decide +kernel
theorem dL_clog_25 : decode cL_clog 25 = .ok (.ireturn, 1) := by decide +kernel
theorem dL_pass_0 : decode cL_pass 0 = .ok (.aload_n 2, 1) := by decide +kernel
theorem dL_pass_1 : decode cL_pass 1 = .ok (.iconst 0, 1) := by decide +kernel
theorem dL_pass_2 : decode cL_pass 2 = .ok (.aload_n 0, 1) := by decide +kernel
theorem dL_pass_3 : decode cL_pass 3 = .ok (.iload_n 1, 1) := by decide +kernel
theorem dL_pass_4 : decode cL_pass 4 = .ok (.invokevirtual 38, 3) := by decide +kernel
theorem dL_pass_7 : decode cL_pass 7 = .ok (.i2l, 1) := by decide +kernel
theorem dL_pass_8 : decode cL_pass 8 = .ok (.lastore, 1) := by decide +kernel
theorem dL_pass_9 : decode cL_pass 9 = .ok (.goto 9, 3) := by decide +kernel
theorem dL_pass_12 : decode cL_pass 12 = .ok (.astore_n 3, 1) := by decide +kernel
theorem dL_pass_13 : decode cL_pass 13 = .ok (.iconst 1, 1) := by decide +kernel
theorem dL_pass_14 : decode cL_pass 14 = .ok (.ireturn, 1) := by decide +kernel
theorem dL_pass_15 : decode cL_pass 15 = .ok (.astore_n 3, 1) := by decide +kernel
theorem dL_pass_16 : decode cL_pass 16 = .ok (.iconst 2, 1) := by decide +kernel
theorem dL_pass_17 : decode cL_pass 17 = .ok (.ireturn, 1) := by decide +kernel
theorem dL_pass_18 : decode cL_pass 18 = .ok (.iconst 0, 1) := by decide +kernel
theorem dL_pass_19 : decode cL_pass 19 = .ok (.ireturn, 1) := by decide +kernel
theorem dL_scan_0 : decode cL_scan 0 = .ok (.aload_n 2, 1) := by decide +kernel
theorem dL_scan_1 : decode cL_scan 1 = .ok (.iconst 0, 1) := by decide +kernel
theorem dL_scan_2 : decode cL_scan 2 = .ok (.aload_n 0, 1) := by decide +kernel
theorem dL_scan_3 : decode cL_scan 3 = .ok (.iload_n 1, 1) := by decide +kernel
theorem dL_scan_4 : decode cL_scan 4 = .ok (.invokevirtual 41, 3) := by decide +kernel
theorem dL_scan_7 : decode cL_scan 7 = .ok (.i2l, 1) := by decide +kernel
theorem dL_scan_8 : decode cL_scan 8 = .ok (.lastore, 1) := by decide +kernel
theorem dL_scan_9 : decode cL_scan 9 = .ok (.goto 9, 3) := by decide +kernel
theorem dL_scan_12 : decode cL_scan 12 = .ok (.astore_n 3, 1) := by decide +kernel
theorem dL_scan_13 : decode cL_scan 13 = .ok (.iconst 1, 1) := by decide +kernel
theorem dL_scan_14 : decode cL_scan 14 = .ok (.ireturn, 1) := by decide +kernel
theorem dL_scan_15 : decode cL_scan 15 = .ok (.astore_n 3, 1) := by decide +kernel
theorem dL_scan_16 : decode cL_scan 16 = .ok (.iconst 2, 1) := by decide +kernel
theorem dL_scan_17 : decode cL_scan 17 = .ok (.ireturn, 1) := by decide +kernel
theorem dL_scan_18 : decode cL_scan 18 = .ok (.iconst 0, 1) := by decide +kernel
theorem dL_scan_19 : decode cL_scan 19 = .ok (.ireturn, 1) := by decide +kernel
theorem dL_rule_0 : decode cL_rule 0 = .ok (.aload_n 2, 1) := by decide +kernel
theorem dL_rule_1 : decode cL_rule 1 = .ok (.iconst 0, 1) := by decide +kernel
theorem dL_rule_2 : decode cL_rule 2 = .ok (.aload_n 0, 1) := by decide +kernel
theorem dL_rule_3 : decode cL_rule 3 = .ok (.iload_n 1, 1) := by decide +kernel
theorem dL_rule_4 : decode cL_rule 4 = .ok (.invokevirtual 44, 3) := by decide +kernel
theorem dL_rule_7 : decode cL_rule 7 = .ok (.i2l, 1) := by decide +kernel
theorem dL_rule_8 : decode cL_rule 8 = .ok (.lastore, 1) := by decide +kernel
theorem dL_rule_9 : decode cL_rule 9 = .ok (.goto 6, 3) := by decide +kernel
theorem dL_rule_12 : decode cL_rule 12 = .ok (.astore_n 3, 1) := by decide +kernel
theorem dL_rule_13 : decode cL_rule 13 = .ok (.iconst 1, 1) := by decide +kernel
theorem dL_rule_14 : decode cL_rule 14 = .ok (.ireturn, 1) := by decide +kernel
theorem dL_rule_15 : decode cL_rule 15 = .ok (.iconst 0, 1) := by decide +kernel
theorem dL_rule_16 : decode cL_rule 16 = .ok (.ireturn, 1) := by decide +kernel
theorem dL_count_0 : decode cL_count 0 = .ok (.aload 4, 2) := by decide +kernel
theorem dL_count_2 : decode cL_count 2 = .ok (.iconst 0, 1) := by decide +kernel
theorem dL_count_3 : decode cL_count 3 = .ok (.aload_n 0, 1) := by decide +kernel
theorem dL_count_4 : decode cL_count 4 = .ok (.iload_n 1, 1) := by decide +kernel
theorem dL_count_5 : decode cL_count 5 = .ok (.iload_n 2, 1) := by decide +kernel
theorem dL_count_6 : decode cL_count 6 = .ok (.iload_n 3, 1) := by decide +kernel
theorem dL_count_7 : decode cL_count 7 = .ok (.invokevirtual 47, 3) := by decide +kernel
theorem dL_count_10 : decode cL_count 10 = .ok (.i2l, 1) := by decide +kernel
theorem dL_count_11 : decode cL_count 11 = .ok (.lastore, 1) := by decide +kernel
theorem dL_count_12 : decode cL_count 12 = .ok (.goto 11, 3) := by decide +kernel
theorem dL_count_15 : decode cL_count 15 = .ok (.astore 5, 2) := by decide +kernel
theorem dL_count_17 : decode cL_count 17 = .ok (.iconst 1, 1) := by decide +kernel
theorem dL_count_18 : decode cL_count 18 = .ok (.ireturn, 1) := by decide +kernel
theorem dL_count_19 : decode cL_count 19 = .ok (.astore 5, 2) := by decide +kernel
theorem dL_count_21 : decode cL_count 21 = .ok (.iconst 2, 1) := by decide +kernel
theorem dL_count_22 : decode cL_count 22 = .ok (.ireturn, 1) := by decide +kernel
theorem dL_count_23 : decode cL_count 23 = .ok (.iconst 0, 1) := by decide +kernel
theorem dL_count_24 : decode cL_count 24 = .ok (.ireturn, 1) := by decide +kernel
theorem dL_phase_0 : decode cL_phase 0 = .ok (.aload_n 2, 1) := by decide +kernel
theorem dL_phase_1 : decode cL_phase 1 = .ok (.iconst 0, 1) := by decide +kernel
theorem dL_phase_2 : decode cL_phase 2 = .ok (.aload_n 0, 1) := by decide +kernel
theorem dL_phase_3 : decode cL_phase 3 = .ok (.iload_n 1, 1) := by decide +kernel
theorem dL_phase_4 : decode cL_phase 4 = .ok (.invokevirtual 51, 3) := by decide +kernel
theorem dL_phase_7 : decode cL_phase 7 = .ok (.i2l, 1) := by decide +kernel
theorem dL_phase_8 : decode cL_phase 8 = .ok (.lastore, 1) := by decide +kernel
theorem dL_phase_9 : decode cL_phase 9 = .ok (.goto 6, 3) := by decide +kernel
theorem dL_phase_12 : decode cL_phase 12 = .ok (.astore_n 3, 1) := by decide +kernel
theorem dL_phase_13 : decode cL_phase 13 = .ok (.iconst 1, 1) := by decide +kernel
theorem dL_phase_14 : decode cL_phase 14 = .ok (.ireturn, 1) := by decide +kernel
theorem dL_phase_15 : decode cL_phase 15 = .ok (.iconst 0, 1) := by decide +kernel
theorem dL_phase_16 : decode cL_phase 16 = .ok (.ireturn, 1) := by decide +kernel
theorem dL_echo_0 : decode cL_echo 0 = .ok (.aload_n 3, 1) := by decide +kernel
theorem dL_echo_1 : decode cL_echo 1 = .ok (.iconst 0, 1) := by decide +kernel
theorem dL_echo_2 : decode cL_echo 2 = .ok (.aload_n 0, 1) := by decide +kernel
theorem dL_echo_3 : decode cL_echo 3 = .ok (.iload_n 1, 1) := by decide +kernel
theorem dL_echo_4 : decode cL_echo 4 = .ok (.iload_n 2, 1) := by decide +kernel
theorem dL_echo_5 : decode cL_echo 5 = .ok (.invokevirtual 54, 3) := by decide +kernel
theorem dL_echo_8 : decode cL_echo 8 = .ok (.lastore, 1) := by decide +kernel
theorem dL_echo_9 : decode cL_echo 9 = .ok (.goto 11, 3) := by decide +kernel
theorem dL_echo_12 : decode cL_echo 12 = .ok (.astore 4, 2) := by decide +kernel
theorem dL_echo_14 : decode cL_echo 14 = .ok (.iconst 1, 1) := by decide +kernel
theorem dL_echo_15 : decode cL_echo 15 = .ok (.ireturn, 1) := by decide +kernel
theorem dL_echo_16 : decode cL_echo 16 = .ok (.astore 4, 2) := by decide +kernel
theorem dL_echo_18 : decode cL_echo 18 = .ok (.iconst 2, 1) := by decide +kernel
theorem dL_echo_19 : decode cL_echo 19 = .ok (.ireturn, 1) := by decide +kernel
theorem dL_echo_20 : decode cL_echo 20 = .ok (.iconst 0, 1) := by decide +kernel
theorem dL_echo_21 : decode cL_echo 21 = .ok (.ireturn, 1) := by decide +kernel
theorem dL_seen_0 : decode cL_seen 0 = .ok (.aload_n 3, 1) := by decide +kernel
theorem dL_seen_1 : decode cL_seen 1 = .ok (.iconst 0, 1) := by decide +kernel
theorem dL_seen_2 : decode cL_seen 2 = .ok (.aload_n 0, 1) := by decide +kernel
theorem dL_seen_3 : decode cL_seen 3 = .ok (.iload_n 1, 1) := by decide +kernel
theorem dL_seen_4 : decode cL_seen 4 = .ok (.iload_n 2, 1) := by decide +kernel
theorem dL_seen_5 : decode cL_seen 5 = .ok (.invokevirtual 58, 3) := by decide +kernel
theorem dL_seen_8 : decode cL_seen 8 = .ok (.lastore, 1) := by decide +kernel
theorem dL_seen_9 : decode cL_seen 9 = .ok (.goto 11, 3) := by decide +kernel
theorem dL_seen_12 : decode cL_seen 12 = .ok (.astore 4, 2) := by decide +kernel
theorem dL_seen_14 : decode cL_seen 14 = .ok (.iconst 1, 1) := by decide +kernel
theorem dL_seen_15 : decode cL_seen 15 = .ok (.ireturn, 1) := by decide +kernel
theorem dL_seen_16 : decode cL_seen 16 = .ok (.astore 4, 2) := by decide +kernel
theorem dL_seen_18 : decode cL_seen 18 = .ok (.iconst 2, 1) := by decide +kernel
theorem dL_seen_19 : decode cL_seen 19 = .ok (.ireturn, 1) := by decide +kernel
theorem dL_seen_20 : decode cL_seen 20 = .ok (.iconst 0, 1) := by decide +kernel
theorem dL_seen_21 : decode cL_seen 21 = .ok (.ireturn, 1) := by decide +kernel
theorem dL_rain_0 : decode cL_rain 0 = .ok (.aload_n 2, 1) := by decide +kernel
theorem dL_rain_1 : decode cL_rain 1 = .ok (.iconst 0, 1) := by decide +kernel
theorem dL_rain_2 : decode cL_rain 2 = .ok (.aload_n 0, 1) := by decide +kernel
theorem dL_rain_3 : decode cL_rain 3 = .ok (.iload_n 1, 1) := by decide +kernel
theorem dL_rain_4 : decode cL_rain 4 = .ok (.invokevirtual 61, 3) := by decide +kernel
theorem dL_rain_7 : decode cL_rain 7 = .ok (.lastore, 1) := by decide +kernel
theorem dL_rain_8 : decode cL_rain 8 = .ok (.goto 6, 3) := by decide +kernel
theorem dL_rain_11 : decode cL_rain 11 = .ok (.astore_n 3, 1) := by decide +kernel
theorem dL_rain_12 : decode cL_rain 12 = .ok (.iconst 1, 1) := by decide +kernel
theorem dL_rain_13 : decode cL_rain 13 = .ok (.ireturn, 1) := by decide +kernel
theorem dL_rain_14 : decode cL_rain 14 = .ok (.iconst 0, 1) := by decide +kernel
theorem dL_rain_15 : decode cL_rain 15 = .ok (.ireturn, 1) := by decide +kernel
theorem dL_rainBy_0 : decode cL_rainBy 0 = .ok (.aload_n 3, 1) := by decide +kernel
theorem dL_rainBy_1 : decode cL_rainBy 1 = .ok (.iconst 0, 1) := by decide +kernel
theorem dL_rainBy_2 : decode cL_rainBy 2 = .ok (.aload_n 0, 1) := by decide +kernel
theorem dL_rainBy_3 : decode cL_rainBy 3 = .ok (.iload_n 1, 1) := by decide +kernel
theorem dL_rainBy_4 : decode cL_rainBy 4 = .ok (.iload_n 2, 1) := by decide +kernel
theorem dL_rainBy_5 : decode cL_rainBy 5 = .ok (.invokevirtual 65, 3) := by decide +kernel
theorem dL_rainBy_8 : decode cL_rainBy 8 = .ok (.lastore, 1) := by decide +kernel
theorem dL_rainBy_9 : decode cL_rainBy 9 = .ok (.goto 11, 3) := by decide +kernel
theorem dL_rainBy_12 : decode cL_rainBy 12 = .ok (.astore 4, 2) := by decide +kernel
theorem dL_rainBy_14 : decode cL_rainBy 14 = .ok (.iconst 1, 1) := by decide +kernel
theorem dL_rainBy_15 : decode cL_rainBy 15 = .ok (.ireturn, 1) := by decide +kernel
theorem dL_rainBy_16 : decode cL_rainBy 16 = .ok (.astore 4, 2) := by decide +kernel
theorem dL_rainBy_18 : decode cL_rainBy 18 = .ok (.iconst 2, 1) := by decide +kernel
theorem dL_rainBy_19 : decode cL_rainBy 19 = .ok (.ireturn, 1) := by decide +kernel
theorem dL_rainBy_20 : decode cL_rainBy 20 = .ok (.iconst 0, 1) := by decide +kernel
theorem dL_rainBy_21 : decode cL_rainBy 21 = .ok (.ireturn, 1) := by decide +kernel
theorem dL_motion_0 : decode cL_motion 0 = .ok (.aload_n 1, 1) := by decide +kernel
theorem dL_motion_1 : decode cL_motion 1 = .ok (.iconst 0, 1) := by decide +kernel
theorem dL_motion_2 : decode cL_motion 2 = .ok (.aload_n 0, 1) := by decide +kernel
theorem dL_motion_3 : decode cL_motion 3 = .ok (.invokevirtual 68, 3) := by decide +kernel
theorem dL_motion_6 : decode cL_motion 6 = .ok (.i2l, 1) := by decide +kernel
theorem dL_motion_7 : decode cL_motion 7 = .ok (.lastore, 1) := by decide +kernel
theorem dL_motion_8 : decode cL_motion 8 = .ok (.goto 6, 3) := by decide +kernel
theorem dL_motion_11 : decode cL_motion 11 = .ok (.astore_n 2, 1) := by decide +kernel
theorem dL_motion_12 : decode cL_motion 12 = .ok (.iconst 1, 1) := by decide +kernel
theorem dL_motion_13 : decode cL_motion 13 = .ok (.ireturn, 1) := by decide +kernel
theorem dL_motion_14 : decode cL_motion 14 = .ok (.iconst 0, 1) := by decide +kernel
theorem dL_motion_15 : decode cL_motion 15 = .ok (.ireturn, 1) := by decide +kernel
theorem dL_collected_0 : decode cL_collected 0 = .ok (.aload_n 2, 1) := by decide +kernel
theorem dL_collected_1 : decode cL_collected 1 = .ok (.iconst 0, 1) := by decide +kernel
theorem dL_collected_2 : decode cL_collected 2 = .ok (.aload_n 0, 1) := by decide +kernel
theorem dL_collected_3 : decode cL_collected 3 = .ok (.iload_n 1, 1) := by decide +kernel
theorem dL_collected_4 : decode cL_collected 4 = .ok (.invokevirtual 72, 3) := by decide +kernel
theorem dL_collected_7 : decode cL_collected 7 = .ok (.lastore, 1) := by decide +kernel
theorem dL_collected_8 : decode cL_collected 8 = .ok (.goto 6, 3) := by decide +kernel
theorem dL_collected_11 : decode cL_collected 11 = .ok (.astore_n 3, 1) := by decide +kernel
theorem dL_collected_12 : decode cL_collected 12 = .ok (.iconst 1, 1) := by decide +kernel
theorem dL_collected_13 : decode cL_collected 13 = .ok (.ireturn, 1) := by decide +kernel
theorem dL_collected_14 : decode cL_collected 14 = .ok (.iconst 0, 1) := by decide +kernel
theorem dL_collected_15 : decode cL_collected 15 = .ok (.ireturn, 1) := by decide +kernel
theorem dL_ground_0 : decode cL_ground 0 = .ok (.aload_n 2, 1) := by decide +kernel
theorem dL_ground_1 : decode cL_ground 1 = .ok (.iconst 0, 1) := by decide +kernel
theorem dL_ground_2 : decode cL_ground 2 = .ok (.aload_n 0, 1) := by decide +kernel
theorem dL_ground_3 : decode cL_ground 3 = .ok (.iload_n 1, 1) := by decide +kernel
theorem dL_ground_4 : decode cL_ground 4 = .ok (.invokevirtual 75, 3) := by decide +kernel
theorem dL_ground_7 : decode cL_ground 7 = .ok (.lastore, 1) := by decide +kernel
theorem dL_ground_8 : decode cL_ground 8 = .ok (.goto 6, 3) := by decide +kernel
theorem dL_ground_11 : decode cL_ground 11 = .ok (.astore_n 3, 1) := by decide +kernel
theorem dL_ground_12 : decode cL_ground 12 = .ok (.iconst 1, 1) := by decide +kernel
theorem dL_ground_13 : decode cL_ground 13 = .ok (.ireturn, 1) := by decide +kernel
theorem dL_ground_14 : decode cL_ground 14 = .ok (.iconst 0, 1) := by decide +kernel
theorem dL_ground_15 : decode cL_ground 15 = .ok (.ireturn, 1) := by decide +kernel
theorem dL_groundAnew_0 : decode cL_groundAnew 0 = .ok (.aload_n 2, 1) := by decide +kernel
theorem dL_groundAnew_1 : decode cL_groundAnew 1 = .ok (.iconst 0, 1) := by decide +kernel
theorem dL_groundAnew_2 : decode cL_groundAnew 2 = .ok (.aload_n 0, 1) := by decide +kernel
theorem dL_groundAnew_3 : decode cL_groundAnew 3 = .ok (.iload_n 1, 1) := by decide +kernel
theorem dL_groundAnew_4 : decode cL_groundAnew 4 = .ok (.invokevirtual 78, 3) := by decide +kernel
theorem dL_groundAnew_7 : decode cL_groundAnew 7 = .ok (.lastore, 1) := by decide +kernel
theorem dL_groundAnew_8 : decode cL_groundAnew 8 = .ok (.goto 6, 3) := by decide +kernel
theorem dL_groundAnew_11 : decode cL_groundAnew 11 = .ok (.astore_n 3, 1) := by decide +kernel
theorem dL_groundAnew_12 : decode cL_groundAnew 12 = .ok (.iconst 1, 1) := by decide +kernel
theorem dL_groundAnew_13 : decode cL_groundAnew 13 = .ok (.ireturn, 1) := by decide +kernel
theorem dL_groundAnew_14 : decode cL_groundAnew 14 = .ok (.iconst 0, 1) := by decide +kernel
theorem dL_groundAnew_15 : decode cL_groundAnew 15 = .ok (.ireturn, 1) := by decide +kernel
theorem dL_water_0 : decode cL_water 0 = .ok (.aload_n 2, 1) := by decide +kernel
theorem dL_water_1 : decode cL_water 1 = .ok (.iconst 0, 1) := by decide +kernel
theorem dL_water_2 : decode cL_water 2 = .ok (.aload_n 0, 1) := by decide +kernel
theorem dL_water_3 : decode cL_water 3 = .ok (.iload_n 1, 1) := by decide +kernel
theorem dL_water_4 : decode cL_water 4 = .ok (.invokevirtual 81, 3) := by decide +kernel
theorem dL_water_7 : decode cL_water 7 = .ok (.lastore, 1) := by decide +kernel
theorem dL_water_8 : decode cL_water 8 = .ok (.goto 6, 3) := by decide +kernel
theorem dL_water_11 : decode cL_water 11 = .ok (.astore_n 3, 1) := by decide +kernel
theorem dL_water_12 : decode cL_water 12 = .ok (.iconst 1, 1) := by decide +kernel
theorem dL_water_13 : decode cL_water 13 = .ok (.ireturn, 1) := by decide +kernel
theorem dL_water_14 : decode cL_water 14 = .ok (.iconst 0, 1) := by decide +kernel
theorem dL_water_15 : decode cL_water 15 = .ok (.ireturn, 1) := by decide +kernel
theorem dL_law_0 : decode cL_law 0 = .ok (.new 8, 3) := by decide +kernel
theorem dL_law_3 : decode cL_law 3 = .ok (.dup, 1) := by decide +kernel
theorem dL_law_4 : decode cL_law 4 = .ok (.invokespecial 84, 3) := by decide +kernel
theorem dL_law_7 : decode cL_law 7 = .ok (.astore_n 1, 1) := by decide +kernel
theorem dL_law_8 : decode cL_law 8 = .ok (.new 85, 3) := by decide +kernel
theorem dL_law_11 : decode cL_law 11 = .ok (.dup, 1) := by decide +kernel
theorem dL_law_12 : decode cL_law 12 = .ok (.invokespecial 87, 3) := by decide +kernel
theorem dL_law_15 : decode cL_law 15 = .ok (.astore_n 2, 1) := by decide +kernel
theorem dL_law_16 : decode cL_law 16 = .ok (.iconst 1, 1) := by decide +kernel
theorem dL_law_17 : decode cL_law 17 = .ok (.newarray .long, 2) := by decide +kernel
theorem dL_law_19 : decode cL_law 19 = .ok (.astore_n 3, 1) := by decide +kernel
theorem dL_law_20 : decode cL_law 20 = .ok (.iconst 0, 1) := by decide +kernel
theorem dL_law_21 : decode cL_law 21 = .ok (.istore 4, 2) := by decide +kernel
theorem dL_law_23 : decode cL_law 23 = .ok (.iload 4, 2) := by decide +kernel
theorem dL_law_25 : decode cL_law 25 = .ok (.aload_n 0, 1) := by decide +kernel
theorem dL_law_26 : decode cL_law 26 = .ok (.arraylength, 1) := by decide +kernel
theorem dL_law_27 : decode cL_law 27 = .ok (.iconst 5, 1) := by decide +kernel
theorem dL_law_28 : decode cL_law 28 = .ok (.isub, 1) := by decide +kernel
theorem dL_law_29 : decode cL_law 29 = .ok (.if_icmp .gt 1415, 3) := by decide +kernel
theorem dL_law_32 : decode cL_law 32 = .ok (.aload_n 0, 1) := by decide +kernel
theorem dL_law_33 : decode cL_law 33 = .ok (.iload 4, 2) := by decide +kernel
theorem dL_law_35 : decode cL_law 35 = .ok (.iaload, 1) := by decide +kernel
theorem dL_law_36 : decode cL_law 36 = .ok (.bipush 31, 2) := by decide +kernel
theorem dL_law_38 : decode cL_law 38 = .ok (.iand, 1) := by decide +kernel
theorem dL_law_39 : decode cL_law 39 = .ok (.tableswitch 1399 0 19 #[93, 185, 241, 309, 393, 484, 575, 631, 687, 743, 823, 879, 946, 1013, 1068, 1135, 1179, 1234, 1289, 1344], 93) := by decide +kernel
theorem dL_law_132 : decode cL_law 132 = .ok (.aload_n 1, 1) := by decide +kernel
theorem dL_law_133 : decode cL_law 133 = .ok (.aload_n 0, 1) := by decide +kernel
theorem dL_law_134 : decode cL_law 134 = .ok (.iload 4, 2) := by decide +kernel
theorem dL_law_136 : decode cL_law 136 = .ok (.iconst 1, 1) := by decide +kernel
theorem dL_law_137 : decode cL_law 137 = .ok (.iadd, 1) := by decide +kernel
theorem dL_law_138 : decode cL_law 138 = .ok (.iaload, 1) := by decide +kernel
theorem dL_law_139 : decode cL_law 139 = .ok (.aload_n 0, 1) := by decide +kernel
theorem dL_law_140 : decode cL_law 140 = .ok (.iload 4, 2) := by decide +kernel
theorem dL_law_142 : decode cL_law 142 = .ok (.iconst 2, 1) := by decide +kernel
theorem dL_law_143 : decode cL_law 143 = .ok (.iadd, 1) := by decide +kernel
theorem dL_law_144 : decode cL_law 144 = .ok (.iaload, 1) := by decide +kernel
theorem dL_law_145 : decode cL_law 145 = .ok (.aload_n 0, 1) := by decide +kernel
theorem dL_law_146 : decode cL_law 146 = .ok (.iload 4, 2) := by decide +kernel
theorem dL_law_148 : decode cL_law 148 = .ok (.iconst 3, 1) := by decide +kernel
theorem dL_law_149 : decode cL_law 149 = .ok (.iadd, 1) := by decide +kernel
theorem dL_law_150 : decode cL_law 150 = .ok (.iaload, 1) := by decide +kernel
theorem dL_law_151 : decode cL_law 151 = .ok (.aload_n 0, 1) := by decide +kernel
theorem dL_law_152 : decode cL_law 152 = .ok (.iload 4, 2) := by decide +kernel
theorem dL_law_154 : decode cL_law 154 = .ok (.iconst 4, 1) := by decide +kernel
theorem dL_law_155 : decode cL_law 155 = .ok (.iadd, 1) := by decide +kernel
theorem dL_law_156 : decode cL_law 156 = .ok (.iaload, 1) := by decide +kernel
theorem dL_law_157 : decode cL_law 157 = .ok (.aload_n 3, 1) := by decide +kernel
theorem dL_law_158 : decode cL_law 158 = .ok (.invokestatic 88, 3) := by decide +kernel
theorem dL_law_161 : decode cL_law 161 = .ok (.istore 5, 2) := by decide +kernel
theorem dL_law_163 : decode cL_law 163 = .ok (.aload_n 2, 1) := by decide +kernel
theorem dL_law_164 : decode cL_law 164 = .ok (.aload_n 0, 1) := by decide +kernel
theorem dL_law_165 : decode cL_law 165 = .ok (.iload 4, 2) := by decide +kernel
theorem dL_law_167 : decode cL_law 167 = .ok (.iconst 1, 1) := by decide +kernel
theorem dL_law_168 : decode cL_law 168 = .ok (.iadd, 1) := by decide +kernel
theorem dL_law_169 : decode cL_law 169 = .ok (.iaload, 1) := by decide +kernel
theorem dL_law_170 : decode cL_law 170 = .ok (.aload_n 0, 1) := by decide +kernel
theorem dL_law_171 : decode cL_law 171 = .ok (.iload 4, 2) := by decide +kernel
theorem dL_law_173 : decode cL_law 173 = .ok (.iconst 2, 1) := by decide +kernel
theorem dL_law_174 : decode cL_law 174 = .ok (.iadd, 1) := by decide +kernel
theorem dL_law_175 : decode cL_law 175 = .ok (.iaload, 1) := by decide +kernel
theorem dL_law_176 : decode cL_law 176 = .ok (.aload_n 0, 1) := by decide +kernel
theorem dL_law_177 : decode cL_law 177 = .ok (.iload 4, 2) := by decide +kernel
theorem dL_law_179 : decode cL_law 179 = .ok (.iconst 3, 1) := by decide +kernel
theorem dL_law_180 : decode cL_law 180 = .ok (.iadd, 1) := by decide +kernel
theorem dL_law_181 : decode cL_law 181 = .ok (.iaload, 1) := by decide +kernel
theorem dL_law_182 : decode cL_law 182 = .ok (.aload_n 0, 1) := by decide +kernel
theorem dL_law_183 : decode cL_law 183 = .ok (.iload 4, 2) := by decide +kernel
theorem dL_law_185 : decode cL_law 185 = .ok (.iconst 4, 1) := by decide +kernel
theorem dL_law_186 : decode cL_law 186 = .ok (.iadd, 1) := by decide +kernel
theorem dL_law_187 : decode cL_law 187 = .ok (.iaload, 1) := by decide +kernel
theorem dL_law_188 : decode cL_law 188 = .ok (.invokevirtual 93, 3) := by decide +kernel
theorem dL_law_191 : decode cL_law 191 = .ok (.istore 6, 2) := by decide +kernel
theorem dL_law_193 : decode cL_law 193 = .ok (.aload_n 2, 1) := by decide +kernel
theorem dL_law_194 : decode cL_law 194 = .ok (.invokevirtual 94, 3) := by decide +kernel
theorem dL_law_197 : decode cL_law 197 = .ok (.iload 5, 2) := by decide +kernel
theorem dL_law_199 : decode cL_law 199 = .ok (.if_icmp .eq 5, 3) := by decide +kernel
theorem dL_law_202 : decode cL_law 202 = .ok (.iconst 0, 1) := by decide +kernel
theorem dL_law_203 : decode cL_law 203 = .ok (.ireturn, 1) := by decide +kernel
theorem dL_law_204 : decode cL_law 204 = .ok (.iload 5, 2) := by decide +kernel
theorem dL_law_206 : decode cL_law 206 = .ok (.ifCond .ne 15, 3) := by decide +kernel
theorem dL_law_209 : decode cL_law 209 = .ok (.aload_n 3, 1) := by decide +kernel
theorem dL_law_210 : decode cL_law 210 = .ok (.iconst 0, 1) := by decide +kernel
theorem dL_law_211 : decode cL_law 211 = .ok (.laload, 1) := by decide +kernel
theorem dL_law_212 : decode cL_law 212 = .ok (.iload 6, 2) := by decide +kernel
theorem dL_law_214 : decode cL_law 214 = .ok (.i2l, 1) := by decide +kernel
theorem dL_law_215 : decode cL_law 215 = .ok (.lcmp, 1) := by decide +kernel
theorem dL_law_216 : decode cL_law 216 = .ok (.ifCond .eq 5, 3) := by decide +kernel
theorem dL_law_219 : decode cL_law 219 = .ok (.iconst 0, 1) := by decide +kernel
theorem dL_law_220 : decode cL_law 220 = .ok (.ireturn, 1) := by decide +kernel
theorem dL_law_221 : decode cL_law 221 = .ok (.goto 1217, 3) := by decide +kernel
theorem dL_law_224 : decode cL_law 224 = .ok (.aload_n 1, 1) := by decide +kernel
theorem dL_law_225 : decode cL_law 225 = .ok (.aload_n 0, 1) := by decide +kernel
theorem dL_law_226 : decode cL_law 226 = .ok (.iload 4, 2) := by decide +kernel
theorem dL_law_228 : decode cL_law 228 = .ok (.iconst 1, 1) := by decide +kernel
theorem dL_law_229 : decode cL_law 229 = .ok (.iadd, 1) := by decide +kernel
theorem dL_law_230 : decode cL_law 230 = .ok (.iaload, 1) := by decide +kernel
theorem dL_law_231 : decode cL_law 231 = .ok (.aload_n 3, 1) := by decide +kernel
theorem dL_law_232 : decode cL_law 232 = .ok (.invokestatic 97, 3) := by decide +kernel
theorem dL_law_235 : decode cL_law 235 = .ok (.istore 5, 2) := by decide +kernel
theorem dL_law_237 : decode cL_law 237 = .ok (.aload_n 2, 1) := by decide +kernel
theorem dL_law_238 : decode cL_law 238 = .ok (.aload_n 0, 1) := by decide +kernel
theorem dL_law_239 : decode cL_law 239 = .ok (.iload 4, 2) := by decide +kernel
theorem dL_law_241 : decode cL_law 241 = .ok (.iconst 1, 1) := by decide +kernel
theorem dL_law_242 : decode cL_law 242 = .ok (.iadd, 1) := by decide +kernel
theorem dL_law_243 : decode cL_law 243 = .ok (.iaload, 1) := by decide +kernel
theorem dL_law_244 : decode cL_law 244 = .ok (.invokevirtual 100, 3) := by decide +kernel
theorem dL_law_247 : decode cL_law 247 = .ok (.istore 6, 2) := by decide +kernel
theorem dL_law_249 : decode cL_law 249 = .ok (.aload_n 2, 1) := by decide +kernel
theorem dL_law_250 : decode cL_law 250 = .ok (.invokevirtual 94, 3) := by decide +kernel
theorem dL_law_253 : decode cL_law 253 = .ok (.iload 5, 2) := by decide +kernel
theorem dL_law_255 : decode cL_law 255 = .ok (.if_icmp .eq 5, 3) := by decide +kernel
theorem dL_law_258 : decode cL_law 258 = .ok (.iconst 0, 1) := by decide +kernel
theorem dL_law_259 : decode cL_law 259 = .ok (.ireturn, 1) := by decide +kernel
theorem dL_law_260 : decode cL_law 260 = .ok (.iload 5, 2) := by decide +kernel
theorem dL_law_262 : decode cL_law 262 = .ok (.ifCond .ne 15, 3) := by decide +kernel
theorem dL_law_265 : decode cL_law 265 = .ok (.aload_n 3, 1) := by decide +kernel
theorem dL_law_266 : decode cL_law 266 = .ok (.iconst 0, 1) := by decide +kernel
theorem dL_law_267 : decode cL_law 267 = .ok (.laload, 1) := by decide +kernel
theorem dL_law_268 : decode cL_law 268 = .ok (.iload 6, 2) := by decide +kernel
theorem dL_law_270 : decode cL_law 270 = .ok (.i2l, 1) := by decide +kernel
theorem dL_law_271 : decode cL_law 271 = .ok (.lcmp, 1) := by decide +kernel
theorem dL_law_272 : decode cL_law 272 = .ok (.ifCond .eq 5, 3) := by decide +kernel
theorem dL_law_275 : decode cL_law 275 = .ok (.iconst 0, 1) := by decide +kernel
theorem dL_law_276 : decode cL_law 276 = .ok (.ireturn, 1) := by decide +kernel
theorem dL_law_277 : decode cL_law 277 = .ok (.goto 1161, 3) := by decide +kernel
theorem dL_law_280 : decode cL_law 280 = .ok (.aload_n 1, 1) := by decide +kernel
theorem dL_law_281 : decode cL_law 281 = .ok (.aload_n 0, 1) := by decide +kernel
theorem dL_law_282 : decode cL_law 282 = .ok (.iload 4, 2) := by decide +kernel
theorem dL_law_284 : decode cL_law 284 = .ok (.iconst 1, 1) := by decide +kernel
theorem dL_law_285 : decode cL_law 285 = .ok (.iadd, 1) := by decide +kernel
theorem dL_law_286 : decode cL_law 286 = .ok (.iaload, 1) := by decide +kernel
theorem dL_law_287 : decode cL_law 287 = .ok (.aload_n 0, 1) := by decide +kernel
theorem dL_law_288 : decode cL_law 288 = .ok (.iload 4, 2) := by decide +kernel
theorem dL_law_290 : decode cL_law 290 = .ok (.iconst 2, 1) := by decide +kernel
theorem dL_law_291 : decode cL_law 291 = .ok (.iadd, 1) := by decide +kernel
theorem dL_law_292 : decode cL_law 292 = .ok (.iaload, 1) := by decide +kernel
theorem dL_law_293 : decode cL_law 293 = .ok (.aload_n 3, 1) := by decide +kernel
theorem dL_law_294 : decode cL_law 294 = .ok (.invokestatic 101, 3) := by decide +kernel
theorem dL_law_297 : decode cL_law 297 = .ok (.istore 5, 2) := by decide +kernel
theorem dL_law_299 : decode cL_law 299 = .ok (.aload_n 2, 1) := by decide +kernel
theorem dL_law_300 : decode cL_law 300 = .ok (.aload_n 0, 1) := by decide +kernel
theorem dL_law_301 : decode cL_law 301 = .ok (.iload 4, 2) := by decide +kernel
theorem dL_law_303 : decode cL_law 303 = .ok (.iconst 1, 1) := by decide +kernel
theorem dL_law_304 : decode cL_law 304 = .ok (.iadd, 1) := by decide +kernel
theorem dL_law_305 : decode cL_law 305 = .ok (.iaload, 1) := by decide +kernel
theorem dL_law_306 : decode cL_law 306 = .ok (.aload_n 0, 1) := by decide +kernel
theorem dL_law_307 : decode cL_law 307 = .ok (.iload 4, 2) := by decide +kernel
theorem dL_law_309 : decode cL_law 309 = .ok (.iconst 2, 1) := by decide +kernel
theorem dL_law_310 : decode cL_law 310 = .ok (.iadd, 1) := by decide +kernel
theorem dL_law_311 : decode cL_law 311 = .ok (.iaload, 1) := by decide +kernel
theorem dL_law_312 : decode cL_law 312 = .ok (.invokevirtual 104, 3) := by decide +kernel
theorem dL_law_315 : decode cL_law 315 = .ok (.istore 6, 2) := by decide +kernel
theorem dL_law_317 : decode cL_law 317 = .ok (.aload_n 2, 1) := by decide +kernel
theorem dL_law_318 : decode cL_law 318 = .ok (.invokevirtual 94, 3) := by decide +kernel
theorem dL_law_321 : decode cL_law 321 = .ok (.iload 5, 2) := by decide +kernel
theorem dL_law_323 : decode cL_law 323 = .ok (.if_icmp .eq 5, 3) := by decide +kernel
theorem dL_law_326 : decode cL_law 326 = .ok (.iconst 0, 1) := by decide +kernel
theorem dL_law_327 : decode cL_law 327 = .ok (.ireturn, 1) := by decide +kernel
theorem dL_law_328 : decode cL_law 328 = .ok (.iload 5, 2) := by decide +kernel
theorem dL_law_330 : decode cL_law 330 = .ok (.ifCond .ne 15, 3) := by decide +kernel
theorem dL_law_333 : decode cL_law 333 = .ok (.aload_n 3, 1) := by decide +kernel
theorem dL_law_334 : decode cL_law 334 = .ok (.iconst 0, 1) := by decide +kernel
theorem dL_law_335 : decode cL_law 335 = .ok (.laload, 1) := by decide +kernel
theorem dL_law_336 : decode cL_law 336 = .ok (.iload 6, 2) := by decide +kernel
theorem dL_law_338 : decode cL_law 338 = .ok (.i2l, 1) := by decide +kernel
theorem dL_law_339 : decode cL_law 339 = .ok (.lcmp, 1) := by decide +kernel
theorem dL_law_340 : decode cL_law 340 = .ok (.ifCond .eq 5, 3) := by decide +kernel
theorem dL_law_343 : decode cL_law 343 = .ok (.iconst 0, 1) := by decide +kernel
theorem dL_law_344 : decode cL_law 344 = .ok (.ireturn, 1) := by decide +kernel
theorem dL_law_345 : decode cL_law 345 = .ok (.goto 1093, 3) := by decide +kernel
theorem dL_law_348 : decode cL_law 348 = .ok (.aload_n 1, 1) := by decide +kernel
theorem dL_law_349 : decode cL_law 349 = .ok (.aload_n 0, 1) := by decide +kernel
theorem dL_law_350 : decode cL_law 350 = .ok (.iload 4, 2) := by decide +kernel
theorem dL_law_352 : decode cL_law 352 = .ok (.iconst 1, 1) := by decide +kernel
theorem dL_law_353 : decode cL_law 353 = .ok (.iadd, 1) := by decide +kernel
theorem dL_law_354 : decode cL_law 354 = .ok (.iaload, 1) := by decide +kernel
theorem dL_law_355 : decode cL_law 355 = .ok (.aload_n 0, 1) := by decide +kernel
theorem dL_law_356 : decode cL_law 356 = .ok (.iload 4, 2) := by decide +kernel
theorem dL_law_358 : decode cL_law 358 = .ok (.iconst 2, 1) := by decide +kernel
theorem dL_law_359 : decode cL_law 359 = .ok (.iadd, 1) := by decide +kernel
theorem dL_law_360 : decode cL_law 360 = .ok (.iaload, 1) := by decide +kernel
theorem dL_law_361 : decode cL_law 361 = .ok (.ifCond .eq 7, 3) := by decide +kernel
theorem dL_law_364 : decode cL_law 364 = .ok (.iconst 1, 1) := by decide +kernel
theorem dL_law_365 : decode cL_law 365 = .ok (.goto 4, 3) := by decide +kernel
theorem dL_law_368 : decode cL_law 368 = .ok (.iconst 0, 1) := by decide +kernel
theorem dL_law_369 : decode cL_law 369 = .ok (.aload_n 3, 1) := by decide +kernel
theorem dL_law_370 : decode cL_law 370 = .ok (.invokestatic 105, 3) := by decide +kernel
theorem dL_law_373 : decode cL_law 373 = .ok (.istore 5, 2) := by decide +kernel
theorem dL_law_375 : decode cL_law 375 = .ok (.aload_n 2, 1) := by decide +kernel
theorem dL_law_376 : decode cL_law 376 = .ok (.aload_n 0, 1) := by decide +kernel
theorem dL_law_377 : decode cL_law 377 = .ok (.iload 4, 2) := by decide +kernel
theorem dL_law_379 : decode cL_law 379 = .ok (.iconst 1, 1) := by decide +kernel
theorem dL_law_380 : decode cL_law 380 = .ok (.iadd, 1) := by decide +kernel
theorem dL_law_381 : decode cL_law 381 = .ok (.iaload, 1) := by decide +kernel
theorem dL_law_382 : decode cL_law 382 = .ok (.aload_n 0, 1) := by decide +kernel
theorem dL_law_383 : decode cL_law 383 = .ok (.iload 4, 2) := by decide +kernel
theorem dL_law_385 : decode cL_law 385 = .ok (.iconst 2, 1) := by decide +kernel
theorem dL_law_386 : decode cL_law 386 = .ok (.iadd, 1) := by decide +kernel
theorem dL_law_387 : decode cL_law 387 = .ok (.iaload, 1) := by decide +kernel
theorem dL_law_388 : decode cL_law 388 = .ok (.ifCond .eq 7, 3) := by decide +kernel
theorem dL_law_391 : decode cL_law 391 = .ok (.iconst 1, 1) := by decide +kernel
theorem dL_law_392 : decode cL_law 392 = .ok (.goto 4, 3) := by decide +kernel
theorem dL_law_395 : decode cL_law 395 = .ok (.iconst 0, 1) := by decide +kernel
theorem dL_law_396 : decode cL_law 396 = .ok (.invokevirtual 108, 3) := by decide +kernel
theorem dL_law_399 : decode cL_law 399 = .ok (.istore 6, 2) := by decide +kernel
theorem dL_law_401 : decode cL_law 401 = .ok (.aload_n 2, 1) := by decide +kernel
theorem dL_law_402 : decode cL_law 402 = .ok (.invokevirtual 94, 3) := by decide +kernel
theorem dL_law_405 : decode cL_law 405 = .ok (.iload 5, 2) := by decide +kernel
theorem dL_law_407 : decode cL_law 407 = .ok (.if_icmp .eq 5, 3) := by decide +kernel
theorem dL_law_410 : decode cL_law 410 = .ok (.iconst 0, 1) := by decide +kernel
theorem dL_law_411 : decode cL_law 411 = .ok (.ireturn, 1) := by decide +kernel
theorem dL_law_412 : decode cL_law 412 = .ok (.iload 5, 2) := by decide +kernel
theorem dL_law_414 : decode cL_law 414 = .ok (.ifCond .ne 15, 3) := by decide +kernel
theorem dL_law_417 : decode cL_law 417 = .ok (.aload_n 3, 1) := by decide +kernel
theorem dL_law_418 : decode cL_law 418 = .ok (.iconst 0, 1) := by decide +kernel
theorem dL_law_419 : decode cL_law 419 = .ok (.laload, 1) := by decide +kernel
theorem dL_law_420 : decode cL_law 420 = .ok (.iload 6, 2) := by decide +kernel
theorem dL_law_422 : decode cL_law 422 = .ok (.i2l, 1) := by decide +kernel
theorem dL_law_423 : decode cL_law 423 = .ok (.lcmp, 1) := by decide +kernel
theorem dL_law_424 : decode cL_law 424 = .ok (.ifCond .eq 5, 3) := by decide +kernel
theorem dL_law_427 : decode cL_law 427 = .ok (.iconst 0, 1) := by decide +kernel
theorem dL_law_428 : decode cL_law 428 = .ok (.ireturn, 1) := by decide +kernel
theorem dL_law_429 : decode cL_law 429 = .ok (.goto 1009, 3) := by decide +kernel
theorem dL_law_432 : decode cL_law 432 = .ok (.aload_n 1, 1) := by decide +kernel
theorem dL_law_433 : decode cL_law 433 = .ok (.aload_n 0, 1) := by decide +kernel
theorem dL_law_434 : decode cL_law 434 = .ok (.iload 4, 2) := by decide +kernel
theorem dL_law_436 : decode cL_law 436 = .ok (.iconst 1, 1) := by decide +kernel
theorem dL_law_437 : decode cL_law 437 = .ok (.iadd, 1) := by decide +kernel
theorem dL_law_438 : decode cL_law 438 = .ok (.iaload, 1) := by decide +kernel
theorem dL_law_439 : decode cL_law 439 = .ok (.aload_n 0, 1) := by decide +kernel
theorem dL_law_440 : decode cL_law 440 = .ok (.iload 4, 2) := by decide +kernel
theorem dL_law_442 : decode cL_law 442 = .ok (.iconst 2, 1) := by decide +kernel
theorem dL_law_443 : decode cL_law 443 = .ok (.iadd, 1) := by decide +kernel
theorem dL_law_444 : decode cL_law 444 = .ok (.iaload, 1) := by decide +kernel
theorem dL_law_445 : decode cL_law 445 = .ok (.ifCond .eq 7, 3) := by decide +kernel
theorem dL_law_448 : decode cL_law 448 = .ok (.iconst 1, 1) := by decide +kernel
theorem dL_law_449 : decode cL_law 449 = .ok (.goto 4, 3) := by decide +kernel
theorem dL_law_452 : decode cL_law 452 = .ok (.iconst 0, 1) := by decide +kernel
theorem dL_law_453 : decode cL_law 453 = .ok (.aload_n 3, 1) := by decide +kernel
theorem dL_law_454 : decode cL_law 454 = .ok (.invokestatic 109, 3) := by decide +kernel
theorem dL_law_457 : decode cL_law 457 = .ok (.istore 5, 2) := by decide +kernel
theorem dL_law_459 : decode cL_law 459 = .ok (.aload_n 2, 1) := by decide +kernel
theorem dL_law_460 : decode cL_law 460 = .ok (.aload_n 0, 1) := by decide +kernel
theorem dL_law_461 : decode cL_law 461 = .ok (.iload 4, 2) := by decide +kernel
theorem dL_law_463 : decode cL_law 463 = .ok (.iconst 1, 1) := by decide +kernel
theorem dL_law_464 : decode cL_law 464 = .ok (.iadd, 1) := by decide +kernel
theorem dL_law_465 : decode cL_law 465 = .ok (.iaload, 1) := by decide +kernel
theorem dL_law_466 : decode cL_law 466 = .ok (.aload_n 0, 1) := by decide +kernel
theorem dL_law_467 : decode cL_law 467 = .ok (.iload 4, 2) := by decide +kernel
theorem dL_law_469 : decode cL_law 469 = .ok (.iconst 2, 1) := by decide +kernel
theorem dL_law_470 : decode cL_law 470 = .ok (.iadd, 1) := by decide +kernel
theorem dL_law_471 : decode cL_law 471 = .ok (.iaload, 1) := by decide +kernel
theorem dL_law_472 : decode cL_law 472 = .ok (.ifCond .eq 7, 3) := by decide +kernel
theorem dL_law_475 : decode cL_law 475 = .ok (.iconst 1, 1) := by decide +kernel
theorem dL_law_476 : decode cL_law 476 = .ok (.goto 4, 3) := by decide +kernel
theorem dL_law_479 : decode cL_law 479 = .ok (.iconst 0, 1) := by decide +kernel
theorem dL_law_480 : decode cL_law 480 = .ok (.invokevirtual 111, 3) := by decide +kernel
theorem dL_law_483 : decode cL_law 483 = .ok (.istore 6, 2) := by decide +kernel
theorem dL_law_485 : decode cL_law 485 = .ok (.aload_n 2, 1) := by decide +kernel
theorem dL_law_486 : decode cL_law 486 = .ok (.invokevirtual 94, 3) := by decide +kernel
theorem dL_law_489 : decode cL_law 489 = .ok (.iload 5, 2) := by decide +kernel
theorem dL_law_491 : decode cL_law 491 = .ok (.if_icmp .eq 5, 3) := by decide +kernel
theorem dL_law_494 : decode cL_law 494 = .ok (.iconst 0, 1) := by decide +kernel
theorem dL_law_495 : decode cL_law 495 = .ok (.ireturn, 1) := by decide +kernel
theorem dL_law_496 : decode cL_law 496 = .ok (.iload 5, 2) := by decide +kernel
theorem dL_law_498 : decode cL_law 498 = .ok (.ifCond .ne 22, 3) := by decide +kernel
theorem dL_law_501 : decode cL_law 501 = .ok (.aload_n 3, 1) := by decide +kernel
theorem dL_law_502 : decode cL_law 502 = .ok (.iconst 0, 1) := by decide +kernel
theorem dL_law_503 : decode cL_law 503 = .ok (.laload, 1) := by decide +kernel
theorem dL_law_504 : decode cL_law 504 = .ok (.iload 6, 2) := by decide +kernel
theorem dL_law_506 : decode cL_law 506 = .ok (.ifCond .eq 7, 3) := by decide +kernel
theorem dL_law_509 : decode cL_law 509 = .ok (.lconst 1, 1) := by decide +kernel
theorem dL_law_510 : decode cL_law 510 = .ok (.goto 4, 3) := by decide +kernel
theorem dL_law_513 : decode cL_law 513 = .ok (.lconst 0, 1) := by decide +kernel
theorem dL_law_514 : decode cL_law 514 = .ok (.lcmp, 1) := by decide +kernel
theorem dL_law_515 : decode cL_law 515 = .ok (.ifCond .eq 5, 3) := by decide +kernel
theorem dL_law_518 : decode cL_law 518 = .ok (.iconst 0, 1) := by decide +kernel
theorem dL_law_519 : decode cL_law 519 = .ok (.ireturn, 1) := by decide +kernel
theorem dL_law_520 : decode cL_law 520 = .ok (.goto 918, 3) := by decide +kernel
theorem dL_law_523 : decode cL_law 523 = .ok (.aload_n 1, 1) := by decide +kernel
theorem dL_law_524 : decode cL_law 524 = .ok (.aload_n 0, 1) := by decide +kernel
theorem dL_law_525 : decode cL_law 525 = .ok (.iload 4, 2) := by decide +kernel
theorem dL_law_527 : decode cL_law 527 = .ok (.iconst 1, 1) := by decide +kernel
theorem dL_law_528 : decode cL_law 528 = .ok (.iadd, 1) := by decide +kernel
theorem dL_law_529 : decode cL_law 529 = .ok (.iaload, 1) := by decide +kernel
theorem dL_law_530 : decode cL_law 530 = .ok (.aload_n 0, 1) := by decide +kernel
theorem dL_law_531 : decode cL_law 531 = .ok (.iload 4, 2) := by decide +kernel
theorem dL_law_533 : decode cL_law 533 = .ok (.iconst 2, 1) := by decide +kernel
theorem dL_law_534 : decode cL_law 534 = .ok (.iadd, 1) := by decide +kernel
theorem dL_law_535 : decode cL_law 535 = .ok (.iaload, 1) := by decide +kernel
theorem dL_law_536 : decode cL_law 536 = .ok (.ifCond .eq 7, 3) := by decide +kernel
theorem dL_law_539 : decode cL_law 539 = .ok (.iconst 1, 1) := by decide +kernel
theorem dL_law_540 : decode cL_law 540 = .ok (.goto 4, 3) := by decide +kernel
theorem dL_law_543 : decode cL_law 543 = .ok (.iconst 0, 1) := by decide +kernel
theorem dL_law_544 : decode cL_law 544 = .ok (.aload_n 3, 1) := by decide +kernel
theorem dL_law_545 : decode cL_law 545 = .ok (.invokestatic 112, 3) := by decide +kernel
theorem dL_law_548 : decode cL_law 548 = .ok (.istore 5, 2) := by decide +kernel
theorem dL_law_550 : decode cL_law 550 = .ok (.aload_n 2, 1) := by decide +kernel
theorem dL_law_551 : decode cL_law 551 = .ok (.aload_n 0, 1) := by decide +kernel
theorem dL_law_552 : decode cL_law 552 = .ok (.iload 4, 2) := by decide +kernel
theorem dL_law_554 : decode cL_law 554 = .ok (.iconst 1, 1) := by decide +kernel
theorem dL_law_555 : decode cL_law 555 = .ok (.iadd, 1) := by decide +kernel
theorem dL_law_556 : decode cL_law 556 = .ok (.iaload, 1) := by decide +kernel
theorem dL_law_557 : decode cL_law 557 = .ok (.aload_n 0, 1) := by decide +kernel
theorem dL_law_558 : decode cL_law 558 = .ok (.iload 4, 2) := by decide +kernel
theorem dL_law_560 : decode cL_law 560 = .ok (.iconst 2, 1) := by decide +kernel
theorem dL_law_561 : decode cL_law 561 = .ok (.iadd, 1) := by decide +kernel
theorem dL_law_562 : decode cL_law 562 = .ok (.iaload, 1) := by decide +kernel
theorem dL_law_563 : decode cL_law 563 = .ok (.ifCond .eq 7, 3) := by decide +kernel
theorem dL_law_566 : decode cL_law 566 = .ok (.iconst 1, 1) := by decide +kernel
theorem dL_law_567 : decode cL_law 567 = .ok (.goto 4, 3) := by decide +kernel
theorem dL_law_570 : decode cL_law 570 = .ok (.iconst 0, 1) := by decide +kernel
theorem dL_law_571 : decode cL_law 571 = .ok (.invokevirtual 114, 3) := by decide +kernel
theorem dL_law_574 : decode cL_law 574 = .ok (.istore 6, 2) := by decide +kernel
theorem dL_law_576 : decode cL_law 576 = .ok (.aload_n 2, 1) := by decide +kernel
theorem dL_law_577 : decode cL_law 577 = .ok (.invokevirtual 94, 3) := by decide +kernel
theorem dL_law_580 : decode cL_law 580 = .ok (.iload 5, 2) := by decide +kernel
theorem dL_law_582 : decode cL_law 582 = .ok (.if_icmp .eq 5, 3) := by decide +kernel
theorem dL_law_585 : decode cL_law 585 = .ok (.iconst 0, 1) := by decide +kernel
theorem dL_law_586 : decode cL_law 586 = .ok (.ireturn, 1) := by decide +kernel
theorem dL_law_587 : decode cL_law 587 = .ok (.iload 5, 2) := by decide +kernel
theorem dL_law_589 : decode cL_law 589 = .ok (.ifCond .ne 22, 3) := by decide +kernel
theorem dL_law_592 : decode cL_law 592 = .ok (.aload_n 3, 1) := by decide +kernel
theorem dL_law_593 : decode cL_law 593 = .ok (.iconst 0, 1) := by decide +kernel
theorem dL_law_594 : decode cL_law 594 = .ok (.laload, 1) := by decide +kernel
theorem dL_law_595 : decode cL_law 595 = .ok (.iload 6, 2) := by decide +kernel
theorem dL_law_597 : decode cL_law 597 = .ok (.ifCond .eq 7, 3) := by decide +kernel
theorem dL_law_600 : decode cL_law 600 = .ok (.lconst 1, 1) := by decide +kernel
theorem dL_law_601 : decode cL_law 601 = .ok (.goto 4, 3) := by decide +kernel
theorem dL_law_604 : decode cL_law 604 = .ok (.lconst 0, 1) := by decide +kernel
theorem dL_law_605 : decode cL_law 605 = .ok (.lcmp, 1) := by decide +kernel
theorem dL_law_606 : decode cL_law 606 = .ok (.ifCond .eq 5, 3) := by decide +kernel
theorem dL_law_609 : decode cL_law 609 = .ok (.iconst 0, 1) := by decide +kernel
theorem dL_law_610 : decode cL_law 610 = .ok (.ireturn, 1) := by decide +kernel
theorem dL_law_611 : decode cL_law 611 = .ok (.goto 827, 3) := by decide +kernel
theorem dL_law_614 : decode cL_law 614 = .ok (.aload_n 1, 1) := by decide +kernel
theorem dL_law_615 : decode cL_law 615 = .ok (.aload_n 0, 1) := by decide +kernel
theorem dL_law_616 : decode cL_law 616 = .ok (.iload 4, 2) := by decide +kernel
theorem dL_law_618 : decode cL_law 618 = .ok (.iconst 1, 1) := by decide +kernel
theorem dL_law_619 : decode cL_law 619 = .ok (.iadd, 1) := by decide +kernel
theorem dL_law_620 : decode cL_law 620 = .ok (.iaload, 1) := by decide +kernel
theorem dL_law_621 : decode cL_law 621 = .ok (.aload_n 3, 1) := by decide +kernel
theorem dL_law_622 : decode cL_law 622 = .ok (.invokestatic 115, 3) := by decide +kernel
theorem dL_law_625 : decode cL_law 625 = .ok (.istore 5, 2) := by decide +kernel
theorem dL_law_627 : decode cL_law 627 = .ok (.aload_n 2, 1) := by decide +kernel
theorem dL_law_628 : decode cL_law 628 = .ok (.aload_n 0, 1) := by decide +kernel
theorem dL_law_629 : decode cL_law 629 = .ok (.iload 4, 2) := by decide +kernel
theorem dL_law_631 : decode cL_law 631 = .ok (.iconst 1, 1) := by decide +kernel
theorem dL_law_632 : decode cL_law 632 = .ok (.iadd, 1) := by decide +kernel
theorem dL_law_633 : decode cL_law 633 = .ok (.iaload, 1) := by decide +kernel
theorem dL_law_634 : decode cL_law 634 = .ok (.invokevirtual 117, 3) := by decide +kernel
theorem dL_law_637 : decode cL_law 637 = .ok (.istore 6, 2) := by decide +kernel
theorem dL_law_639 : decode cL_law 639 = .ok (.aload_n 2, 1) := by decide +kernel
theorem dL_law_640 : decode cL_law 640 = .ok (.invokevirtual 94, 3) := by decide +kernel
theorem dL_law_643 : decode cL_law 643 = .ok (.iload 5, 2) := by decide +kernel
theorem dL_law_645 : decode cL_law 645 = .ok (.if_icmp .eq 5, 3) := by decide +kernel
theorem dL_law_648 : decode cL_law 648 = .ok (.iconst 0, 1) := by decide +kernel
theorem dL_law_649 : decode cL_law 649 = .ok (.ireturn, 1) := by decide +kernel
theorem dL_law_650 : decode cL_law 650 = .ok (.iload 5, 2) := by decide +kernel
theorem dL_law_652 : decode cL_law 652 = .ok (.ifCond .ne 15, 3) := by decide +kernel
theorem dL_law_655 : decode cL_law 655 = .ok (.aload_n 3, 1) := by decide +kernel
theorem dL_law_656 : decode cL_law 656 = .ok (.iconst 0, 1) := by decide +kernel
theorem dL_law_657 : decode cL_law 657 = .ok (.laload, 1) := by decide +kernel
theorem dL_law_658 : decode cL_law 658 = .ok (.iload 6, 2) := by decide +kernel
theorem dL_law_660 : decode cL_law 660 = .ok (.i2l, 1) := by decide +kernel
theorem dL_law_661 : decode cL_law 661 = .ok (.lcmp, 1) := by decide +kernel
theorem dL_law_662 : decode cL_law 662 = .ok (.ifCond .eq 5, 3) := by decide +kernel
theorem dL_law_665 : decode cL_law 665 = .ok (.iconst 0, 1) := by decide +kernel
theorem dL_law_666 : decode cL_law 666 = .ok (.ireturn, 1) := by decide +kernel
theorem dL_law_667 : decode cL_law 667 = .ok (.goto 771, 3) := by decide +kernel
theorem dL_law_670 : decode cL_law 670 = .ok (.aload_n 1, 1) := by decide +kernel
theorem dL_law_671 : decode cL_law 671 = .ok (.aload_n 0, 1) := by decide +kernel
theorem dL_law_672 : decode cL_law 672 = .ok (.iload 4, 2) := by decide +kernel
theorem dL_law_674 : decode cL_law 674 = .ok (.iconst 1, 1) := by decide +kernel
theorem dL_law_675 : decode cL_law 675 = .ok (.iadd, 1) := by decide +kernel
theorem dL_law_676 : decode cL_law 676 = .ok (.iaload, 1) := by decide +kernel
theorem dL_law_677 : decode cL_law 677 = .ok (.aload_n 3, 1) := by decide +kernel
theorem dL_law_678 : decode cL_law 678 = .ok (.invokestatic 118, 3) := by decide +kernel
theorem dL_law_681 : decode cL_law 681 = .ok (.istore 5, 2) := by decide +kernel
theorem dL_law_683 : decode cL_law 683 = .ok (.aload_n 2, 1) := by decide +kernel
theorem dL_law_684 : decode cL_law 684 = .ok (.aload_n 0, 1) := by decide +kernel
theorem dL_law_685 : decode cL_law 685 = .ok (.iload 4, 2) := by decide +kernel
theorem dL_law_687 : decode cL_law 687 = .ok (.iconst 1, 1) := by decide +kernel
theorem dL_law_688 : decode cL_law 688 = .ok (.iadd, 1) := by decide +kernel
theorem dL_law_689 : decode cL_law 689 = .ok (.iaload, 1) := by decide +kernel
theorem dL_law_690 : decode cL_law 690 = .ok (.invokevirtual 120, 3) := by decide +kernel
theorem dL_law_693 : decode cL_law 693 = .ok (.istore 6, 2) := by decide +kernel
theorem dL_law_695 : decode cL_law 695 = .ok (.aload_n 2, 1) := by decide +kernel
theorem dL_law_696 : decode cL_law 696 = .ok (.invokevirtual 94, 3) := by decide +kernel
theorem dL_law_699 : decode cL_law 699 = .ok (.iload 5, 2) := by decide +kernel
theorem dL_law_701 : decode cL_law 701 = .ok (.if_icmp .eq 5, 3) := by decide +kernel
theorem dL_law_704 : decode cL_law 704 = .ok (.iconst 0, 1) := by decide +kernel
theorem dL_law_705 : decode cL_law 705 = .ok (.ireturn, 1) := by decide +kernel
theorem dL_law_706 : decode cL_law 706 = .ok (.iload 5, 2) := by decide +kernel
theorem dL_law_708 : decode cL_law 708 = .ok (.ifCond .ne 15, 3) := by decide +kernel
theorem dL_law_711 : decode cL_law 711 = .ok (.aload_n 3, 1) := by decide +kernel
theorem dL_law_712 : decode cL_law 712 = .ok (.iconst 0, 1) := by decide +kernel
theorem dL_law_713 : decode cL_law 713 = .ok (.laload, 1) := by decide +kernel
theorem dL_law_714 : decode cL_law 714 = .ok (.iload 6, 2) := by decide +kernel
theorem dL_law_716 : decode cL_law 716 = .ok (.i2l, 1) := by decide +kernel
theorem dL_law_717 : decode cL_law 717 = .ok (.lcmp, 1) := by decide +kernel
theorem dL_law_718 : decode cL_law 718 = .ok (.ifCond .eq 5, 3) := by decide +kernel
theorem dL_law_721 : decode cL_law 721 = .ok (.iconst 0, 1) := by decide +kernel
theorem dL_law_722 : decode cL_law 722 = .ok (.ireturn, 1) := by decide +kernel
theorem dL_law_723 : decode cL_law 723 = .ok (.goto 715, 3) := by decide +kernel
theorem dL_law_726 : decode cL_law 726 = .ok (.aload_n 1, 1) := by decide +kernel
theorem dL_law_727 : decode cL_law 727 = .ok (.aload_n 0, 1) := by decide +kernel
theorem dL_law_728 : decode cL_law 728 = .ok (.iload 4, 2) := by decide +kernel
theorem dL_law_730 : decode cL_law 730 = .ok (.iconst 1, 1) := by decide +kernel
theorem dL_law_731 : decode cL_law 731 = .ok (.iadd, 1) := by decide +kernel
theorem dL_law_732 : decode cL_law 732 = .ok (.iaload, 1) := by decide +kernel
theorem dL_law_733 : decode cL_law 733 = .ok (.aload_n 3, 1) := by decide +kernel
theorem dL_law_734 : decode cL_law 734 = .ok (.invokestatic 121, 3) := by decide +kernel
theorem dL_law_737 : decode cL_law 737 = .ok (.istore 5, 2) := by decide +kernel
theorem dL_law_739 : decode cL_law 739 = .ok (.aload_n 2, 1) := by decide +kernel
theorem dL_law_740 : decode cL_law 740 = .ok (.aload_n 0, 1) := by decide +kernel
theorem dL_law_741 : decode cL_law 741 = .ok (.iload 4, 2) := by decide +kernel
theorem dL_law_743 : decode cL_law 743 = .ok (.iconst 1, 1) := by decide +kernel
theorem dL_law_744 : decode cL_law 744 = .ok (.iadd, 1) := by decide +kernel
theorem dL_law_745 : decode cL_law 745 = .ok (.iaload, 1) := by decide +kernel
theorem dL_law_746 : decode cL_law 746 = .ok (.invokevirtual 123, 3) := by decide +kernel
theorem dL_law_749 : decode cL_law 749 = .ok (.istore 6, 2) := by decide +kernel
theorem dL_law_751 : decode cL_law 751 = .ok (.aload_n 2, 1) := by decide +kernel
theorem dL_law_752 : decode cL_law 752 = .ok (.invokevirtual 94, 3) := by decide +kernel
theorem dL_law_755 : decode cL_law 755 = .ok (.iload 5, 2) := by decide +kernel
theorem dL_law_757 : decode cL_law 757 = .ok (.if_icmp .eq 5, 3) := by decide +kernel
theorem dL_law_760 : decode cL_law 760 = .ok (.iconst 0, 1) := by decide +kernel
theorem dL_law_761 : decode cL_law 761 = .ok (.ireturn, 1) := by decide +kernel
theorem dL_law_762 : decode cL_law 762 = .ok (.iload 5, 2) := by decide +kernel
theorem dL_law_764 : decode cL_law 764 = .ok (.ifCond .ne 15, 3) := by decide +kernel
theorem dL_law_767 : decode cL_law 767 = .ok (.aload_n 3, 1) := by decide +kernel
theorem dL_law_768 : decode cL_law 768 = .ok (.iconst 0, 1) := by decide +kernel
theorem dL_law_769 : decode cL_law 769 = .ok (.laload, 1) := by decide +kernel
theorem dL_law_770 : decode cL_law 770 = .ok (.iload 6, 2) := by decide +kernel
theorem dL_law_772 : decode cL_law 772 = .ok (.i2l, 1) := by decide +kernel
theorem dL_law_773 : decode cL_law 773 = .ok (.lcmp, 1) := by decide +kernel
theorem dL_law_774 : decode cL_law 774 = .ok (.ifCond .eq 5, 3) := by decide +kernel
theorem dL_law_777 : decode cL_law 777 = .ok (.iconst 0, 1) := by decide +kernel
theorem dL_law_778 : decode cL_law 778 = .ok (.ireturn, 1) := by decide +kernel
theorem dL_law_779 : decode cL_law 779 = .ok (.goto 659, 3) := by decide +kernel
theorem dL_law_782 : decode cL_law 782 = .ok (.aload_n 1, 1) := by decide +kernel
theorem dL_law_783 : decode cL_law 783 = .ok (.aload_n 0, 1) := by decide +kernel
theorem dL_law_784 : decode cL_law 784 = .ok (.iload 4, 2) := by decide +kernel
theorem dL_law_786 : decode cL_law 786 = .ok (.iconst 1, 1) := by decide +kernel
theorem dL_law_787 : decode cL_law 787 = .ok (.iadd, 1) := by decide +kernel
theorem dL_law_788 : decode cL_law 788 = .ok (.iaload, 1) := by decide +kernel
theorem dL_law_789 : decode cL_law 789 = .ok (.aload_n 0, 1) := by decide +kernel
theorem dL_law_790 : decode cL_law 790 = .ok (.iload 4, 2) := by decide +kernel
theorem dL_law_792 : decode cL_law 792 = .ok (.iconst 2, 1) := by decide +kernel
theorem dL_law_793 : decode cL_law 793 = .ok (.iadd, 1) := by decide +kernel
theorem dL_law_794 : decode cL_law 794 = .ok (.iaload, 1) := by decide +kernel
theorem dL_law_795 : decode cL_law 795 = .ok (.aload_n 0, 1) := by decide +kernel
theorem dL_law_796 : decode cL_law 796 = .ok (.iload 4, 2) := by decide +kernel
theorem dL_law_798 : decode cL_law 798 = .ok (.iconst 3, 1) := by decide +kernel
theorem dL_law_799 : decode cL_law 799 = .ok (.iadd, 1) := by decide +kernel
theorem dL_law_800 : decode cL_law 800 = .ok (.iaload, 1) := by decide +kernel
theorem dL_law_801 : decode cL_law 801 = .ok (.aload_n 3, 1) := by decide +kernel
theorem dL_law_802 : decode cL_law 802 = .ok (.invokestatic 124, 3) := by decide +kernel
theorem dL_law_805 : decode cL_law 805 = .ok (.istore 5, 2) := by decide +kernel
theorem dL_law_807 : decode cL_law 807 = .ok (.aload_n 2, 1) := by decide +kernel
theorem dL_law_808 : decode cL_law 808 = .ok (.aload_n 0, 1) := by decide +kernel
theorem dL_law_809 : decode cL_law 809 = .ok (.iload 4, 2) := by decide +kernel
theorem dL_law_811 : decode cL_law 811 = .ok (.iconst 1, 1) := by decide +kernel
theorem dL_law_812 : decode cL_law 812 = .ok (.iadd, 1) := by decide +kernel
theorem dL_law_813 : decode cL_law 813 = .ok (.iaload, 1) := by decide +kernel
theorem dL_law_814 : decode cL_law 814 = .ok (.aload_n 0, 1) := by decide +kernel
theorem dL_law_815 : decode cL_law 815 = .ok (.iload 4, 2) := by decide +kernel
theorem dL_law_817 : decode cL_law 817 = .ok (.iconst 2, 1) := by decide +kernel
theorem dL_law_818 : decode cL_law 818 = .ok (.iadd, 1) := by decide +kernel
theorem dL_law_819 : decode cL_law 819 = .ok (.iaload, 1) := by decide +kernel
theorem dL_law_820 : decode cL_law 820 = .ok (.aload_n 0, 1) := by decide +kernel
theorem dL_law_821 : decode cL_law 821 = .ok (.iload 4, 2) := by decide +kernel
theorem dL_law_823 : decode cL_law 823 = .ok (.iconst 3, 1) := by decide +kernel
theorem dL_law_824 : decode cL_law 824 = .ok (.iadd, 1) := by decide +kernel
theorem dL_law_825 : decode cL_law 825 = .ok (.iaload, 1) := by decide +kernel
theorem dL_law_826 : decode cL_law 826 = .ok (.invokevirtual 127, 3) := by decide +kernel
theorem dL_law_829 : decode cL_law 829 = .ok (.istore 6, 2) := by decide +kernel
theorem dL_law_831 : decode cL_law 831 = .ok (.aload_n 2, 1) := by decide +kernel
theorem dL_law_832 : decode cL_law 832 = .ok (.invokevirtual 94, 3) := by decide +kernel
theorem dL_law_835 : decode cL_law 835 = .ok (.iload 5, 2) := by decide +kernel
theorem dL_law_837 : decode cL_law 837 = .ok (.if_icmp .eq 5, 3) := by decide +kernel
theorem dL_law_840 : decode cL_law 840 = .ok (.iconst 0, 1) := by decide +kernel
theorem dL_law_841 : decode cL_law 841 = .ok (.ireturn, 1) := by decide +kernel
theorem dL_law_842 : decode cL_law 842 = .ok (.iload 5, 2) := by decide +kernel
theorem dL_law_844 : decode cL_law 844 = .ok (.ifCond .ne 15, 3) := by decide +kernel
theorem dL_law_847 : decode cL_law 847 = .ok (.aload_n 3, 1) := by decide +kernel
theorem dL_law_848 : decode cL_law 848 = .ok (.iconst 0, 1) := by decide +kernel
theorem dL_law_849 : decode cL_law 849 = .ok (.laload, 1) := by decide +kernel
theorem dL_law_850 : decode cL_law 850 = .ok (.iload 6, 2) := by decide +kernel
theorem dL_law_852 : decode cL_law 852 = .ok (.i2l, 1) := by decide +kernel
theorem dL_law_853 : decode cL_law 853 = .ok (.lcmp, 1) := by decide +kernel
theorem dL_law_854 : decode cL_law 854 = .ok (.ifCond .eq 5, 3) := by decide +kernel
theorem dL_law_857 : decode cL_law 857 = .ok (.iconst 0, 1) := by decide +kernel
theorem dL_law_858 : decode cL_law 858 = .ok (.ireturn, 1) := by decide +kernel
theorem dL_law_859 : decode cL_law 859 = .ok (.goto 579, 3) := by decide +kernel
theorem dL_law_862 : decode cL_law 862 = .ok (.aload_n 1, 1) := by decide +kernel
theorem dL_law_863 : decode cL_law 863 = .ok (.aload_n 0, 1) := by decide +kernel
theorem dL_law_864 : decode cL_law 864 = .ok (.iload 4, 2) := by decide +kernel
theorem dL_law_866 : decode cL_law 866 = .ok (.iconst 1, 1) := by decide +kernel
theorem dL_law_867 : decode cL_law 867 = .ok (.iadd, 1) := by decide +kernel
theorem dL_law_868 : decode cL_law 868 = .ok (.iaload, 1) := by decide +kernel
theorem dL_law_869 : decode cL_law 869 = .ok (.aload_n 3, 1) := by decide +kernel
theorem dL_law_870 : decode cL_law 870 = .ok (.invokestatic 128, 3) := by decide +kernel
theorem dL_law_873 : decode cL_law 873 = .ok (.istore 5, 2) := by decide +kernel
theorem dL_law_875 : decode cL_law 875 = .ok (.aload_n 2, 1) := by decide +kernel
theorem dL_law_876 : decode cL_law 876 = .ok (.aload_n 0, 1) := by decide +kernel
theorem dL_law_877 : decode cL_law 877 = .ok (.iload 4, 2) := by decide +kernel
theorem dL_law_879 : decode cL_law 879 = .ok (.iconst 1, 1) := by decide +kernel
theorem dL_law_880 : decode cL_law 880 = .ok (.iadd, 1) := by decide +kernel
theorem dL_law_881 : decode cL_law 881 = .ok (.iaload, 1) := by decide +kernel
theorem dL_law_882 : decode cL_law 882 = .ok (.invokevirtual 130, 3) := by decide +kernel
theorem dL_law_885 : decode cL_law 885 = .ok (.istore 6, 2) := by decide +kernel
theorem dL_law_887 : decode cL_law 887 = .ok (.aload_n 2, 1) := by decide +kernel
theorem dL_law_888 : decode cL_law 888 = .ok (.invokevirtual 94, 3) := by decide +kernel
theorem dL_law_891 : decode cL_law 891 = .ok (.iload 5, 2) := by decide +kernel
theorem dL_law_893 : decode cL_law 893 = .ok (.if_icmp .eq 5, 3) := by decide +kernel
theorem dL_law_896 : decode cL_law 896 = .ok (.iconst 0, 1) := by decide +kernel
theorem dL_law_897 : decode cL_law 897 = .ok (.ireturn, 1) := by decide +kernel
theorem dL_law_898 : decode cL_law 898 = .ok (.iload 5, 2) := by decide +kernel
theorem dL_law_900 : decode cL_law 900 = .ok (.ifCond .ne 15, 3) := by decide +kernel
theorem dL_law_903 : decode cL_law 903 = .ok (.aload_n 3, 1) := by decide +kernel
theorem dL_law_904 : decode cL_law 904 = .ok (.iconst 0, 1) := by decide +kernel
theorem dL_law_905 : decode cL_law 905 = .ok (.laload, 1) := by decide +kernel
theorem dL_law_906 : decode cL_law 906 = .ok (.iload 6, 2) := by decide +kernel
theorem dL_law_908 : decode cL_law 908 = .ok (.i2l, 1) := by decide +kernel
theorem dL_law_909 : decode cL_law 909 = .ok (.lcmp, 1) := by decide +kernel
theorem dL_law_910 : decode cL_law 910 = .ok (.ifCond .eq 5, 3) := by decide +kernel
theorem dL_law_913 : decode cL_law 913 = .ok (.iconst 0, 1) := by decide +kernel
theorem dL_law_914 : decode cL_law 914 = .ok (.ireturn, 1) := by decide +kernel
theorem dL_law_915 : decode cL_law 915 = .ok (.goto 523, 3) := by decide +kernel
theorem dL_law_918 : decode cL_law 918 = .ok (.aload_n 1, 1) := by decide +kernel
theorem dL_law_919 : decode cL_law 919 = .ok (.aload_n 0, 1) := by decide +kernel
theorem dL_law_920 : decode cL_law 920 = .ok (.iload 4, 2) := by decide +kernel
theorem dL_law_922 : decode cL_law 922 = .ok (.iconst 1, 1) := by decide +kernel
theorem dL_law_923 : decode cL_law 923 = .ok (.iadd, 1) := by decide +kernel
theorem dL_law_924 : decode cL_law 924 = .ok (.iaload, 1) := by decide +kernel
theorem dL_law_925 : decode cL_law 925 = .ok (.aload_n 0, 1) := by decide +kernel
theorem dL_law_926 : decode cL_law 926 = .ok (.iload 4, 2) := by decide +kernel
theorem dL_law_928 : decode cL_law 928 = .ok (.iconst 2, 1) := by decide +kernel
theorem dL_law_929 : decode cL_law 929 = .ok (.iadd, 1) := by decide +kernel
theorem dL_law_930 : decode cL_law 930 = .ok (.iaload, 1) := by decide +kernel
theorem dL_law_931 : decode cL_law 931 = .ok (.aload_n 3, 1) := by decide +kernel
theorem dL_law_932 : decode cL_law 932 = .ok (.invokestatic 131, 3) := by decide +kernel
theorem dL_law_935 : decode cL_law 935 = .ok (.istore 5, 2) := by decide +kernel
theorem dL_law_937 : decode cL_law 937 = .ok (.aload_n 2, 1) := by decide +kernel
theorem dL_law_938 : decode cL_law 938 = .ok (.aload_n 0, 1) := by decide +kernel
theorem dL_law_939 : decode cL_law 939 = .ok (.iload 4, 2) := by decide +kernel
theorem dL_law_941 : decode cL_law 941 = .ok (.iconst 1, 1) := by decide +kernel
theorem dL_law_942 : decode cL_law 942 = .ok (.iadd, 1) := by decide +kernel
theorem dL_law_943 : decode cL_law 943 = .ok (.iaload, 1) := by decide +kernel
theorem dL_law_944 : decode cL_law 944 = .ok (.aload_n 0, 1) := by decide +kernel
theorem dL_law_945 : decode cL_law 945 = .ok (.iload 4, 2) := by decide +kernel
theorem dL_law_947 : decode cL_law 947 = .ok (.iconst 2, 1) := by decide +kernel
theorem dL_law_948 : decode cL_law 948 = .ok (.iadd, 1) := by decide +kernel
theorem dL_law_949 : decode cL_law 949 = .ok (.iaload, 1) := by decide +kernel
theorem dL_law_950 : decode cL_law 950 = .ok (.invokevirtual 133, 3) := by decide +kernel
theorem dL_law_953 : decode cL_law 953 = .ok (.lstore 6, 2) := by decide +kernel
theorem dL_law_955 : decode cL_law 955 = .ok (.aload_n 2, 1) := by decide +kernel
theorem dL_law_956 : decode cL_law 956 = .ok (.invokevirtual 94, 3) := by decide +kernel
theorem dL_law_959 : decode cL_law 959 = .ok (.iload 5, 2) := by decide +kernel
theorem dL_law_961 : decode cL_law 961 = .ok (.if_icmp .eq 5, 3) := by decide +kernel
theorem dL_law_964 : decode cL_law 964 = .ok (.iconst 0, 1) := by decide +kernel
theorem dL_law_965 : decode cL_law 965 = .ok (.ireturn, 1) := by decide +kernel
theorem dL_law_966 : decode cL_law 966 = .ok (.iload 5, 2) := by decide +kernel
theorem dL_law_968 : decode cL_law 968 = .ok (.ifCond .ne 14, 3) := by decide +kernel
theorem dL_law_971 : decode cL_law 971 = .ok (.aload_n 3, 1) := by decide +kernel
theorem dL_law_972 : decode cL_law 972 = .ok (.iconst 0, 1) := by decide +kernel
theorem dL_law_973 : decode cL_law 973 = .ok (.laload, 1) := by decide +kernel
theorem dL_law_974 : decode cL_law 974 = .ok (.lload 6, 2) := by decide +kernel
theorem dL_law_976 : decode cL_law 976 = .ok (.lcmp, 1) := by decide +kernel
theorem dL_law_977 : decode cL_law 977 = .ok (.ifCond .eq 5, 3) := by decide +kernel
theorem dL_law_980 : decode cL_law 980 = .ok (.iconst 0, 1) := by decide +kernel
theorem dL_law_981 : decode cL_law 981 = .ok (.ireturn, 1) := by decide +kernel
theorem dL_law_982 : decode cL_law 982 = .ok (.goto 456, 3) := by decide +kernel
theorem dL_law_985 : decode cL_law 985 = .ok (.aload_n 1, 1) := by decide +kernel
theorem dL_law_986 : decode cL_law 986 = .ok (.aload_n 0, 1) := by decide +kernel
theorem dL_law_987 : decode cL_law 987 = .ok (.iload 4, 2) := by decide +kernel
theorem dL_law_989 : decode cL_law 989 = .ok (.iconst 1, 1) := by decide +kernel
theorem dL_law_990 : decode cL_law 990 = .ok (.iadd, 1) := by decide +kernel
theorem dL_law_991 : decode cL_law 991 = .ok (.iaload, 1) := by decide +kernel
theorem dL_law_992 : decode cL_law 992 = .ok (.aload_n 0, 1) := by decide +kernel
theorem dL_law_993 : decode cL_law 993 = .ok (.iload 4, 2) := by decide +kernel
theorem dL_law_995 : decode cL_law 995 = .ok (.iconst 2, 1) := by decide +kernel
theorem dL_law_996 : decode cL_law 996 = .ok (.iadd, 1) := by decide +kernel
theorem dL_law_997 : decode cL_law 997 = .ok (.iaload, 1) := by decide +kernel
theorem dL_law_998 : decode cL_law 998 = .ok (.aload_n 3, 1) := by decide +kernel
theorem dL_law_999 : decode cL_law 999 = .ok (.invokestatic 134, 3) := by decide +kernel
theorem dL_law_1002 : decode cL_law 1002 = .ok (.istore 5, 2) := by decide +kernel
theorem dL_law_1004 : decode cL_law 1004 = .ok (.aload_n 2, 1) := by decide +kernel
theorem dL_law_1005 : decode cL_law 1005 = .ok (.aload_n 0, 1) := by decide +kernel
theorem dL_law_1006 : decode cL_law 1006 = .ok (.iload 4, 2) := by decide +kernel
theorem dL_law_1008 : decode cL_law 1008 = .ok (.iconst 1, 1) := by decide +kernel
theorem dL_law_1009 : decode cL_law 1009 = .ok (.iadd, 1) := by decide +kernel
theorem dL_law_1010 : decode cL_law 1010 = .ok (.iaload, 1) := by decide +kernel
theorem dL_law_1011 : decode cL_law 1011 = .ok (.aload_n 0, 1) := by decide +kernel
theorem dL_law_1012 : decode cL_law 1012 = .ok (.iload 4, 2) := by decide +kernel
theorem dL_law_1014 : decode cL_law 1014 = .ok (.iconst 2, 1) := by decide +kernel
theorem dL_law_1015 : decode cL_law 1015 = .ok (.iadd, 1) := by decide +kernel
theorem dL_law_1016 : decode cL_law 1016 = .ok (.iaload, 1) := by decide +kernel
theorem dL_law_1017 : decode cL_law 1017 = .ok (.invokevirtual 136, 3) := by decide +kernel
theorem dL_law_1020 : decode cL_law 1020 = .ok (.lstore 6, 2) := by decide +kernel
theorem dL_law_1022 : decode cL_law 1022 = .ok (.aload_n 2, 1) := by decide +kernel
theorem dL_law_1023 : decode cL_law 1023 = .ok (.invokevirtual 94, 3) := by decide +kernel
theorem dL_law_1026 : decode cL_law 1026 = .ok (.iload 5, 2) := by decide +kernel
theorem dL_law_1028 : decode cL_law 1028 = .ok (.if_icmp .eq 5, 3) := by decide +kernel
theorem dL_law_1031 : decode cL_law 1031 = .ok (.iconst 0, 1) := by decide +kernel
theorem dL_law_1032 : decode cL_law 1032 = .ok (.ireturn, 1) := by decide +kernel
theorem dL_law_1033 : decode cL_law 1033 = .ok (.iload 5, 2) := by decide +kernel
theorem dL_law_1035 : decode cL_law 1035 = .ok (.ifCond .ne 14, 3) := by decide +kernel
theorem dL_law_1038 : decode cL_law 1038 = .ok (.aload_n 3, 1) := by decide +kernel
theorem dL_law_1039 : decode cL_law 1039 = .ok (.iconst 0, 1) := by decide +kernel
theorem dL_law_1040 : decode cL_law 1040 = .ok (.laload, 1) := by decide +kernel
theorem dL_law_1041 : decode cL_law 1041 = .ok (.lload 6, 2) := by decide +kernel
theorem dL_law_1043 : decode cL_law 1043 = .ok (.lcmp, 1) := by decide +kernel
theorem dL_law_1044 : decode cL_law 1044 = .ok (.ifCond .eq 5, 3) := by decide +kernel
theorem dL_law_1047 : decode cL_law 1047 = .ok (.iconst 0, 1) := by decide +kernel
theorem dL_law_1048 : decode cL_law 1048 = .ok (.ireturn, 1) := by decide +kernel
theorem dL_law_1049 : decode cL_law 1049 = .ok (.goto 389, 3) := by decide +kernel
theorem dL_law_1052 : decode cL_law 1052 = .ok (.aload_n 1, 1) := by decide +kernel
theorem dL_law_1053 : decode cL_law 1053 = .ok (.aload_n 0, 1) := by decide +kernel
theorem dL_law_1054 : decode cL_law 1054 = .ok (.iload 4, 2) := by decide +kernel
theorem dL_law_1056 : decode cL_law 1056 = .ok (.iconst 1, 1) := by decide +kernel
theorem dL_law_1057 : decode cL_law 1057 = .ok (.iadd, 1) := by decide +kernel
theorem dL_law_1058 : decode cL_law 1058 = .ok (.iaload, 1) := by decide +kernel
theorem dL_law_1059 : decode cL_law 1059 = .ok (.aload_n 3, 1) := by decide +kernel
theorem dL_law_1060 : decode cL_law 1060 = .ok (.invokestatic 137, 3) := by decide +kernel
theorem dL_law_1063 : decode cL_law 1063 = .ok (.istore 5, 2) := by decide +kernel
theorem dL_law_1065 : decode cL_law 1065 = .ok (.aload_n 2, 1) := by decide +kernel
theorem dL_law_1066 : decode cL_law 1066 = .ok (.aload_n 0, 1) := by decide +kernel
theorem dL_law_1067 : decode cL_law 1067 = .ok (.iload 4, 2) := by decide +kernel
theorem dL_law_1069 : decode cL_law 1069 = .ok (.iconst 1, 1) := by decide +kernel
theorem dL_law_1070 : decode cL_law 1070 = .ok (.iadd, 1) := by decide +kernel
theorem dL_law_1071 : decode cL_law 1071 = .ok (.iaload, 1) := by decide +kernel
theorem dL_law_1072 : decode cL_law 1072 = .ok (.invokevirtual 139, 3) := by decide +kernel
theorem dL_law_1075 : decode cL_law 1075 = .ok (.lstore 6, 2) := by decide +kernel
theorem dL_law_1077 : decode cL_law 1077 = .ok (.aload_n 2, 1) := by decide +kernel
theorem dL_law_1078 : decode cL_law 1078 = .ok (.invokevirtual 94, 3) := by decide +kernel
theorem dL_law_1081 : decode cL_law 1081 = .ok (.iload 5, 2) := by decide +kernel
theorem dL_law_1083 : decode cL_law 1083 = .ok (.if_icmp .eq 5, 3) := by decide +kernel
theorem dL_law_1086 : decode cL_law 1086 = .ok (.iconst 0, 1) := by decide +kernel
theorem dL_law_1087 : decode cL_law 1087 = .ok (.ireturn, 1) := by decide +kernel
theorem dL_law_1088 : decode cL_law 1088 = .ok (.iload 5, 2) := by decide +kernel
theorem dL_law_1090 : decode cL_law 1090 = .ok (.ifCond .ne 14, 3) := by decide +kernel
theorem dL_law_1093 : decode cL_law 1093 = .ok (.aload_n 3, 1) := by decide +kernel
theorem dL_law_1094 : decode cL_law 1094 = .ok (.iconst 0, 1) := by decide +kernel
theorem dL_law_1095 : decode cL_law 1095 = .ok (.laload, 1) := by decide +kernel
theorem dL_law_1096 : decode cL_law 1096 = .ok (.lload 6, 2) := by decide +kernel
theorem dL_law_1098 : decode cL_law 1098 = .ok (.lcmp, 1) := by decide +kernel
theorem dL_law_1099 : decode cL_law 1099 = .ok (.ifCond .eq 5, 3) := by decide +kernel
theorem dL_law_1102 : decode cL_law 1102 = .ok (.iconst 0, 1) := by decide +kernel
theorem dL_law_1103 : decode cL_law 1103 = .ok (.ireturn, 1) := by decide +kernel
theorem dL_law_1104 : decode cL_law 1104 = .ok (.goto 334, 3) := by decide +kernel
theorem dL_law_1107 : decode cL_law 1107 = .ok (.aload_n 1, 1) := by decide +kernel
theorem dL_law_1108 : decode cL_law 1108 = .ok (.aload_n 0, 1) := by decide +kernel
theorem dL_law_1109 : decode cL_law 1109 = .ok (.iload 4, 2) := by decide +kernel
theorem dL_law_1111 : decode cL_law 1111 = .ok (.iconst 1, 1) := by decide +kernel
theorem dL_law_1112 : decode cL_law 1112 = .ok (.iadd, 1) := by decide +kernel
theorem dL_law_1113 : decode cL_law 1113 = .ok (.iaload, 1) := by decide +kernel
theorem dL_law_1114 : decode cL_law 1114 = .ok (.aload_n 0, 1) := by decide +kernel
theorem dL_law_1115 : decode cL_law 1115 = .ok (.iload 4, 2) := by decide +kernel
theorem dL_law_1117 : decode cL_law 1117 = .ok (.iconst 2, 1) := by decide +kernel
theorem dL_law_1118 : decode cL_law 1118 = .ok (.iadd, 1) := by decide +kernel
theorem dL_law_1119 : decode cL_law 1119 = .ok (.iaload, 1) := by decide +kernel
theorem dL_law_1120 : decode cL_law 1120 = .ok (.aload_n 3, 1) := by decide +kernel
theorem dL_law_1121 : decode cL_law 1121 = .ok (.invokestatic 140, 3) := by decide +kernel
theorem dL_law_1124 : decode cL_law 1124 = .ok (.istore 5, 2) := by decide +kernel
theorem dL_law_1126 : decode cL_law 1126 = .ok (.aload_n 2, 1) := by decide +kernel
theorem dL_law_1127 : decode cL_law 1127 = .ok (.aload_n 0, 1) := by decide +kernel
theorem dL_law_1128 : decode cL_law 1128 = .ok (.iload 4, 2) := by decide +kernel
theorem dL_law_1130 : decode cL_law 1130 = .ok (.iconst 1, 1) := by decide +kernel
theorem dL_law_1131 : decode cL_law 1131 = .ok (.iadd, 1) := by decide +kernel
theorem dL_law_1132 : decode cL_law 1132 = .ok (.iaload, 1) := by decide +kernel
theorem dL_law_1133 : decode cL_law 1133 = .ok (.aload_n 0, 1) := by decide +kernel
theorem dL_law_1134 : decode cL_law 1134 = .ok (.iload 4, 2) := by decide +kernel
theorem dL_law_1136 : decode cL_law 1136 = .ok (.iconst 2, 1) := by decide +kernel
theorem dL_law_1137 : decode cL_law 1137 = .ok (.iadd, 1) := by decide +kernel
theorem dL_law_1138 : decode cL_law 1138 = .ok (.iaload, 1) := by decide +kernel
theorem dL_law_1139 : decode cL_law 1139 = .ok (.invokevirtual 142, 3) := by decide +kernel
theorem dL_law_1142 : decode cL_law 1142 = .ok (.lstore 6, 2) := by decide +kernel
theorem dL_law_1144 : decode cL_law 1144 = .ok (.aload_n 2, 1) := by decide +kernel
theorem dL_law_1145 : decode cL_law 1145 = .ok (.invokevirtual 94, 3) := by decide +kernel
theorem dL_law_1148 : decode cL_law 1148 = .ok (.iload 5, 2) := by decide +kernel
theorem dL_law_1150 : decode cL_law 1150 = .ok (.if_icmp .eq 5, 3) := by decide +kernel
theorem dL_law_1153 : decode cL_law 1153 = .ok (.iconst 0, 1) := by decide +kernel
theorem dL_law_1154 : decode cL_law 1154 = .ok (.ireturn, 1) := by decide +kernel
theorem dL_law_1155 : decode cL_law 1155 = .ok (.iload 5, 2) := by decide +kernel
theorem dL_law_1157 : decode cL_law 1157 = .ok (.ifCond .ne 14, 3) := by decide +kernel
theorem dL_law_1160 : decode cL_law 1160 = .ok (.aload_n 3, 1) := by decide +kernel
theorem dL_law_1161 : decode cL_law 1161 = .ok (.iconst 0, 1) := by decide +kernel
theorem dL_law_1162 : decode cL_law 1162 = .ok (.laload, 1) := by decide +kernel
theorem dL_law_1163 : decode cL_law 1163 = .ok (.lload 6, 2) := by decide +kernel
theorem dL_law_1165 : decode cL_law 1165 = .ok (.lcmp, 1) := by decide +kernel
theorem dL_law_1166 : decode cL_law 1166 = .ok (.ifCond .eq 5, 3) := by decide +kernel
theorem dL_law_1169 : decode cL_law 1169 = .ok (.iconst 0, 1) := by decide +kernel
theorem dL_law_1170 : decode cL_law 1170 = .ok (.ireturn, 1) := by decide +kernel
theorem dL_law_1171 : decode cL_law 1171 = .ok (.goto 267, 3) := by decide +kernel
theorem dL_law_1174 : decode cL_law 1174 = .ok (.aload_n 1, 1) := by decide +kernel
theorem dL_law_1175 : decode cL_law 1175 = .ok (.aload_n 3, 1) := by decide +kernel
theorem dL_law_1176 : decode cL_law 1176 = .ok (.invokestatic 143, 3) := by decide +kernel
theorem dL_law_1179 : decode cL_law 1179 = .ok (.istore 5, 2) := by decide +kernel
theorem dL_law_1181 : decode cL_law 1181 = .ok (.aload_n 2, 1) := by decide +kernel
theorem dL_law_1182 : decode cL_law 1182 = .ok (.invokevirtual 146, 3) := by decide +kernel
theorem dL_law_1185 : decode cL_law 1185 = .ok (.istore 6, 2) := by decide +kernel
theorem dL_law_1187 : decode cL_law 1187 = .ok (.aload_n 2, 1) := by decide +kernel
theorem dL_law_1188 : decode cL_law 1188 = .ok (.invokevirtual 94, 3) := by decide +kernel
theorem dL_law_1191 : decode cL_law 1191 = .ok (.iload 5, 2) := by decide +kernel
theorem dL_law_1193 : decode cL_law 1193 = .ok (.if_icmp .eq 5, 3) := by decide +kernel
theorem dL_law_1196 : decode cL_law 1196 = .ok (.iconst 0, 1) := by decide +kernel
theorem dL_law_1197 : decode cL_law 1197 = .ok (.ireturn, 1) := by decide +kernel
theorem dL_law_1198 : decode cL_law 1198 = .ok (.iload 5, 2) := by decide +kernel
theorem dL_law_1200 : decode cL_law 1200 = .ok (.ifCond .ne 15, 3) := by decide +kernel
theorem dL_law_1203 : decode cL_law 1203 = .ok (.aload_n 3, 1) := by decide +kernel
theorem dL_law_1204 : decode cL_law 1204 = .ok (.iconst 0, 1) := by decide +kernel
theorem dL_law_1205 : decode cL_law 1205 = .ok (.laload, 1) := by decide +kernel
theorem dL_law_1206 : decode cL_law 1206 = .ok (.iload 6, 2) := by decide +kernel
theorem dL_law_1208 : decode cL_law 1208 = .ok (.i2l, 1) := by decide +kernel
theorem dL_law_1209 : decode cL_law 1209 = .ok (.lcmp, 1) := by decide +kernel
theorem dL_law_1210 : decode cL_law 1210 = .ok (.ifCond .eq 5, 3) := by decide +kernel
theorem dL_law_1213 : decode cL_law 1213 = .ok (.iconst 0, 1) := by decide +kernel
theorem dL_law_1214 : decode cL_law 1214 = .ok (.ireturn, 1) := by decide +kernel
theorem dL_law_1215 : decode cL_law 1215 = .ok (.goto 223, 3) := by decide +kernel
theorem dL_law_1218 : decode cL_law 1218 = .ok (.aload_n 1, 1) := by decide +kernel
theorem dL_law_1219 : decode cL_law 1219 = .ok (.aload_n 0, 1) := by decide +kernel
theorem dL_law_1220 : decode cL_law 1220 = .ok (.iload 4, 2) := by decide +kernel
theorem dL_law_1222 : decode cL_law 1222 = .ok (.iconst 1, 1) := by decide +kernel
theorem dL_law_1223 : decode cL_law 1223 = .ok (.iadd, 1) := by decide +kernel
theorem dL_law_1224 : decode cL_law 1224 = .ok (.iaload, 1) := by decide +kernel
theorem dL_law_1225 : decode cL_law 1225 = .ok (.aload_n 3, 1) := by decide +kernel
theorem dL_law_1226 : decode cL_law 1226 = .ok (.invokestatic 147, 3) := by decide +kernel
theorem dL_law_1229 : decode cL_law 1229 = .ok (.istore 5, 2) := by decide +kernel
theorem dL_law_1231 : decode cL_law 1231 = .ok (.aload_n 2, 1) := by decide +kernel
theorem dL_law_1232 : decode cL_law 1232 = .ok (.aload_n 0, 1) := by decide +kernel
theorem dL_law_1233 : decode cL_law 1233 = .ok (.iload 4, 2) := by decide +kernel
theorem dL_law_1235 : decode cL_law 1235 = .ok (.iconst 1, 1) := by decide +kernel
theorem dL_law_1236 : decode cL_law 1236 = .ok (.iadd, 1) := by decide +kernel
theorem dL_law_1237 : decode cL_law 1237 = .ok (.iaload, 1) := by decide +kernel
theorem dL_law_1238 : decode cL_law 1238 = .ok (.invokevirtual 149, 3) := by decide +kernel
theorem dL_law_1241 : decode cL_law 1241 = .ok (.lstore 6, 2) := by decide +kernel
theorem dL_law_1243 : decode cL_law 1243 = .ok (.aload_n 2, 1) := by decide +kernel
theorem dL_law_1244 : decode cL_law 1244 = .ok (.invokevirtual 94, 3) := by decide +kernel
theorem dL_law_1247 : decode cL_law 1247 = .ok (.iload 5, 2) := by decide +kernel
theorem dL_law_1249 : decode cL_law 1249 = .ok (.if_icmp .eq 5, 3) := by decide +kernel
theorem dL_law_1252 : decode cL_law 1252 = .ok (.iconst 0, 1) := by decide +kernel
theorem dL_law_1253 : decode cL_law 1253 = .ok (.ireturn, 1) := by decide +kernel
theorem dL_law_1254 : decode cL_law 1254 = .ok (.iload 5, 2) := by decide +kernel
theorem dL_law_1256 : decode cL_law 1256 = .ok (.ifCond .ne 14, 3) := by decide +kernel
theorem dL_law_1259 : decode cL_law 1259 = .ok (.aload_n 3, 1) := by decide +kernel
theorem dL_law_1260 : decode cL_law 1260 = .ok (.iconst 0, 1) := by decide +kernel
theorem dL_law_1261 : decode cL_law 1261 = .ok (.laload, 1) := by decide +kernel
theorem dL_law_1262 : decode cL_law 1262 = .ok (.lload 6, 2) := by decide +kernel
theorem dL_law_1264 : decode cL_law 1264 = .ok (.lcmp, 1) := by decide +kernel
theorem dL_law_1265 : decode cL_law 1265 = .ok (.ifCond .eq 5, 3) := by decide +kernel
theorem dL_law_1268 : decode cL_law 1268 = .ok (.iconst 0, 1) := by decide +kernel
theorem dL_law_1269 : decode cL_law 1269 = .ok (.ireturn, 1) := by decide +kernel
theorem dL_law_1270 : decode cL_law 1270 = .ok (.goto 168, 3) := by decide +kernel
theorem dL_law_1273 : decode cL_law 1273 = .ok (.aload_n 1, 1) := by decide +kernel
theorem dL_law_1274 : decode cL_law 1274 = .ok (.aload_n 0, 1) := by decide +kernel
theorem dL_law_1275 : decode cL_law 1275 = .ok (.iload 4, 2) := by decide +kernel
theorem dL_law_1277 : decode cL_law 1277 = .ok (.iconst 1, 1) := by decide +kernel
theorem dL_law_1278 : decode cL_law 1278 = .ok (.iadd, 1) := by decide +kernel
theorem dL_law_1279 : decode cL_law 1279 = .ok (.iaload, 1) := by decide +kernel
theorem dL_law_1280 : decode cL_law 1280 = .ok (.aload_n 3, 1) := by decide +kernel
theorem dL_law_1281 : decode cL_law 1281 = .ok (.invokestatic 150, 3) := by decide +kernel
theorem dL_law_1284 : decode cL_law 1284 = .ok (.istore 5, 2) := by decide +kernel
theorem dL_law_1286 : decode cL_law 1286 = .ok (.aload_n 2, 1) := by decide +kernel
theorem dL_law_1287 : decode cL_law 1287 = .ok (.aload_n 0, 1) := by decide +kernel
theorem dL_law_1288 : decode cL_law 1288 = .ok (.iload 4, 2) := by decide +kernel
theorem dL_law_1290 : decode cL_law 1290 = .ok (.iconst 1, 1) := by decide +kernel
theorem dL_law_1291 : decode cL_law 1291 = .ok (.iadd, 1) := by decide +kernel
theorem dL_law_1292 : decode cL_law 1292 = .ok (.iaload, 1) := by decide +kernel
theorem dL_law_1293 : decode cL_law 1293 = .ok (.invokevirtual 152, 3) := by decide +kernel
theorem dL_law_1296 : decode cL_law 1296 = .ok (.lstore 6, 2) := by decide +kernel
theorem dL_law_1298 : decode cL_law 1298 = .ok (.aload_n 2, 1) := by decide +kernel
theorem dL_law_1299 : decode cL_law 1299 = .ok (.invokevirtual 94, 3) := by decide +kernel
theorem dL_law_1302 : decode cL_law 1302 = .ok (.iload 5, 2) := by decide +kernel
theorem dL_law_1304 : decode cL_law 1304 = .ok (.if_icmp .eq 5, 3) := by decide +kernel
theorem dL_law_1307 : decode cL_law 1307 = .ok (.iconst 0, 1) := by decide +kernel
theorem dL_law_1308 : decode cL_law 1308 = .ok (.ireturn, 1) := by decide +kernel
theorem dL_law_1309 : decode cL_law 1309 = .ok (.iload 5, 2) := by decide +kernel
theorem dL_law_1311 : decode cL_law 1311 = .ok (.ifCond .ne 14, 3) := by decide +kernel
theorem dL_law_1314 : decode cL_law 1314 = .ok (.aload_n 3, 1) := by decide +kernel
theorem dL_law_1315 : decode cL_law 1315 = .ok (.iconst 0, 1) := by decide +kernel
theorem dL_law_1316 : decode cL_law 1316 = .ok (.laload, 1) := by decide +kernel
theorem dL_law_1317 : decode cL_law 1317 = .ok (.lload 6, 2) := by decide +kernel
theorem dL_law_1319 : decode cL_law 1319 = .ok (.lcmp, 1) := by decide +kernel
theorem dL_law_1320 : decode cL_law 1320 = .ok (.ifCond .eq 5, 3) := by decide +kernel
theorem dL_law_1323 : decode cL_law 1323 = .ok (.iconst 0, 1) := by decide +kernel
theorem dL_law_1324 : decode cL_law 1324 = .ok (.ireturn, 1) := by decide +kernel
theorem dL_law_1325 : decode cL_law 1325 = .ok (.goto 113, 3) := by decide +kernel
theorem dL_law_1328 : decode cL_law 1328 = .ok (.aload_n 1, 1) := by decide +kernel
theorem dL_law_1329 : decode cL_law 1329 = .ok (.aload_n 0, 1) := by decide +kernel
theorem dL_law_1330 : decode cL_law 1330 = .ok (.iload 4, 2) := by decide +kernel
theorem dL_law_1332 : decode cL_law 1332 = .ok (.iconst 1, 1) := by decide +kernel
theorem dL_law_1333 : decode cL_law 1333 = .ok (.iadd, 1) := by decide +kernel
theorem dL_law_1334 : decode cL_law 1334 = .ok (.iaload, 1) := by decide +kernel
theorem dL_law_1335 : decode cL_law 1335 = .ok (.aload_n 3, 1) := by decide +kernel
theorem dL_law_1336 : decode cL_law 1336 = .ok (.invokestatic 153, 3) := by decide +kernel
theorem dL_law_1339 : decode cL_law 1339 = .ok (.istore 5, 2) := by decide +kernel
theorem dL_law_1341 : decode cL_law 1341 = .ok (.aload_n 2, 1) := by decide +kernel
theorem dL_law_1342 : decode cL_law 1342 = .ok (.aload_n 0, 1) := by decide +kernel
theorem dL_law_1343 : decode cL_law 1343 = .ok (.iload 4, 2) := by decide +kernel
theorem dL_law_1345 : decode cL_law 1345 = .ok (.iconst 1, 1) := by decide +kernel
theorem dL_law_1346 : decode cL_law 1346 = .ok (.iadd, 1) := by decide +kernel
theorem dL_law_1347 : decode cL_law 1347 = .ok (.iaload, 1) := by decide +kernel
theorem dL_law_1348 : decode cL_law 1348 = .ok (.invokevirtual 155, 3) := by decide +kernel
theorem dL_law_1351 : decode cL_law 1351 = .ok (.lstore 6, 2) := by decide +kernel
theorem dL_law_1353 : decode cL_law 1353 = .ok (.aload_n 2, 1) := by decide +kernel
theorem dL_law_1354 : decode cL_law 1354 = .ok (.invokevirtual 94, 3) := by decide +kernel
theorem dL_law_1357 : decode cL_law 1357 = .ok (.iload 5, 2) := by decide +kernel
theorem dL_law_1359 : decode cL_law 1359 = .ok (.if_icmp .eq 5, 3) := by decide +kernel
theorem dL_law_1362 : decode cL_law 1362 = .ok (.iconst 0, 1) := by decide +kernel
theorem dL_law_1363 : decode cL_law 1363 = .ok (.ireturn, 1) := by decide +kernel
theorem dL_law_1364 : decode cL_law 1364 = .ok (.iload 5, 2) := by decide +kernel
theorem dL_law_1366 : decode cL_law 1366 = .ok (.ifCond .ne 14, 3) := by decide +kernel
theorem dL_law_1369 : decode cL_law 1369 = .ok (.aload_n 3, 1) := by decide +kernel
theorem dL_law_1370 : decode cL_law 1370 = .ok (.iconst 0, 1) := by decide +kernel
theorem dL_law_1371 : decode cL_law 1371 = .ok (.laload, 1) := by decide +kernel
theorem dL_law_1372 : decode cL_law 1372 = .ok (.lload 6, 2) := by decide +kernel
theorem dL_law_1374 : decode cL_law 1374 = .ok (.lcmp, 1) := by decide +kernel
theorem dL_law_1375 : decode cL_law 1375 = .ok (.ifCond .eq 5, 3) := by decide +kernel
theorem dL_law_1378 : decode cL_law 1378 = .ok (.iconst 0, 1) := by decide +kernel
theorem dL_law_1379 : decode cL_law 1379 = .ok (.ireturn, 1) := by decide +kernel
theorem dL_law_1380 : decode cL_law 1380 = .ok (.goto 58, 3) := by decide +kernel
theorem dL_law_1383 : decode cL_law 1383 = .ok (.aload_n 1, 1) := by decide +kernel
theorem dL_law_1384 : decode cL_law 1384 = .ok (.aload_n 0, 1) := by decide +kernel
theorem dL_law_1385 : decode cL_law 1385 = .ok (.iload 4, 2) := by decide +kernel
theorem dL_law_1387 : decode cL_law 1387 = .ok (.iconst 1, 1) := by decide +kernel
theorem dL_law_1388 : decode cL_law 1388 = .ok (.iadd, 1) := by decide +kernel
theorem dL_law_1389 : decode cL_law 1389 = .ok (.iaload, 1) := by decide +kernel
theorem dL_law_1390 : decode cL_law 1390 = .ok (.aload_n 3, 1) := by decide +kernel
theorem dL_law_1391 : decode cL_law 1391 = .ok (.invokestatic 156, 3) := by decide +kernel
theorem dL_law_1394 : decode cL_law 1394 = .ok (.istore 5, 2) := by decide +kernel
theorem dL_law_1396 : decode cL_law 1396 = .ok (.aload_n 2, 1) := by decide +kernel
theorem dL_law_1397 : decode cL_law 1397 = .ok (.aload_n 0, 1) := by decide +kernel
theorem dL_law_1398 : decode cL_law 1398 = .ok (.iload 4, 2) := by decide +kernel
theorem dL_law_1400 : decode cL_law 1400 = .ok (.iconst 1, 1) := by decide +kernel
theorem dL_law_1401 : decode cL_law 1401 = .ok (.iadd, 1) := by decide +kernel
theorem dL_law_1402 : decode cL_law 1402 = .ok (.iaload, 1) := by decide +kernel
theorem dL_law_1403 : decode cL_law 1403 = .ok (.invokevirtual 158, 3) := by decide +kernel
theorem dL_law_1406 : decode cL_law 1406 = .ok (.lstore 6, 2) := by decide +kernel
theorem dL_law_1408 : decode cL_law 1408 = .ok (.aload_n 2, 1) := by decide +kernel
theorem dL_law_1409 : decode cL_law 1409 = .ok (.invokevirtual 94, 3) := by decide +kernel
theorem dL_law_1412 : decode cL_law 1412 = .ok (.iload 5, 2) := by decide +kernel
theorem dL_law_1414 : decode cL_law 1414 = .ok (.if_icmp .eq 5, 3) := by decide +kernel
theorem dL_law_1417 : decode cL_law 1417 = .ok (.iconst 0, 1) := by decide +kernel
theorem dL_law_1418 : decode cL_law 1418 = .ok (.ireturn, 1) := by decide +kernel
theorem dL_law_1419 : decode cL_law 1419 = .ok (.iload 5, 2) := by decide +kernel
theorem dL_law_1421 : decode cL_law 1421 = .ok (.ifCond .ne 14, 3) := by decide +kernel
theorem dL_law_1424 : decode cL_law 1424 = .ok (.aload_n 3, 1) := by decide +kernel
theorem dL_law_1425 : decode cL_law 1425 = .ok (.iconst 0, 1) := by decide +kernel
theorem dL_law_1426 : decode cL_law 1426 = .ok (.laload, 1) := by decide +kernel
theorem dL_law_1427 : decode cL_law 1427 = .ok (.lload 6, 2) := by decide +kernel
theorem dL_law_1429 : decode cL_law 1429 = .ok (.lcmp, 1) := by decide +kernel
theorem dL_law_1430 : decode cL_law 1430 = .ok (.ifCond .eq 5, 3) := by decide +kernel
theorem dL_law_1433 : decode cL_law 1433 = .ok (.iconst 0, 1) := by decide +kernel
theorem dL_law_1434 : decode cL_law 1434 = .ok (.ireturn, 1) := by decide +kernel
theorem dL_law_1435 : decode cL_law 1435 = .ok (.goto 3, 3) := by decide +kernel
theorem dL_law_1438 : decode cL_law 1438 = .ok (.iinc 4 5, 3) := by decide +kernel
theorem dL_law_1441 : decode cL_law 1441 = .ok (.goto (-1418), 3) := by decide +kernel
theorem dL_law_1444 : decode cL_law 1444 = .ok (.iconst 1, 1) := by decide +kernel
theorem dL_law_1445 : decode cL_law 1445 = .ok (.ireturn, 1) := by decide +kernel
abbrev vwCl : List vw_C := [(RX0, TX0, 1), (RX1, TX1, 3), (RX2, TX2, 2), (RX3, TX3, 6), (RX4, TX4, 3), (RX5, TX5, 14), (RX6, TX6, 20)]
