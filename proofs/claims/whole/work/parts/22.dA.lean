/-! decode rows (printed by gen/mk_names.py) -/
theorem de_A_init_0 : decode mb_A_init 0 = .ok (.aload_n 0, 1) := by decide +kernel
theorem de_A_init_1 : decode mb_A_init 1 = .ok (.invokespecial 1, 3) := by decide +kernel
theorem de_A_init_4 : decode mb_A_init 4 = .ok (.aload_n 0, 1) := by decide +kernel
theorem de_A_init_5 : decode mb_A_init 5 = .ok (.getstatic 39, 3) := by decide +kernel
theorem de_A_init_8 : decode mb_A_init 8 = .ok (.putfield 9, 3) := by decide +kernel
theorem de_A_init_11 : decode mb_A_init 11 = .ok (.return_, 1) := by decide +kernel
theorem de_B_init_0 : decode mb_B_init 0 = .ok (.aload_n 0, 1) := by decide +kernel
theorem de_B_init_1 : decode mb_B_init 1 = .ok (.invokespecial 1, 3) := by decide +kernel
theorem de_B_init_4 : decode mb_B_init 4 = .ok (.aload_n 0, 1) := by decide +kernel
theorem de_B_init_5 : decode mb_B_init 5 = .ok (.iconst 0, 1) := by decide +kernel
theorem de_B_init_6 : decode mb_B_init 6 = .ok (.putfield 7, 3) := by decide +kernel
theorem de_B_init_9 : decode mb_B_init 9 = .ok (.return_, 1) := by decide +kernel
theorem de_C_init_0 : decode mb_C_init 0 = .ok (.aload_n 0, 1) := by decide +kernel
theorem de_C_init_1 : decode mb_C_init 1 = .ok (.invokespecial 1, 3) := by decide +kernel
theorem de_C_init_4 : decode mb_C_init 4 = .ok (.return_, 1) := by decide +kernel
theorem de_A_add_0 : decode mb_A_add 0 = .ok (.aload_n 0, 1) := by decide +kernel
theorem de_A_add_1 : decode mb_A_add 1 = .ok (.dup, 1) := by decide +kernel
theorem de_A_add_2 : decode mb_A_add 2 = .ok (.getfield 63, 3) := by decide +kernel
theorem de_A_add_5 : decode mb_A_add 5 = .ok (.iconst 1, 1) := by decide +kernel
theorem de_A_add_6 : decode mb_A_add 6 = .ok (.iadd, 1) := by decide +kernel
theorem de_A_add_7 : decode mb_A_add 7 = .ok (.putfield 63, 3) := by decide +kernel
theorem de_A_add_10 : decode mb_A_add 10 = .ok (.aload_n 0, 1) := by decide +kernel
theorem de_A_add_11 : decode mb_A_add 11 = .ok (.aload_n 1, 1) := by decide +kernel
theorem de_A_add_12 : decode mb_A_add 12 = .ok (.aload_n 0, 1) := by decide +kernel
theorem de_A_add_13 : decode mb_A_add 13 = .ok (.getfield 9, 3) := by decide +kernel
theorem de_A_add_16 : decode mb_A_add 16 = .ok (.aload_n 0, 1) := by decide +kernel
theorem de_A_add_17 : decode mb_A_add 17 = .ok (.getfield 48, 3) := by decide +kernel
theorem de_A_add_20 : decode mb_A_add 20 = .ok (.invokevirtual 131, 3) := by decide +kernel
theorem de_A_add_23 : decode mb_A_add 23 = .ok (.iconst 1, 1) := by decide +kernel
theorem de_A_add_24 : decode mb_A_add 24 = .ok (.ireturn, 1) := by decide +kernel
theorem de_A_add2_0 : decode mb_A_add2 0 = .ok (.iload_n 3, 1) := by decide +kernel
theorem de_A_add2_1 : decode mb_A_add2 1 = .ok (.aload_n 2, 1) := by decide +kernel
theorem de_A_add2_2 : decode mb_A_add2 2 = .ok (.arraylength, 1) := by decide +kernel
theorem de_A_add2_3 : decode mb_A_add2 3 = .ok (.if_icmp .ne 8, 3) := by decide +kernel
theorem de_A_add2_6 : decode mb_A_add2 6 = .ok (.aload_n 0, 1) := by decide +kernel
theorem de_A_add2_7 : decode mb_A_add2 7 = .ok (.invokevirtual 129, 3) := by decide +kernel
theorem de_A_add2_10 : decode mb_A_add2 10 = .ok (.astore_n 2, 1) := by decide +kernel
theorem de_A_add2_11 : decode mb_A_add2 11 = .ok (.aload_n 2, 1) := by decide +kernel
theorem de_A_add2_12 : decode mb_A_add2 12 = .ok (.iload_n 3, 1) := by decide +kernel
theorem de_A_add2_13 : decode mb_A_add2 13 = .ok (.aload_n 1, 1) := by decide +kernel
theorem de_A_add2_14 : decode mb_A_add2 14 = .ok (.aastore, 1) := by decide +kernel
theorem de_A_add2_15 : decode mb_A_add2 15 = .ok (.aload_n 0, 1) := by decide +kernel
theorem de_A_add2_16 : decode mb_A_add2 16 = .ok (.iload_n 3, 1) := by decide +kernel
theorem de_A_add2_17 : decode mb_A_add2 17 = .ok (.iconst 1, 1) := by decide +kernel
theorem de_A_add2_18 : decode mb_A_add2 18 = .ok (.iadd, 1) := by decide +kernel
theorem de_A_add2_19 : decode mb_A_add2 19 = .ok (.putfield 48, 3) := by decide +kernel
theorem de_A_add2_22 : decode mb_A_add2 22 = .ok (.return_, 1) := by decide +kernel
theorem de_A_grow_0 : decode mb_A_grow 0 = .ok (.aload_n 0, 1) := by decide +kernel
theorem de_A_grow_1 : decode mb_A_grow 1 = .ok (.aload_n 0, 1) := by decide +kernel
theorem de_A_grow_2 : decode mb_A_grow 2 = .ok (.getfield 48, 3) := by decide +kernel
theorem de_A_grow_5 : decode mb_A_grow 5 = .ok (.iconst 1, 1) := by decide +kernel
theorem de_A_grow_6 : decode mb_A_grow 6 = .ok (.iadd, 1) := by decide +kernel
theorem de_A_grow_7 : decode mb_A_grow 7 = .ok (.invokevirtual 69, 3) := by decide +kernel
theorem de_A_grow_10 : decode mb_A_grow 10 = .ok (.areturn, 1) := by decide +kernel
theorem de_A_grow2_0 : decode mb_A_grow2 0 = .ok (.aload_n 0, 1) := by decide +kernel
theorem de_A_grow2_1 : decode mb_A_grow2 1 = .ok (.getfield 9, 3) := by decide +kernel
theorem de_A_grow2_4 : decode mb_A_grow2 4 = .ok (.arraylength, 1) := by decide +kernel
theorem de_A_grow2_5 : decode mb_A_grow2 5 = .ok (.istore_n 2, 1) := by decide +kernel
theorem de_A_grow2_6 : decode mb_A_grow2 6 = .ok (.iload_n 2, 1) := by decide +kernel
theorem de_A_grow2_7 : decode mb_A_grow2 7 = .ok (.ifCond .gt 13, 3) := by decide +kernel
theorem de_A_grow2_10 : decode mb_A_grow2 10 = .ok (.aload_n 0, 1) := by decide +kernel
theorem de_A_grow2_11 : decode mb_A_grow2 11 = .ok (.getfield 9, 3) := by decide +kernel
theorem de_A_grow2_14 : decode mb_A_grow2 14 = .ok (.getstatic 39, 3) := by decide +kernel
theorem de_A_grow2_17 : decode mb_A_grow2 17 = .ok (.if_acmp .eq 28, 3) := by decide +kernel
theorem de_A_grow2_20 : decode mb_A_grow2 20 = .ok (.iload_n 2, 1) := by decide +kernel
theorem de_A_grow2_21 : decode mb_A_grow2 21 = .ok (.iload_n 1, 1) := by decide +kernel
theorem de_A_grow2_22 : decode mb_A_grow2 22 = .ok (.iload_n 2, 1) := by decide +kernel
theorem de_A_grow2_23 : decode mb_A_grow2 23 = .ok (.isub, 1) := by decide +kernel
theorem de_A_grow2_24 : decode mb_A_grow2 24 = .ok (.iload_n 2, 1) := by decide +kernel
theorem de_A_grow2_25 : decode mb_A_grow2 25 = .ok (.iconst 1, 1) := by decide +kernel
theorem de_A_grow2_26 : decode mb_A_grow2 26 = .ok (.ishr, 1) := by decide +kernel
theorem de_A_grow2_27 : decode mb_A_grow2 27 = .ok (.invokestatic 73, 3) := by decide +kernel
theorem de_A_grow2_30 : decode mb_A_grow2 30 = .ok (.istore_n 3, 1) := by decide +kernel
theorem de_A_grow2_31 : decode mb_A_grow2 31 = .ok (.aload_n 0, 1) := by decide +kernel
theorem de_A_grow2_32 : decode mb_A_grow2 32 = .ok (.aload_n 0, 1) := by decide +kernel
theorem de_A_grow2_33 : decode mb_A_grow2 33 = .ok (.getfield 9, 3) := by decide +kernel
theorem de_A_grow2_36 : decode mb_A_grow2 36 = .ok (.iload_n 3, 1) := by decide +kernel
theorem de_A_grow2_37 : decode mb_A_grow2 37 = .ok (.invokestatic 66, 3) := by decide +kernel
theorem de_A_grow2_40 : decode mb_A_grow2 40 = .ok (.dup_x1, 1) := by decide +kernel
theorem de_A_grow2_41 : decode mb_A_grow2 41 = .ok (.putfield 9, 3) := by decide +kernel
theorem de_A_grow2_44 : decode mb_A_grow2 44 = .ok (.areturn, 1) := by decide +kernel
theorem de_A_grow2_45 : decode mb_A_grow2 45 = .ok (.aload_n 0, 1) := by decide +kernel
theorem de_A_grow2_46 : decode mb_A_grow2 46 = .ok (.bipush 10, 2) := by decide +kernel
theorem de_A_grow2_48 : decode mb_A_grow2 48 = .ok (.iload_n 1, 1) := by decide +kernel
theorem de_A_grow2_49 : decode mb_A_grow2 49 = .ok (.invokestatic 79, 3) := by decide +kernel
theorem de_A_grow2_52 : decode mb_A_grow2 52 = .ok (.anewarray 7, 3) := by decide +kernel
theorem de_A_grow2_55 : decode mb_A_grow2 55 = .ok (.dup_x1, 1) := by decide +kernel
theorem de_A_grow2_56 : decode mb_A_grow2 56 = .ok (.putfield 9, 3) := by decide +kernel
theorem de_A_grow2_59 : decode mb_A_grow2 59 = .ok (.areturn, 1) := by decide +kernel
theorem de_D_newLength_0 : decode mb_D_newLength 0 = .ok (.iload_n 0, 1) := by decide +kernel
theorem de_D_newLength_1 : decode mb_D_newLength 1 = .ok (.iload_n 1, 1) := by decide +kernel
theorem de_D_newLength_2 : decode mb_D_newLength 2 = .ok (.iload_n 2, 1) := by decide +kernel
theorem de_D_newLength_3 : decode mb_D_newLength 3 = .ok (.invokestatic 194, 3) := by decide +kernel
theorem de_D_newLength_6 : decode mb_D_newLength 6 = .ok (.iadd, 1) := by decide +kernel
theorem de_D_newLength_7 : decode mb_D_newLength 7 = .ok (.istore_n 3, 1) := by decide +kernel
theorem de_D_newLength_8 : decode mb_D_newLength 8 = .ok (.iconst 0, 1) := by decide +kernel
theorem de_D_newLength_9 : decode mb_D_newLength 9 = .ok (.iload_n 3, 1) := by decide +kernel
theorem de_D_newLength_10 : decode mb_D_newLength 10 = .ok (.if_icmp .ge 11, 3) := by decide +kernel
theorem de_D_newLength_13 : decode mb_D_newLength 13 = .ok (.iload_n 3, 1) := by decide +kernel
theorem de_D_newLength_14 : decode mb_D_newLength 14 = .ok (.ldc 200, 2) := by decide +kernel
theorem de_D_newLength_16 : decode mb_D_newLength 16 = .ok (.if_icmp .gt 5, 3) := by decide +kernel
theorem de_D_newLength_19 : decode mb_D_newLength 19 = .ok (.iload_n 3, 1) := by decide +kernel
theorem de_D_newLength_20 : decode mb_D_newLength 20 = .ok (.ireturn, 1) := by decide +kernel
theorem de_D_newLength_21 : decode mb_D_newLength 21 = .ok (.iload_n 0, 1) := by decide +kernel
theorem de_D_newLength_22 : decode mb_D_newLength 22 = .ok (.iload_n 1, 1) := by decide +kernel
theorem de_D_newLength_23 : decode mb_D_newLength 23 = .ok (.invokestatic 201, 3) := by decide +kernel
theorem de_D_newLength_26 : decode mb_D_newLength 26 = .ok (.ireturn, 1) := by decide +kernel
theorem de_F_max_0 : decode mb_F_max 0 = .ok (.iload_n 0, 1) := by decide +kernel
theorem de_F_max_1 : decode mb_F_max 1 = .ok (.iload_n 1, 1) := by decide +kernel
theorem de_F_max_2 : decode mb_F_max 2 = .ok (.if_icmp .lt 7, 3) := by decide +kernel
theorem de_F_max_5 : decode mb_F_max 5 = .ok (.iload_n 0, 1) := by decide +kernel
theorem de_F_max_6 : decode mb_F_max 6 = .ok (.goto 4, 3) := by decide +kernel
theorem de_F_max_9 : decode mb_F_max 9 = .ok (.iload_n 1, 1) := by decide +kernel
theorem de_F_max_10 : decode mb_F_max 10 = .ok (.ireturn, 1) := by decide +kernel
theorem de_D_hugeLength_0 : decode mb_D_hugeLength 0 = .ok (.iload_n 0, 1) := by decide +kernel
theorem de_D_hugeLength_1 : decode mb_D_hugeLength 1 = .ok (.iload_n 1, 1) := by decide +kernel
theorem de_D_hugeLength_2 : decode mb_D_hugeLength 2 = .ok (.iadd, 1) := by decide +kernel
theorem de_D_hugeLength_3 : decode mb_D_hugeLength 3 = .ok (.istore_n 2, 1) := by decide +kernel
theorem de_D_hugeLength_4 : decode mb_D_hugeLength 4 = .ok (.iload_n 2, 1) := by decide +kernel
theorem de_D_hugeLength_5 : decode mb_D_hugeLength 5 = .ok (.ifCond .ge 44, 3) := by decide +kernel
theorem de_D_hugeLength_8 : decode mb_D_hugeLength 8 = .ok (.new 204, 3) := by decide +kernel
theorem de_D_hugeLength_11 : decode mb_D_hugeLength 11 = .ok (.dup, 1) := by decide +kernel
theorem de_D_hugeLength_12 : decode mb_D_hugeLength 12 = .ok (.new 89, 3) := by decide +kernel
theorem de_D_hugeLength_15 : decode mb_D_hugeLength 15 = .ok (.dup, 1) := by decide +kernel
theorem de_D_hugeLength_16 : decode mb_D_hugeLength 16 = .ok (.invokespecial 91, 3) := by decide +kernel
theorem de_D_hugeLength_19 : decode mb_D_hugeLength 19 = .ok (.ldc 206, 2) := by decide +kernel
theorem de_D_hugeLength_21 : decode mb_D_hugeLength 21 = .ok (.invokevirtual 94, 3) := by decide +kernel
theorem de_D_hugeLength_24 : decode mb_D_hugeLength 24 = .ok (.iload_n 0, 1) := by decide +kernel
theorem de_D_hugeLength_25 : decode mb_D_hugeLength 25 = .ok (.invokevirtual 98, 3) := by decide +kernel
theorem de_D_hugeLength_28 : decode mb_D_hugeLength 28 = .ok (.ldc 208, 2) := by decide +kernel
theorem de_D_hugeLength_30 : decode mb_D_hugeLength 30 = .ok (.invokevirtual 94, 3) := by decide +kernel
theorem de_D_hugeLength_33 : decode mb_D_hugeLength 33 = .ok (.iload_n 1, 1) := by decide +kernel
theorem de_D_hugeLength_34 : decode mb_D_hugeLength 34 = .ok (.invokevirtual 98, 3) := by decide +kernel
theorem de_D_hugeLength_37 : decode mb_D_hugeLength 37 = .ok (.ldc 210, 2) := by decide +kernel
theorem de_D_hugeLength_39 : decode mb_D_hugeLength 39 = .ok (.invokevirtual 94, 3) := by decide +kernel
theorem de_D_hugeLength_42 : decode mb_D_hugeLength 42 = .ok (.invokevirtual 101, 3) := by decide +kernel
theorem de_D_hugeLength_45 : decode mb_D_hugeLength 45 = .ok (.invokespecial 212, 3) := by decide +kernel
theorem de_D_hugeLength_48 : decode mb_D_hugeLength 48 = .ok (.athrow, 1) := by decide +kernel
theorem de_D_hugeLength_49 : decode mb_D_hugeLength 49 = .ok (.iload_n 2, 1) := by decide +kernel
theorem de_D_hugeLength_50 : decode mb_D_hugeLength 50 = .ok (.ldc 200, 2) := by decide +kernel
theorem de_D_hugeLength_52 : decode mb_D_hugeLength 52 = .ok (.if_icmp .gt 6, 3) := by decide +kernel
theorem de_D_hugeLength_55 : decode mb_D_hugeLength 55 = .ok (.ldc 200, 2) := by decide +kernel
theorem de_D_hugeLength_57 : decode mb_D_hugeLength 57 = .ok (.ireturn, 1) := by decide +kernel
theorem de_D_hugeLength_58 : decode mb_D_hugeLength 58 = .ok (.iload_n 2, 1) := by decide +kernel
theorem de_D_hugeLength_59 : decode mb_D_hugeLength 59 = .ok (.ireturn, 1) := by decide +kernel
theorem de_G_copyOf_0 : decode mb_G_copyOf 0 = .ok (.aload_n 0, 1) := by decide +kernel
theorem de_G_copyOf_1 : decode mb_G_copyOf 1 = .ok (.iload_n 1, 1) := by decide +kernel
theorem de_G_copyOf_2 : decode mb_G_copyOf 2 = .ok (.aload_n 0, 1) := by decide +kernel
theorem de_G_copyOf_3 : decode mb_G_copyOf 3 = .ok (.invokevirtual 86, 3) := by decide +kernel
theorem de_G_copyOf_6 : decode mb_G_copyOf 6 = .ok (.invokestatic 300, 3) := by decide +kernel
theorem de_G_copyOf_9 : decode mb_G_copyOf 9 = .ok (.areturn, 1) := by decide +kernel
theorem de_G_copyOf2_0 : decode mb_G_copyOf2 0 = .ok (.aload_n 2, 1) := by decide +kernel
theorem de_G_copyOf2_1 : decode mb_G_copyOf2 1 = .ok (.ldc 110, 2) := by decide +kernel
theorem de_G_copyOf2_3 : decode mb_G_copyOf2 3 = .ok (.if_acmp .ne 10, 3) := by decide +kernel
theorem de_G_copyOf2_6 : decode mb_G_copyOf2 6 = .ok (.iload_n 1, 1) := by decide +kernel
theorem de_G_copyOf2_7 : decode mb_G_copyOf2 7 = .ok (.anewarray 2, 3) := by decide +kernel
theorem de_G_copyOf2_10 : decode mb_G_copyOf2 10 = .ok (.goto 14, 3) := by decide +kernel
theorem de_G_copyOf2_13 : decode mb_G_copyOf2 13 = .ok (.aload_n 2, 1) := by decide +kernel
theorem de_G_copyOf2_14 : decode mb_G_copyOf2 14 = .ok (.invokevirtual 90, 3) := by decide +kernel
theorem de_G_copyOf2_17 : decode mb_G_copyOf2 17 = .ok (.iload_n 1, 1) := by decide +kernel
theorem de_G_copyOf2_18 : decode mb_G_copyOf2 18 = .ok (.invokestatic 95, 3) := by decide +kernel
theorem de_G_copyOf2_21 : decode mb_G_copyOf2 21 = .ok (.checkcast 110, 3) := by decide +kernel
theorem de_G_copyOf2_24 : decode mb_G_copyOf2 24 = .ok (.astore_n 3, 1) := by decide +kernel
theorem de_G_copyOf2_25 : decode mb_G_copyOf2 25 = .ok (.aload_n 0, 1) := by decide +kernel
theorem de_G_copyOf2_26 : decode mb_G_copyOf2 26 = .ok (.iconst 0, 1) := by decide +kernel
theorem de_G_copyOf2_27 : decode mb_G_copyOf2 27 = .ok (.aload_n 3, 1) := by decide +kernel
theorem de_G_copyOf2_28 : decode mb_G_copyOf2 28 = .ok (.iconst 0, 1) := by decide +kernel
theorem de_G_copyOf2_29 : decode mb_G_copyOf2 29 = .ok (.aload_n 0, 1) := by decide +kernel
theorem de_G_copyOf2_30 : decode mb_G_copyOf2 30 = .ok (.arraylength, 1) := by decide +kernel
theorem de_G_copyOf2_31 : decode mb_G_copyOf2 31 = .ok (.iload_n 1, 1) := by decide +kernel
theorem de_G_copyOf2_32 : decode mb_G_copyOf2 32 = .ok (.invokestatic 304, 3) := by decide +kernel
theorem de_G_copyOf2_35 : decode mb_G_copyOf2 35 = .ok (.invokestatic 150, 3) := by decide +kernel
theorem de_G_copyOf2_38 : decode mb_G_copyOf2 38 = .ok (.aload_n 3, 1) := by decide +kernel
theorem de_G_copyOf2_39 : decode mb_G_copyOf2 39 = .ok (.areturn, 1) := by decide +kernel
theorem de_F_min_0 : decode mb_F_min 0 = .ok (.iload_n 0, 1) := by decide +kernel
theorem de_F_min_1 : decode mb_F_min 1 = .ok (.iload_n 1, 1) := by decide +kernel
theorem de_F_min_2 : decode mb_F_min 2 = .ok (.if_icmp .gt 7, 3) := by decide +kernel
theorem de_F_min_5 : decode mb_F_min 5 = .ok (.iload_n 0, 1) := by decide +kernel
theorem de_F_min_6 : decode mb_F_min 6 = .ok (.goto 4, 3) := by decide +kernel
theorem de_F_min_9 : decode mb_F_min 9 = .ok (.iload_n 1, 1) := by decide +kernel
theorem de_F_min_10 : decode mb_F_min 10 = .ok (.ireturn, 1) := by decide +kernel
theorem de_A_size_0 : decode mb_A_size 0 = .ok (.aload_n 0, 1) := by decide +kernel
theorem de_A_size_1 : decode mb_A_size 1 = .ok (.getfield 48, 3) := by decide +kernel
theorem de_A_size_4 : decode mb_A_size 4 = .ok (.ireturn, 1) := by decide +kernel
theorem de_A_get_0 : decode mb_A_get 0 = .ok (.iload_n 1, 1) := by decide +kernel
theorem de_A_get_1 : decode mb_A_get 1 = .ok (.aload_n 0, 1) := by decide +kernel
theorem de_A_get_2 : decode mb_A_get 2 = .ok (.getfield 48, 3) := by decide +kernel
theorem de_A_get_5 : decode mb_A_get 5 = .ok (.invokestatic 118, 3) := by decide +kernel
theorem de_A_get_8 : decode mb_A_get 8 = .ok (.pop, 1) := by decide +kernel
theorem de_A_get_9 : decode mb_A_get 9 = .ok (.aload_n 0, 1) := by decide +kernel
theorem de_A_get_10 : decode mb_A_get 10 = .ok (.iload_n 1, 1) := by decide +kernel
theorem de_A_get_11 : decode mb_A_get 11 = .ok (.invokevirtual 123, 3) := by decide +kernel
theorem de_A_get_14 : decode mb_A_get 14 = .ok (.areturn, 1) := by decide +kernel
theorem de_O_checkIndex_0 : decode mb_O_checkIndex 0 = .ok (.iload_n 0, 1) := by decide +kernel
theorem de_O_checkIndex_1 : decode mb_O_checkIndex 1 = .ok (.iload_n 1, 1) := by decide +kernel
theorem de_O_checkIndex_2 : decode mb_O_checkIndex 2 = .ok (.aconst_null, 1) := by decide +kernel
theorem de_O_checkIndex_3 : decode mb_O_checkIndex 3 = .ok (.invokestatic 105, 3) := by decide +kernel
theorem de_O_checkIndex_6 : decode mb_O_checkIndex 6 = .ok (.ireturn, 1) := by decide +kernel
theorem de_P_checkIndex_0 : decode mb_P_checkIndex 0 = .ok (.iload_n 0, 1) := by decide +kernel
theorem de_P_checkIndex_1 : decode mb_P_checkIndex 1 = .ok (.ifCond .lt 8, 3) := by decide +kernel
theorem de_P_checkIndex_4 : decode mb_P_checkIndex 4 = .ok (.iload_n 0, 1) := by decide +kernel
theorem de_P_checkIndex_5 : decode mb_P_checkIndex 5 = .ok (.iload_n 1, 1) := by decide +kernel
theorem de_P_checkIndex_6 : decode mb_P_checkIndex 6 = .ok (.if_icmp .lt 10, 3) := by decide +kernel
theorem de_P_checkIndex_9 : decode mb_P_checkIndex 9 = .ok (.aload_n 2, 1) := by decide +kernel
theorem de_P_checkIndex_10 : decode mb_P_checkIndex 10 = .ok (.iload_n 0, 1) := by decide +kernel
theorem de_P_checkIndex_11 : decode mb_P_checkIndex 11 = .ok (.iload_n 1, 1) := by decide +kernel
theorem de_P_checkIndex_12 : decode mb_P_checkIndex 12 = .ok (.invokestatic 95, 3) := by decide +kernel
theorem de_P_checkIndex_15 : decode mb_P_checkIndex 15 = .ok (.athrow, 1) := by decide +kernel
theorem de_P_checkIndex_16 : decode mb_P_checkIndex 16 = .ok (.iload_n 0, 1) := by decide +kernel
theorem de_P_checkIndex_17 : decode mb_P_checkIndex 17 = .ok (.ireturn, 1) := by decide +kernel
theorem de_A_elementData_0 : decode mb_A_elementData 0 = .ok (.aload_n 0, 1) := by decide +kernel
theorem de_A_elementData_1 : decode mb_A_elementData 1 = .ok (.getfield 9, 3) := by decide +kernel
theorem de_A_elementData_4 : decode mb_A_elementData 4 = .ok (.iload_n 1, 1) := by decide +kernel
theorem de_A_elementData_5 : decode mb_A_elementData 5 = .ok (.aaload, 1) := by decide +kernel
theorem de_A_elementData_6 : decode mb_A_elementData 6 = .ok (.areturn, 1) := by decide +kernel
theorem de_A_clear_0 : decode mb_A_clear 0 = .ok (.aload_n 0, 1) := by decide +kernel
theorem de_A_clear_1 : decode mb_A_clear 1 = .ok (.dup, 1) := by decide +kernel
theorem de_A_clear_2 : decode mb_A_clear 2 = .ok (.getfield 63, 3) := by decide +kernel
theorem de_A_clear_5 : decode mb_A_clear 5 = .ok (.iconst 1, 1) := by decide +kernel
theorem de_A_clear_6 : decode mb_A_clear 6 = .ok (.iadd, 1) := by decide +kernel
theorem de_A_clear_7 : decode mb_A_clear 7 = .ok (.putfield 63, 3) := by decide +kernel
theorem de_A_clear_10 : decode mb_A_clear 10 = .ok (.aload_n 0, 1) := by decide +kernel
theorem de_A_clear_11 : decode mb_A_clear 11 = .ok (.getfield 9, 3) := by decide +kernel
theorem de_A_clear_14 : decode mb_A_clear 14 = .ok (.astore_n 1, 1) := by decide +kernel
theorem de_A_clear_15 : decode mb_A_clear 15 = .ok (.aload_n 0, 1) := by decide +kernel
theorem de_A_clear_16 : decode mb_A_clear 16 = .ok (.getfield 48, 3) := by decide +kernel
theorem de_A_clear_19 : decode mb_A_clear 19 = .ok (.istore_n 2, 1) := by decide +kernel
theorem de_A_clear_20 : decode mb_A_clear 20 = .ok (.aload_n 0, 1) := by decide +kernel
theorem de_A_clear_21 : decode mb_A_clear 21 = .ok (.iconst 0, 1) := by decide +kernel
theorem de_A_clear_22 : decode mb_A_clear 22 = .ok (.dup_x1, 1) := by decide +kernel
theorem de_A_clear_23 : decode mb_A_clear 23 = .ok (.putfield 48, 3) := by decide +kernel
theorem de_A_clear_26 : decode mb_A_clear 26 = .ok (.istore_n 3, 1) := by decide +kernel
theorem de_A_clear_27 : decode mb_A_clear 27 = .ok (.iload_n 3, 1) := by decide +kernel
theorem de_A_clear_28 : decode mb_A_clear 28 = .ok (.iload_n 2, 1) := by decide +kernel
theorem de_A_clear_29 : decode mb_A_clear 29 = .ok (.if_icmp .ge 13, 3) := by decide +kernel
theorem de_A_clear_32 : decode mb_A_clear 32 = .ok (.aload_n 1, 1) := by decide +kernel
theorem de_A_clear_33 : decode mb_A_clear 33 = .ok (.iload_n 3, 1) := by decide +kernel
theorem de_A_clear_34 : decode mb_A_clear 34 = .ok (.aconst_null, 1) := by decide +kernel
theorem de_A_clear_35 : decode mb_A_clear 35 = .ok (.aastore, 1) := by decide +kernel
theorem de_A_clear_36 : decode mb_A_clear 36 = .ok (.iinc 3 1, 3) := by decide +kernel
theorem de_A_clear_39 : decode mb_A_clear 39 = .ok (.goto (-12), 3) := by decide +kernel
theorem de_A_clear_42 : decode mb_A_clear 42 = .ok (.return_, 1) := by decide +kernel
