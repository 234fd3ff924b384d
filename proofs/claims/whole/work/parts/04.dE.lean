/-! decode rows (printed by gen/mk_names.py) -/
theorem de_R_init_0 : decode mb_R_init 0 = .ok (.aload_n 0, 1) := by decide +kernel
theorem de_R_init_1 : decode mb_R_init 1 = .ok (.invokespecial 1, 3) := by decide +kernel
theorem de_R_init_4 : decode mb_R_init 4 = .ok (.aload_n 0, 1) := by decide +kernel
theorem de_R_init_5 : decode mb_R_init 5 = .ok (.iconst 0, 1) := by decide +kernel
theorem de_R_init_6 : decode mb_R_init 6 = .ok (.putfield 7, 3) := by decide +kernel
theorem de_R_init_9 : decode mb_R_init 9 = .ok (.aload_n 0, 1) := by decide +kernel
theorem de_R_init_10 : decode mb_R_init 10 = .ok (.iload_n 1, 1) := by decide +kernel
theorem de_R_init_11 : decode mb_R_init 11 = .ok (.anewarray 13, 3) := by decide +kernel
theorem de_R_init_14 : decode mb_R_init 14 = .ok (.putfield 15, 3) := by decide +kernel
theorem de_R_init_17 : decode mb_R_init 17 = .ok (.return_, 1) := by decide +kernel
theorem de_S_init_0 : decode mb_S_init 0 = .ok (.aload_n 0, 1) := by decide +kernel
theorem de_S_init_1 : decode mb_S_init 1 = .ok (.invokespecial 3, 3) := by decide +kernel
theorem de_S_init_4 : decode mb_S_init 4 = .ok (.aload_n 0, 1) := by decide +kernel
theorem de_S_init_5 : decode mb_S_init 5 = .ok (.bipush 6, 2) := by decide +kernel
theorem de_S_init_7 : decode mb_S_init 7 = .ok (.newarray .int, 2) := by decide +kernel
theorem de_S_init_9 : decode mb_S_init 9 = .ok (.putfield 9, 3) := by decide +kernel
theorem de_S_init_12 : decode mb_S_init 12 = .ok (.aload_n 0, 1) := by decide +kernel
theorem de_S_init_13 : decode mb_S_init 13 = .ok (.bipush 6, 2) := by decide +kernel
theorem de_S_init_15 : decode mb_S_init 15 = .ok (.newarray .boolean, 2) := by decide +kernel
theorem de_S_init_17 : decode mb_S_init 17 = .ok (.putfield 15, 3) := by decide +kernel
theorem de_S_init_20 : decode mb_S_init 20 = .ok (.return_, 1) := by decide +kernel
theorem de_V_init_0 : decode mb_V_init 0 = .ok (.aload_n 0, 1) := by decide +kernel
theorem de_V_init_1 : decode mb_V_init 1 = .ok (.invokespecial 1, 3) := by decide +kernel
theorem de_V_init_4 : decode mb_V_init 4 = .ok (.aload_n 0, 1) := by decide +kernel
theorem de_V_init_5 : decode mb_V_init 5 = .ok (.new 7, 3) := by decide +kernel
theorem de_V_init_8 : decode mb_V_init 8 = .ok (.dup, 1) := by decide +kernel
theorem de_V_init_9 : decode mb_V_init 9 = .ok (.invokespecial 9, 3) := by decide +kernel
theorem de_V_init_12 : decode mb_V_init 12 = .ok (.putfield 10, 3) := by decide +kernel
theorem de_V_init_15 : decode mb_V_init 15 = .ok (.aload_n 0, 1) := by decide +kernel
theorem de_V_init_16 : decode mb_V_init 16 = .ok (.iconst 0, 1) := by decide +kernel
theorem de_V_init_17 : decode mb_V_init 17 = .ok (.putfield 16, 3) := by decide +kernel
theorem de_V_init_20 : decode mb_V_init 20 = .ok (.return_, 1) := by decide +kernel
theorem de_R_size_0 : decode mb_R_size 0 = .ok (.aload_n 0, 1) := by decide +kernel
theorem de_R_size_1 : decode mb_R_size 1 = .ok (.getfield 7, 3) := by decide +kernel
theorem de_R_size_4 : decode mb_R_size 4 = .ok (.ireturn, 1) := by decide +kernel
theorem de_R_sortAsRun_0 : decode mb_R_sortAsRun 0 = .ok (.iconst 1, 1) := by decide +kernel
theorem de_R_sortAsRun_1 : decode mb_R_sortAsRun 1 = .ok (.istore_n 1, 1) := by decide +kernel
theorem de_R_sortAsRun_2 : decode mb_R_sortAsRun 2 = .ok (.iload_n 1, 1) := by decide +kernel
theorem de_R_sortAsRun_3 : decode mb_R_sortAsRun 3 = .ok (.aload_n 0, 1) := by decide +kernel
theorem de_R_sortAsRun_4 : decode mb_R_sortAsRun 4 = .ok (.getfield 7, 3) := by decide +kernel
theorem de_R_sortAsRun_7 : decode mb_R_sortAsRun 7 = .ok (.if_icmp .ge 64, 3) := by decide +kernel
theorem de_R_sortAsRun_10 : decode mb_R_sortAsRun 10 = .ok (.aload_n 0, 1) := by decide +kernel
theorem de_R_sortAsRun_11 : decode mb_R_sortAsRun 11 = .ok (.getfield 15, 3) := by decide +kernel
theorem de_R_sortAsRun_14 : decode mb_R_sortAsRun 14 = .ok (.iload_n 1, 1) := by decide +kernel
theorem de_R_sortAsRun_15 : decode mb_R_sortAsRun 15 = .ok (.aaload, 1) := by decide +kernel
theorem de_R_sortAsRun_16 : decode mb_R_sortAsRun 16 = .ok (.astore_n 2, 1) := by decide +kernel
theorem de_R_sortAsRun_17 : decode mb_R_sortAsRun 17 = .ok (.iload_n 1, 1) := by decide +kernel
theorem de_R_sortAsRun_18 : decode mb_R_sortAsRun 18 = .ok (.istore_n 3, 1) := by decide +kernel
theorem de_R_sortAsRun_19 : decode mb_R_sortAsRun 19 = .ok (.iload_n 3, 1) := by decide +kernel
theorem de_R_sortAsRun_20 : decode mb_R_sortAsRun 20 = .ok (.ifCond .le 38, 3) := by decide +kernel
theorem de_R_sortAsRun_23 : decode mb_R_sortAsRun 23 = .ok (.aload_n 2, 1) := by decide +kernel
theorem de_R_sortAsRun_24 : decode mb_R_sortAsRun 24 = .ok (.aload_n 0, 1) := by decide +kernel
theorem de_R_sortAsRun_25 : decode mb_R_sortAsRun 25 = .ok (.getfield 15, 3) := by decide +kernel
theorem de_R_sortAsRun_28 : decode mb_R_sortAsRun 28 = .ok (.iload_n 3, 1) := by decide +kernel
theorem de_R_sortAsRun_29 : decode mb_R_sortAsRun 29 = .ok (.iconst 1, 1) := by decide +kernel
theorem de_R_sortAsRun_30 : decode mb_R_sortAsRun 30 = .ok (.isub, 1) := by decide +kernel
theorem de_R_sortAsRun_31 : decode mb_R_sortAsRun 31 = .ok (.aaload, 1) := by decide +kernel
theorem de_R_sortAsRun_32 : decode mb_R_sortAsRun 32 = .ok (.invokevirtual 27, 3) := by decide +kernel
theorem de_R_sortAsRun_35 : decode mb_R_sortAsRun 35 = .ok (.ifCond .eq 23, 3) := by decide +kernel
theorem de_R_sortAsRun_38 : decode mb_R_sortAsRun 38 = .ok (.aload_n 0, 1) := by decide +kernel
theorem de_R_sortAsRun_39 : decode mb_R_sortAsRun 39 = .ok (.getfield 15, 3) := by decide +kernel
theorem de_R_sortAsRun_42 : decode mb_R_sortAsRun 42 = .ok (.iload_n 3, 1) := by decide +kernel
theorem de_R_sortAsRun_43 : decode mb_R_sortAsRun 43 = .ok (.aload_n 0, 1) := by decide +kernel
theorem de_R_sortAsRun_44 : decode mb_R_sortAsRun 44 = .ok (.getfield 15, 3) := by decide +kernel
theorem de_R_sortAsRun_47 : decode mb_R_sortAsRun 47 = .ok (.iload_n 3, 1) := by decide +kernel
theorem de_R_sortAsRun_48 : decode mb_R_sortAsRun 48 = .ok (.iconst 1, 1) := by decide +kernel
theorem de_R_sortAsRun_49 : decode mb_R_sortAsRun 49 = .ok (.isub, 1) := by decide +kernel
theorem de_R_sortAsRun_50 : decode mb_R_sortAsRun 50 = .ok (.aaload, 1) := by decide +kernel
theorem de_R_sortAsRun_51 : decode mb_R_sortAsRun 51 = .ok (.aastore, 1) := by decide +kernel
theorem de_R_sortAsRun_52 : decode mb_R_sortAsRun 52 = .ok (.iinc 3 (-1), 3) := by decide +kernel
theorem de_R_sortAsRun_55 : decode mb_R_sortAsRun 55 = .ok (.goto (-36), 3) := by decide +kernel
theorem de_R_sortAsRun_58 : decode mb_R_sortAsRun 58 = .ok (.aload_n 0, 1) := by decide +kernel
theorem de_R_sortAsRun_59 : decode mb_R_sortAsRun 59 = .ok (.getfield 15, 3) := by decide +kernel
theorem de_R_sortAsRun_62 : decode mb_R_sortAsRun 62 = .ok (.iload_n 3, 1) := by decide +kernel
theorem de_R_sortAsRun_63 : decode mb_R_sortAsRun 63 = .ok (.aload_n 2, 1) := by decide +kernel
theorem de_R_sortAsRun_64 : decode mb_R_sortAsRun 64 = .ok (.aastore, 1) := by decide +kernel
theorem de_R_sortAsRun_65 : decode mb_R_sortAsRun 65 = .ok (.iinc 1 1, 3) := by decide +kernel
theorem de_R_sortAsRun_68 : decode mb_R_sortAsRun 68 = .ok (.goto (-66), 3) := by decide +kernel
theorem de_R_sortAsRun_71 : decode mb_R_sortAsRun 71 = .ok (.return_, 1) := by decide +kernel
theorem de_E_standsBefore_0 : decode mb_E_standsBefore 0 = .ok (.aload_n 1, 1) := by decide +kernel
theorem de_E_standsBefore_1 : decode mb_E_standsBefore 1 = .ok (.ifnull 43, 3) := by decide +kernel
theorem de_E_standsBefore_4 : decode mb_E_standsBefore 4 = .ok (.aload_n 0, 1) := by decide +kernel
theorem de_E_standsBefore_5 : decode mb_E_standsBefore 5 = .ok (.getfield 7, 3) := by decide +kernel
theorem de_E_standsBefore_8 : decode mb_E_standsBefore 8 = .ok (.aload_n 1, 1) := by decide +kernel
theorem de_E_standsBefore_9 : decode mb_E_standsBefore 9 = .ok (.getfield 7, 3) := by decide +kernel
theorem de_E_standsBefore_12 : decode mb_E_standsBefore 12 = .ok (.if_icmp .eq 17, 3) := by decide +kernel
theorem de_E_standsBefore_15 : decode mb_E_standsBefore 15 = .ok (.aload_n 0, 1) := by decide +kernel
theorem de_E_standsBefore_16 : decode mb_E_standsBefore 16 = .ok (.getfield 7, 3) := by decide +kernel
theorem de_E_standsBefore_19 : decode mb_E_standsBefore 19 = .ok (.aload_n 1, 1) := by decide +kernel
theorem de_E_standsBefore_20 : decode mb_E_standsBefore 20 = .ok (.getfield 7, 3) := by decide +kernel
theorem de_E_standsBefore_23 : decode mb_E_standsBefore 23 = .ok (.if_icmp .ge 21, 3) := by decide +kernel
theorem de_E_standsBefore_26 : decode mb_E_standsBefore 26 = .ok (.goto 14, 3) := by decide +kernel
theorem de_E_standsBefore_29 : decode mb_E_standsBefore 29 = .ok (.aload_n 0, 1) := by decide +kernel
theorem de_E_standsBefore_30 : decode mb_E_standsBefore 30 = .ok (.getfield 13, 3) := by decide +kernel
theorem de_E_standsBefore_33 : decode mb_E_standsBefore 33 = .ok (.aload_n 1, 1) := by decide +kernel
theorem de_E_standsBefore_34 : decode mb_E_standsBefore 34 = .ok (.getfield 13, 3) := by decide +kernel
theorem de_E_standsBefore_37 : decode mb_E_standsBefore 37 = .ok (.if_icmp .le 7, 3) := by decide +kernel
theorem de_E_standsBefore_40 : decode mb_E_standsBefore 40 = .ok (.iconst 1, 1) := by decide +kernel
theorem de_E_standsBefore_41 : decode mb_E_standsBefore 41 = .ok (.goto 4, 3) := by decide +kernel
theorem de_E_standsBefore_44 : decode mb_E_standsBefore 44 = .ok (.iconst 0, 1) := by decide +kernel
theorem de_E_standsBefore_45 : decode mb_E_standsBefore 45 = .ok (.ireturn, 1) := by decide +kernel
theorem de_U_init_0 : decode mb_U_init 0 = .ok (.aload_n 0, 1) := by decide +kernel
theorem de_U_init_1 : decode mb_U_init 1 = .ok (.invokespecial 1, 3) := by decide +kernel
theorem de_U_init_4 : decode mb_U_init 4 = .ok (.aload_n 0, 1) := by decide +kernel
theorem de_U_init_5 : decode mb_U_init 5 = .ok (.new 7, 3) := by decide +kernel
theorem de_U_init_8 : decode mb_U_init 8 = .ok (.dup, 1) := by decide +kernel
theorem de_U_init_9 : decode mb_U_init 9 = .ok (.aload_n 1, 1) := by decide +kernel
theorem de_U_init_10 : decode mb_U_init 10 = .ok (.invokevirtual 9, 3) := by decide +kernel
theorem de_U_init_13 : decode mb_U_init 13 = .ok (.invokespecial 13, 3) := by decide +kernel
theorem de_U_init_16 : decode mb_U_init 16 = .ok (.putfield 16, 3) := by decide +kernel
theorem de_U_init_19 : decode mb_U_init 19 = .ok (.aload_n 0, 1) := by decide +kernel
theorem de_U_init_20 : decode mb_U_init 20 = .ok (.getfield 16, 3) := by decide +kernel
theorem de_U_init_23 : decode mb_U_init 23 = .ok (.aload_n 1, 1) := by decide +kernel
theorem de_U_init_24 : decode mb_U_init 24 = .ok (.invokevirtual 22, 3) := by decide +kernel
theorem de_U_init_27 : decode mb_U_init 27 = .ok (.aload_n 0, 1) := by decide +kernel
theorem de_U_init_28 : decode mb_U_init 28 = .ok (.aload_n 1, 1) := by decide +kernel
theorem de_U_init_29 : decode mb_U_init 29 = .ok (.invokevirtual 9, 3) := by decide +kernel
theorem de_U_init_32 : decode mb_U_init 32 = .ok (.bipush 8, 2) := by decide +kernel
theorem de_U_init_34 : decode mb_U_init 34 = .ok (.iadd, 1) := by decide +kernel
theorem de_U_init_35 : decode mb_U_init 35 = .ok (.iconst 1, 1) := by decide +kernel
theorem de_U_init_36 : decode mb_U_init 36 = .ok (.isub, 1) := by decide +kernel
theorem de_U_init_37 : decode mb_U_init 37 = .ok (.bipush 8, 2) := by decide +kernel
theorem de_U_init_39 : decode mb_U_init 39 = .ok (.idiv, 1) := by decide +kernel
theorem de_U_init_40 : decode mb_U_init 40 = .ok (.newarray .long, 2) := by decide +kernel
theorem de_U_init_42 : decode mb_U_init 42 = .ok (.putfield 26, 3) := by decide +kernel
theorem de_U_init_45 : decode mb_U_init 45 = .ok (.iconst 0, 1) := by decide +kernel
theorem de_U_init_46 : decode mb_U_init 46 = .ok (.istore_n 2, 1) := by decide +kernel
theorem de_U_init_47 : decode mb_U_init 47 = .ok (.iload_n 2, 1) := by decide +kernel
theorem de_U_init_48 : decode mb_U_init 48 = .ok (.aload_n 1, 1) := by decide +kernel
theorem de_U_init_49 : decode mb_U_init 49 = .ok (.invokevirtual 9, 3) := by decide +kernel
theorem de_U_init_52 : decode mb_U_init 52 = .ok (.if_icmp .ge 21, 3) := by decide +kernel
theorem de_U_init_55 : decode mb_U_init 55 = .ok (.aload_n 0, 1) := by decide +kernel
theorem de_U_init_56 : decode mb_U_init 56 = .ok (.getfield 26, 3) := by decide +kernel
theorem de_U_init_59 : decode mb_U_init 59 = .ok (.aload_n 1, 1) := by decide +kernel
theorem de_U_init_60 : decode mb_U_init 60 = .ok (.iload_n 2, 1) := by decide +kernel
theorem de_U_init_61 : decode mb_U_init 61 = .ok (.invokevirtual 30, 3) := by decide +kernel
theorem de_U_init_64 : decode mb_U_init 64 = .ok (.invokestatic 34, 3) := by decide +kernel
theorem de_U_init_67 : decode mb_U_init 67 = .ok (.iinc 2 1, 3) := by decide +kernel
theorem de_U_init_70 : decode mb_U_init 70 = .ok (.goto (-23), 3) := by decide +kernel
theorem de_U_init_73 : decode mb_U_init 73 = .ok (.return_, 1) := by decide +kernel
theorem de_R_addAll_0 : decode mb_R_addAll 0 = .ok (.iconst 0, 1) := by decide +kernel
theorem de_R_addAll_1 : decode mb_R_addAll 1 = .ok (.istore_n 2, 1) := by decide +kernel
theorem de_R_addAll_2 : decode mb_R_addAll 2 = .ok (.iload_n 2, 1) := by decide +kernel
theorem de_R_addAll_3 : decode mb_R_addAll 3 = .ok (.aload_n 1, 1) := by decide +kernel
theorem de_R_addAll_4 : decode mb_R_addAll 4 = .ok (.getfield 7, 3) := by decide +kernel
theorem de_R_addAll_7 : decode mb_R_addAll 7 = .ok (.if_icmp .ge 19, 3) := by decide +kernel
theorem de_R_addAll_10 : decode mb_R_addAll 10 = .ok (.aload_n 0, 1) := by decide +kernel
theorem de_R_addAll_11 : decode mb_R_addAll 11 = .ok (.aload_n 1, 1) := by decide +kernel
theorem de_R_addAll_12 : decode mb_R_addAll 12 = .ok (.getfield 15, 3) := by decide +kernel
theorem de_R_addAll_15 : decode mb_R_addAll 15 = .ok (.iload_n 2, 1) := by decide +kernel
theorem de_R_addAll_16 : decode mb_R_addAll 16 = .ok (.aaload, 1) := by decide +kernel
theorem de_R_addAll_17 : decode mb_R_addAll 17 = .ok (.invokevirtual 19, 3) := by decide +kernel
theorem de_R_addAll_20 : decode mb_R_addAll 20 = .ok (.iinc 2 1, 3) := by decide +kernel
theorem de_R_addAll_23 : decode mb_R_addAll 23 = .ok (.goto (-21), 3) := by decide +kernel
theorem de_R_addAll_26 : decode mb_R_addAll 26 = .ok (.return_, 1) := by decide +kernel
theorem de_R_add_0 : decode mb_R_add 0 = .ok (.aload_n 1, 1) := by decide +kernel
theorem de_R_add_1 : decode mb_R_add 1 = .ok (.ifnull 35, 3) := by decide +kernel
theorem de_R_add_4 : decode mb_R_add 4 = .ok (.aload_n 0, 1) := by decide +kernel
theorem de_R_add_5 : decode mb_R_add 5 = .ok (.getfield 7, 3) := by decide +kernel
theorem de_R_add_8 : decode mb_R_add 8 = .ok (.aload_n 0, 1) := by decide +kernel
theorem de_R_add_9 : decode mb_R_add 9 = .ok (.getfield 15, 3) := by decide +kernel
theorem de_R_add_12 : decode mb_R_add 12 = .ok (.arraylength, 1) := by decide +kernel
theorem de_R_add_13 : decode mb_R_add 13 = .ok (.if_icmp .ge 23, 3) := by decide +kernel
theorem de_R_add_16 : decode mb_R_add 16 = .ok (.aload_n 0, 1) := by decide +kernel
theorem de_R_add_17 : decode mb_R_add 17 = .ok (.getfield 15, 3) := by decide +kernel
theorem de_R_add_20 : decode mb_R_add 20 = .ok (.aload_n 0, 1) := by decide +kernel
theorem de_R_add_21 : decode mb_R_add 21 = .ok (.getfield 7, 3) := by decide +kernel
theorem de_R_add_24 : decode mb_R_add 24 = .ok (.aload_n 1, 1) := by decide +kernel
theorem de_R_add_25 : decode mb_R_add 25 = .ok (.aastore, 1) := by decide +kernel
theorem de_R_add_26 : decode mb_R_add 26 = .ok (.aload_n 0, 1) := by decide +kernel
theorem de_R_add_27 : decode mb_R_add 27 = .ok (.dup, 1) := by decide +kernel
theorem de_R_add_28 : decode mb_R_add 28 = .ok (.getfield 7, 3) := by decide +kernel
theorem de_R_add_31 : decode mb_R_add 31 = .ok (.iconst 1, 1) := by decide +kernel
theorem de_R_add_32 : decode mb_R_add 32 = .ok (.iadd, 1) := by decide +kernel
theorem de_R_add_33 : decode mb_R_add 33 = .ok (.putfield 7, 3) := by decide +kernel
theorem de_R_add_36 : decode mb_R_add 36 = .ok (.return_, 1) := by decide +kernel
theorem de_R_at_0 : decode mb_R_at 0 = .ok (.iload_n 1, 1) := by decide +kernel
theorem de_R_at_1 : decode mb_R_at 1 = .ok (.ifCond .lt 20, 3) := by decide +kernel
theorem de_R_at_4 : decode mb_R_at 4 = .ok (.iload_n 1, 1) := by decide +kernel
theorem de_R_at_5 : decode mb_R_at 5 = .ok (.aload_n 0, 1) := by decide +kernel
theorem de_R_at_6 : decode mb_R_at 6 = .ok (.getfield 7, 3) := by decide +kernel
theorem de_R_at_9 : decode mb_R_at 9 = .ok (.if_icmp .ge 12, 3) := by decide +kernel
theorem de_R_at_12 : decode mb_R_at 12 = .ok (.aload_n 0, 1) := by decide +kernel
theorem de_R_at_13 : decode mb_R_at 13 = .ok (.getfield 15, 3) := by decide +kernel
theorem de_R_at_16 : decode mb_R_at 16 = .ok (.iload_n 1, 1) := by decide +kernel
theorem de_R_at_17 : decode mb_R_at 17 = .ok (.aaload, 1) := by decide +kernel
theorem de_R_at_18 : decode mb_R_at 18 = .ok (.goto 4, 3) := by decide +kernel
theorem de_R_at_21 : decode mb_R_at 21 = .ok (.aconst_null, 1) := by decide +kernel
theorem de_R_at_22 : decode mb_R_at 22 = .ok (.areturn, 1) := by decide +kernel
theorem de_U_setBits_0 : decode mb_U_setBits 0 = .ok (.iconst 0, 1) := by decide +kernel
theorem de_U_setBits_1 : decode mb_U_setBits 1 = .ok (.istore_n 2, 1) := by decide +kernel
theorem de_U_setBits_2 : decode mb_U_setBits 2 = .ok (.aload_n 1, 1) := by decide +kernel
theorem de_U_setBits_3 : decode mb_U_setBits 3 = .ok (.ifnull 46, 3) := by decide +kernel
theorem de_U_setBits_6 : decode mb_U_setBits 6 = .ok (.iload_n 2, 1) := by decide +kernel
theorem de_U_setBits_7 : decode mb_U_setBits 7 = .ok (.getstatic 38, 3) := by decide +kernel
theorem de_U_setBits_10 : decode mb_U_setBits 10 = .ok (.arraylength, 1) := by decide +kernel
theorem de_U_setBits_11 : decode mb_U_setBits 11 = .ok (.if_icmp .ge 38, 3) := by decide +kernel
theorem de_U_setBits_14 : decode mb_U_setBits 14 = .ok (.aload_n 1, 1) := by decide +kernel
theorem de_U_setBits_15 : decode mb_U_setBits 15 = .ok (.getfield 42, 3) := by decide +kernel
theorem de_U_setBits_18 : decode mb_U_setBits 18 = .ok (.getstatic 38, 3) := by decide +kernel
theorem de_U_setBits_21 : decode mb_U_setBits 21 = .ok (.iload_n 2, 1) := by decide +kernel
theorem de_U_setBits_22 : decode mb_U_setBits 22 = .ok (.iaload, 1) := by decide +kernel
theorem de_U_setBits_23 : decode mb_U_setBits 23 = .ok (.aload_n 0, 1) := by decide +kernel
theorem de_U_setBits_24 : decode mb_U_setBits 24 = .ok (.invokestatic 48, 3) := by decide +kernel
theorem de_U_setBits_27 : decode mb_U_setBits 27 = .ok (.istore_n 3, 1) := by decide +kernel
theorem de_U_setBits_28 : decode mb_U_setBits 28 = .ok (.aload_n 0, 1) := by decide +kernel
theorem de_U_setBits_29 : decode mb_U_setBits 29 = .ok (.iload_n 3, 1) := by decide +kernel
theorem de_U_setBits_30 : decode mb_U_setBits 30 = .ok (.bipush 64, 2) := by decide +kernel
theorem de_U_setBits_32 : decode mb_U_setBits 32 = .ok (.idiv, 1) := by decide +kernel
theorem de_U_setBits_33 : decode mb_U_setBits 33 = .ok (.dup2, 1) := by decide +kernel
theorem de_U_setBits_34 : decode mb_U_setBits 34 = .ok (.laload, 1) := by decide +kernel
theorem de_U_setBits_35 : decode mb_U_setBits 35 = .ok (.lconst 1, 1) := by decide +kernel
theorem de_U_setBits_36 : decode mb_U_setBits 36 = .ok (.iload_n 3, 1) := by decide +kernel
theorem de_U_setBits_37 : decode mb_U_setBits 37 = .ok (.bipush 64, 2) := by decide +kernel
theorem de_U_setBits_39 : decode mb_U_setBits 39 = .ok (.irem, 1) := by decide +kernel
theorem de_U_setBits_40 : decode mb_U_setBits 40 = .ok (.lshl, 1) := by decide +kernel
theorem de_U_setBits_41 : decode mb_U_setBits 41 = .ok (.lor, 1) := by decide +kernel
theorem de_U_setBits_42 : decode mb_U_setBits 42 = .ok (.lastore, 1) := by decide +kernel
theorem de_U_setBits_43 : decode mb_U_setBits 43 = .ok (.iinc 2 1, 3) := by decide +kernel
theorem de_U_setBits_46 : decode mb_U_setBits 46 = .ok (.goto (-44), 3) := by decide +kernel
theorem de_U_setBits_49 : decode mb_U_setBits 49 = .ok (.return_, 1) := by decide +kernel
theorem de_U_bitOf_0 : decode mb_U_bitOf 0 = .ok (.aload_n 2, 1) := by decide +kernel
theorem de_U_bitOf_1 : decode mb_U_bitOf 1 = .ok (.arraylength, 1) := by decide +kernel
theorem de_U_bitOf_2 : decode mb_U_bitOf 2 = .ok (.bipush 64, 2) := by decide +kernel
theorem de_U_bitOf_4 : decode mb_U_bitOf 4 = .ok (.imul, 1) := by decide +kernel
theorem de_U_bitOf_5 : decode mb_U_bitOf 5 = .ok (.istore_n 3, 1) := by decide +kernel
theorem de_U_bitOf_6 : decode mb_U_bitOf 6 = .ok (.iload_n 3, 1) := by decide +kernel
theorem de_U_bitOf_7 : decode mb_U_bitOf 7 = .ok (.ifCond .ne 7, 3) := by decide +kernel
theorem de_U_bitOf_10 : decode mb_U_bitOf 10 = .ok (.iconst 0, 1) := by decide +kernel
theorem de_U_bitOf_11 : decode mb_U_bitOf 11 = .ok (.goto 11, 3) := by decide +kernel
theorem de_U_bitOf_14 : decode mb_U_bitOf 14 = .ok (.iload_n 0, 1) := by decide +kernel
theorem de_U_bitOf_15 : decode mb_U_bitOf 15 = .ok (.iload_n 1, 1) := by decide +kernel
theorem de_U_bitOf_16 : decode mb_U_bitOf 16 = .ok (.imul, 1) := by decide +kernel
theorem de_U_bitOf_17 : decode mb_U_bitOf 17 = .ok (.bipush 12, 2) := by decide +kernel
theorem de_U_bitOf_19 : decode mb_U_bitOf 19 = .ok (.iushr, 1) := by decide +kernel
theorem de_U_bitOf_20 : decode mb_U_bitOf 20 = .ok (.iload_n 3, 1) := by decide +kernel
theorem de_U_bitOf_21 : decode mb_U_bitOf 21 = .ok (.irem, 1) := by decide +kernel
theorem de_U_bitOf_22 : decode mb_U_bitOf 22 = .ok (.ireturn, 1) := by decide +kernel
theorem de_V_add_0 : decode mb_V_add 0 = .ok (.aload_n 0, 1) := by decide +kernel
theorem de_V_add_1 : decode mb_V_add 1 = .ok (.getfield 10, 3) := by decide +kernel
theorem de_V_add_4 : decode mb_V_add 4 = .ok (.aload_n 1, 1) := by decide +kernel
theorem de_V_add_5 : decode mb_V_add 5 = .ok (.invokevirtual 30, 3) := by decide +kernel
theorem de_V_add_8 : decode mb_V_add 8 = .ok (.pop, 1) := by decide +kernel
theorem de_V_add_9 : decode mb_V_add 9 = .ok (.aload_n 0, 1) := by decide +kernel
theorem de_V_add_10 : decode mb_V_add 10 = .ok (.dup, 1) := by decide +kernel
theorem de_V_add_11 : decode mb_V_add 11 = .ok (.getfield 16, 3) := by decide +kernel
theorem de_V_add_14 : decode mb_V_add 14 = .ok (.aload_n 1, 1) := by decide +kernel
theorem de_V_add_15 : decode mb_V_add 15 = .ok (.invokevirtual 34, 3) := by decide +kernel
theorem de_V_add_18 : decode mb_V_add 18 = .ok (.invokevirtual 38, 3) := by decide +kernel
theorem de_V_add_21 : decode mb_V_add 21 = .ok (.iadd, 1) := by decide +kernel
theorem de_V_add_22 : decode mb_V_add 22 = .ok (.putfield 16, 3) := by decide +kernel
theorem de_V_add_25 : decode mb_V_add 25 = .ok (.return_, 1) := by decide +kernel
theorem de_U_entries_0 : decode mb_U_entries 0 = .ok (.aload_n 0, 1) := by decide +kernel
theorem de_U_entries_1 : decode mb_U_entries 1 = .ok (.getfield 16, 3) := by decide +kernel
theorem de_U_entries_4 : decode mb_U_entries 4 = .ok (.areturn, 1) := by decide +kernel
theorem de_R_cutTo_0 : decode mb_R_cutTo 0 = .ok (.iload_n 1, 1) := by decide +kernel
theorem de_R_cutTo_1 : decode mb_R_cutTo 1 = .ok (.ifCond .lt 16, 3) := by decide +kernel
theorem de_R_cutTo_4 : decode mb_R_cutTo 4 = .ok (.iload_n 1, 1) := by decide +kernel
theorem de_R_cutTo_5 : decode mb_R_cutTo 5 = .ok (.aload_n 0, 1) := by decide +kernel
theorem de_R_cutTo_6 : decode mb_R_cutTo 6 = .ok (.getfield 7, 3) := by decide +kernel
theorem de_R_cutTo_9 : decode mb_R_cutTo 9 = .ok (.if_icmp .ge 8, 3) := by decide +kernel
theorem de_R_cutTo_12 : decode mb_R_cutTo 12 = .ok (.aload_n 0, 1) := by decide +kernel
theorem de_R_cutTo_13 : decode mb_R_cutTo 13 = .ok (.iload_n 1, 1) := by decide +kernel
theorem de_R_cutTo_14 : decode mb_R_cutTo 14 = .ok (.putfield 7, 3) := by decide +kernel
theorem de_R_cutTo_17 : decode mb_R_cutTo 17 = .ok (.return_, 1) := by decide +kernel
theorem de_S_forgetAll_0 : decode mb_S_forgetAll 0 = .ok (.iconst 0, 1) := by decide +kernel
theorem de_S_forgetAll_1 : decode mb_S_forgetAll 1 = .ok (.istore_n 1, 1) := by decide +kernel
theorem de_S_forgetAll_2 : decode mb_S_forgetAll 2 = .ok (.iload_n 1, 1) := by decide +kernel
theorem de_S_forgetAll_3 : decode mb_S_forgetAll 3 = .ok (.bipush 6, 2) := by decide +kernel
theorem de_S_forgetAll_5 : decode mb_S_forgetAll 5 = .ok (.if_icmp .ge 16, 3) := by decide +kernel
theorem de_S_forgetAll_8 : decode mb_S_forgetAll 8 = .ok (.aload_n 0, 1) := by decide +kernel
theorem de_S_forgetAll_9 : decode mb_S_forgetAll 9 = .ok (.getfield 15, 3) := by decide +kernel
theorem de_S_forgetAll_12 : decode mb_S_forgetAll 12 = .ok (.iload_n 1, 1) := by decide +kernel
theorem de_S_forgetAll_13 : decode mb_S_forgetAll 13 = .ok (.iconst 0, 1) := by decide +kernel
theorem de_S_forgetAll_14 : decode mb_S_forgetAll 14 = .ok (.bastore, 1) := by decide +kernel
theorem de_S_forgetAll_15 : decode mb_S_forgetAll 15 = .ok (.iinc 1 1, 3) := by decide +kernel
theorem de_S_forgetAll_18 : decode mb_S_forgetAll 18 = .ok (.goto (-16), 3) := by decide +kernel
theorem de_S_forgetAll_21 : decode mb_S_forgetAll 21 = .ok (.return_, 1) := by decide +kernel
theorem de_V_copyTo_0 : decode mb_V_copyTo 0 = .ok (.iconst 0, 1) := by decide +kernel
theorem de_V_copyTo_1 : decode mb_V_copyTo 1 = .ok (.istore_n 2, 1) := by decide +kernel
theorem de_V_copyTo_2 : decode mb_V_copyTo 2 = .ok (.iload_n 2, 1) := by decide +kernel
theorem de_V_copyTo_3 : decode mb_V_copyTo 3 = .ok (.aload_n 0, 1) := by decide +kernel
theorem de_V_copyTo_4 : decode mb_V_copyTo 4 = .ok (.getfield 10, 3) := by decide +kernel
theorem de_V_copyTo_7 : decode mb_V_copyTo 7 = .ok (.invokevirtual 20, 3) := by decide +kernel
theorem de_V_copyTo_10 : decode mb_V_copyTo 10 = .ok (.if_icmp .ge 27, 3) := by decide +kernel
theorem de_V_copyTo_13 : decode mb_V_copyTo 13 = .ok (.aload_n 1, 1) := by decide +kernel
theorem de_V_copyTo_14 : decode mb_V_copyTo 14 = .ok (.aload_n 0, 1) := by decide +kernel
theorem de_V_copyTo_15 : decode mb_V_copyTo 15 = .ok (.getfield 10, 3) := by decide +kernel
theorem de_V_copyTo_18 : decode mb_V_copyTo 18 = .ok (.iload_n 2, 1) := by decide +kernel
theorem de_V_copyTo_19 : decode mb_V_copyTo 19 = .ok (.invokevirtual 24, 3) := by decide +kernel
theorem de_V_copyTo_22 : decode mb_V_copyTo 22 = .ok (.checkcast 28, 3) := by decide +kernel
theorem de_V_copyTo_25 : decode mb_V_copyTo 25 = .ok (.invokevirtual 34, 3) := by decide +kernel
theorem de_V_copyTo_28 : decode mb_V_copyTo 28 = .ok (.invokevirtual 41, 3) := by decide +kernel
theorem de_V_copyTo_31 : decode mb_V_copyTo 31 = .ok (.iinc 2 1, 3) := by decide +kernel
theorem de_V_copyTo_34 : decode mb_V_copyTo 34 = .ok (.goto (-32), 3) := by decide +kernel
theorem de_V_copyTo_37 : decode mb_V_copyTo 37 = .ok (.return_, 1) := by decide +kernel
theorem de_R_greatestSequence_0 : decode mb_R_greatestSequence 0 = .ok (.iconst 0, 1) := by decide +kernel
theorem de_R_greatestSequence_1 : decode mb_R_greatestSequence 1 = .ok (.istore_n 1, 1) := by decide +kernel
theorem de_R_greatestSequence_2 : decode mb_R_greatestSequence 2 = .ok (.iconst 0, 1) := by decide +kernel
theorem de_R_greatestSequence_3 : decode mb_R_greatestSequence 3 = .ok (.istore_n 2, 1) := by decide +kernel
theorem de_R_greatestSequence_4 : decode mb_R_greatestSequence 4 = .ok (.iload_n 2, 1) := by decide +kernel
theorem de_R_greatestSequence_5 : decode mb_R_greatestSequence 5 = .ok (.aload_n 0, 1) := by decide +kernel
theorem de_R_greatestSequence_6 : decode mb_R_greatestSequence 6 = .ok (.getfield 7, 3) := by decide +kernel
theorem de_R_greatestSequence_9 : decode mb_R_greatestSequence 9 = .ok (.if_icmp .ge 23, 3) := by decide +kernel
theorem de_R_greatestSequence_12 : decode mb_R_greatestSequence 12 = .ok (.iload_n 1, 1) := by decide +kernel
theorem de_R_greatestSequence_13 : decode mb_R_greatestSequence 13 = .ok (.aload_n 0, 1) := by decide +kernel
theorem de_R_greatestSequence_14 : decode mb_R_greatestSequence 14 = .ok (.getfield 15, 3) := by decide +kernel
theorem de_R_greatestSequence_17 : decode mb_R_greatestSequence 17 = .ok (.iload_n 2, 1) := by decide +kernel
theorem de_R_greatestSequence_18 : decode mb_R_greatestSequence 18 = .ok (.aaload, 1) := by decide +kernel
theorem de_R_greatestSequence_19 : decode mb_R_greatestSequence 19 = .ok (.getfield 34, 3) := by decide +kernel
theorem de_R_greatestSequence_22 : decode mb_R_greatestSequence 22 = .ok (.invokestatic 37, 3) := by decide +kernel
theorem de_R_greatestSequence_25 : decode mb_R_greatestSequence 25 = .ok (.istore_n 1, 1) := by decide +kernel
theorem de_R_greatestSequence_26 : decode mb_R_greatestSequence 26 = .ok (.iinc 2 1, 3) := by decide +kernel
theorem de_R_greatestSequence_29 : decode mb_R_greatestSequence 29 = .ok (.goto (-25), 3) := by decide +kernel
theorem de_R_greatestSequence_32 : decode mb_R_greatestSequence 32 = .ok (.iload_n 1, 1) := by decide +kernel
theorem de_R_greatestSequence_33 : decode mb_R_greatestSequence 33 = .ok (.ireturn, 1) := by decide +kernel
theorem de_R_isFull_0 : decode mb_R_isFull 0 = .ok (.aload_n 0, 1) := by decide +kernel
theorem de_R_isFull_1 : decode mb_R_isFull 1 = .ok (.getfield 7, 3) := by decide +kernel
theorem de_R_isFull_4 : decode mb_R_isFull 4 = .ok (.aload_n 0, 1) := by decide +kernel
theorem de_R_isFull_5 : decode mb_R_isFull 5 = .ok (.getfield 15, 3) := by decide +kernel
theorem de_R_isFull_8 : decode mb_R_isFull 8 = .ok (.arraylength, 1) := by decide +kernel
theorem de_R_isFull_9 : decode mb_R_isFull 9 = .ok (.if_icmp .lt 7, 3) := by decide +kernel
theorem de_R_isFull_12 : decode mb_R_isFull 12 = .ok (.iconst 1, 1) := by decide +kernel
theorem de_R_isFull_13 : decode mb_R_isFull 13 = .ok (.goto 4, 3) := by decide +kernel
theorem de_R_isFull_16 : decode mb_R_isFull 16 = .ok (.iconst 0, 1) := by decide +kernel
theorem de_R_isFull_17 : decode mb_R_isFull 17 = .ok (.ireturn, 1) := by decide +kernel
theorem de_V_entryCount_0 : decode mb_V_entryCount 0 = .ok (.aload_n 0, 1) := by decide +kernel
theorem de_V_entryCount_1 : decode mb_V_entryCount 1 = .ok (.getfield 16, 3) := by decide +kernel
theorem de_V_entryCount_4 : decode mb_V_entryCount 4 = .ok (.ireturn, 1) := by decide +kernel
theorem de_E_init_0 : decode mb_E_init 0 = .ok (.aload_n 0, 1) := by decide +kernel
theorem de_E_init_1 : decode mb_E_init 1 = .ok (.invokespecial 1, 3) := by decide +kernel
theorem de_E_init_4 : decode mb_E_init 4 = .ok (.aload_n 0, 1) := by decide +kernel
theorem de_E_init_5 : decode mb_E_init 5 = .ok (.iload_n 1, 1) := by decide +kernel
theorem de_E_init_6 : decode mb_E_init 6 = .ok (.putfield 7, 3) := by decide +kernel
theorem de_E_init_9 : decode mb_E_init 9 = .ok (.aload_n 0, 1) := by decide +kernel
theorem de_E_init_10 : decode mb_E_init 10 = .ok (.iload_n 2, 1) := by decide +kernel
theorem de_E_init_11 : decode mb_E_init 11 = .ok (.putfield 13, 3) := by decide +kernel
theorem de_E_init_14 : decode mb_E_init 14 = .ok (.aload_n 0, 1) := by decide +kernel
theorem de_E_init_15 : decode mb_E_init 15 = .ok (.lload_n 3, 1) := by decide +kernel
theorem de_E_init_16 : decode mb_E_init 16 = .ok (.putfield 16, 3) := by decide +kernel
theorem de_E_init_19 : decode mb_E_init 19 = .ok (.aload_n 0, 1) := by decide +kernel
theorem de_E_init_20 : decode mb_E_init 20 = .ok (.iload 5, 2) := by decide +kernel
theorem de_E_init_22 : decode mb_E_init 22 = .ok (.putfield 20, 3) := by decide +kernel
theorem de_E_init_25 : decode mb_E_init 25 = .ok (.return_, 1) := by decide +kernel
theorem de_E_numbered_0 : decode mb_E_numbered 0 = .ok (.new 8, 3) := by decide +kernel
theorem de_E_numbered_3 : decode mb_E_numbered 3 = .ok (.dup, 1) := by decide +kernel
theorem de_E_numbered_4 : decode mb_E_numbered 4 = .ok (.aload_n 0, 1) := by decide +kernel
theorem de_E_numbered_5 : decode mb_E_numbered 5 = .ok (.getfield 7, 3) := by decide +kernel
theorem de_E_numbered_8 : decode mb_E_numbered 8 = .ok (.iload_n 1, 1) := by decide +kernel
theorem de_E_numbered_9 : decode mb_E_numbered 9 = .ok (.aload_n 0, 1) := by decide +kernel
theorem de_E_numbered_10 : decode mb_E_numbered 10 = .ok (.getfield 16, 3) := by decide +kernel
theorem de_E_numbered_13 : decode mb_E_numbered 13 = .ok (.aload_n 0, 1) := by decide +kernel
theorem de_E_numbered_14 : decode mb_E_numbered 14 = .ok (.getfield 20, 3) := by decide +kernel
theorem de_E_numbered_17 : decode mb_E_numbered 17 = .ok (.invokespecial 24, 3) := by decide +kernel
theorem de_E_numbered_20 : decode mb_E_numbered 20 = .ok (.areturn, 1) := by decide +kernel
theorem de_V_runCount_0 : decode mb_V_runCount 0 = .ok (.aload_n 0, 1) := by decide +kernel
theorem de_V_runCount_1 : decode mb_V_runCount 1 = .ok (.getfield 10, 3) := by decide +kernel
theorem de_V_runCount_4 : decode mb_V_runCount 4 = .ok (.invokevirtual 20, 3) := by decide +kernel
theorem de_V_runCount_7 : decode mb_V_runCount 7 = .ok (.ireturn, 1) := by decide +kernel
theorem de_E_hasKeyOf_0 : decode mb_E_hasKeyOf 0 = .ok (.aload_n 1, 1) := by decide +kernel
theorem de_E_hasKeyOf_1 : decode mb_E_hasKeyOf 1 = .ok (.ifnull 18, 3) := by decide +kernel
theorem de_E_hasKeyOf_4 : decode mb_E_hasKeyOf 4 = .ok (.aload_n 0, 1) := by decide +kernel
theorem de_E_hasKeyOf_5 : decode mb_E_hasKeyOf 5 = .ok (.getfield 7, 3) := by decide +kernel
theorem de_E_hasKeyOf_8 : decode mb_E_hasKeyOf 8 = .ok (.aload_n 1, 1) := by decide +kernel
theorem de_E_hasKeyOf_9 : decode mb_E_hasKeyOf 9 = .ok (.getfield 7, 3) := by decide +kernel
theorem de_E_hasKeyOf_12 : decode mb_E_hasKeyOf 12 = .ok (.if_icmp .ne 7, 3) := by decide +kernel
theorem de_E_hasKeyOf_15 : decode mb_E_hasKeyOf 15 = .ok (.iconst 1, 1) := by decide +kernel
theorem de_E_hasKeyOf_16 : decode mb_E_hasKeyOf 16 = .ok (.goto 4, 3) := by decide +kernel
theorem de_E_hasKeyOf_19 : decode mb_E_hasKeyOf 19 = .ok (.iconst 0, 1) := by decide +kernel
theorem de_E_hasKeyOf_20 : decode mb_E_hasKeyOf 20 = .ok (.ireturn, 1) := by decide +kernel
theorem de_S_anyFromBelow_0 : decode mb_S_anyFromBelow 0 = .ok (.iconst 0, 1) := by decide +kernel
theorem de_S_anyFromBelow_1 : decode mb_S_anyFromBelow 1 = .ok (.istore_n 3, 1) := by decide +kernel
theorem de_S_anyFromBelow_2 : decode mb_S_anyFromBelow 2 = .ok (.iload_n 3, 1) := by decide +kernel
theorem de_S_anyFromBelow_3 : decode mb_S_anyFromBelow 3 = .ok (.bipush 6, 2) := by decide +kernel
theorem de_S_anyFromBelow_5 : decode mb_S_anyFromBelow 5 = .ok (.if_icmp .ge 40, 3) := by decide +kernel
theorem de_S_anyFromBelow_8 : decode mb_S_anyFromBelow 8 = .ok (.aload_n 0, 1) := by decide +kernel
theorem de_S_anyFromBelow_9 : decode mb_S_anyFromBelow 9 = .ok (.getfield 15, 3) := by decide +kernel
theorem de_S_anyFromBelow_12 : decode mb_S_anyFromBelow 12 = .ok (.iload_n 3, 1) := by decide +kernel
theorem de_S_anyFromBelow_13 : decode mb_S_anyFromBelow 13 = .ok (.baload, 1) := by decide +kernel
theorem de_S_anyFromBelow_14 : decode mb_S_anyFromBelow 14 = .ok (.ifCond .eq 25, 3) := by decide +kernel
theorem de_S_anyFromBelow_17 : decode mb_S_anyFromBelow 17 = .ok (.iload_n 1, 1) := by decide +kernel
theorem de_S_anyFromBelow_18 : decode mb_S_anyFromBelow 18 = .ok (.aload_n 0, 1) := by decide +kernel
theorem de_S_anyFromBelow_19 : decode mb_S_anyFromBelow 19 = .ok (.getfield 9, 3) := by decide +kernel
theorem de_S_anyFromBelow_22 : decode mb_S_anyFromBelow 22 = .ok (.iload_n 3, 1) := by decide +kernel
theorem de_S_anyFromBelow_23 : decode mb_S_anyFromBelow 23 = .ok (.iaload, 1) := by decide +kernel
theorem de_S_anyFromBelow_24 : decode mb_S_anyFromBelow 24 = .ok (.if_icmp .gt 15, 3) := by decide +kernel
theorem de_S_anyFromBelow_27 : decode mb_S_anyFromBelow 27 = .ok (.aload_n 0, 1) := by decide +kernel
theorem de_S_anyFromBelow_28 : decode mb_S_anyFromBelow 28 = .ok (.getfield 9, 3) := by decide +kernel
theorem de_S_anyFromBelow_31 : decode mb_S_anyFromBelow 31 = .ok (.iload_n 3, 1) := by decide +kernel
theorem de_S_anyFromBelow_32 : decode mb_S_anyFromBelow 32 = .ok (.iaload, 1) := by decide +kernel
theorem de_S_anyFromBelow_33 : decode mb_S_anyFromBelow 33 = .ok (.iload_n 2, 1) := by decide +kernel
theorem de_S_anyFromBelow_34 : decode mb_S_anyFromBelow 34 = .ok (.if_icmp .ge 5, 3) := by decide +kernel
theorem de_S_anyFromBelow_37 : decode mb_S_anyFromBelow 37 = .ok (.iconst 1, 1) := by decide +kernel
theorem de_S_anyFromBelow_38 : decode mb_S_anyFromBelow 38 = .ok (.ireturn, 1) := by decide +kernel
theorem de_S_anyFromBelow_39 : decode mb_S_anyFromBelow 39 = .ok (.iinc 3 1, 3) := by decide +kernel
theorem de_S_anyFromBelow_42 : decode mb_S_anyFromBelow 42 = .ok (.goto (-40), 3) := by decide +kernel
theorem de_S_anyFromBelow_45 : decode mb_S_anyFromBelow 45 = .ok (.iconst 0, 1) := by decide +kernel
theorem de_S_anyFromBelow_46 : decode mb_S_anyFromBelow 46 = .ok (.ireturn, 1) := by decide +kernel
theorem de_R_cutDeletedTail_0 : decode mb_R_cutDeletedTail 0 = .ok (.aload_n 0, 1) := by decide +kernel
theorem de_R_cutDeletedTail_1 : decode mb_R_cutDeletedTail 1 = .ok (.getfield 7, 3) := by decide +kernel
theorem de_R_cutDeletedTail_4 : decode mb_R_cutDeletedTail 4 = .ok (.ifCond .le 33, 3) := by decide +kernel
theorem de_R_cutDeletedTail_7 : decode mb_R_cutDeletedTail 7 = .ok (.aload_n 0, 1) := by decide +kernel
theorem de_R_cutDeletedTail_8 : decode mb_R_cutDeletedTail 8 = .ok (.getfield 15, 3) := by decide +kernel
theorem de_R_cutDeletedTail_11 : decode mb_R_cutDeletedTail 11 = .ok (.aload_n 0, 1) := by decide +kernel
theorem de_R_cutDeletedTail_12 : decode mb_R_cutDeletedTail 12 = .ok (.getfield 7, 3) := by decide +kernel
theorem de_R_cutDeletedTail_15 : decode mb_R_cutDeletedTail 15 = .ok (.iconst 1, 1) := by decide +kernel
theorem de_R_cutDeletedTail_16 : decode mb_R_cutDeletedTail 16 = .ok (.isub, 1) := by decide +kernel
theorem de_R_cutDeletedTail_17 : decode mb_R_cutDeletedTail 17 = .ok (.aaload, 1) := by decide +kernel
theorem de_R_cutDeletedTail_18 : decode mb_R_cutDeletedTail 18 = .ok (.getfield 23, 3) := by decide +kernel
theorem de_R_cutDeletedTail_21 : decode mb_R_cutDeletedTail 21 = .ok (.ifCond .eq 16, 3) := by decide +kernel
theorem de_R_cutDeletedTail_24 : decode mb_R_cutDeletedTail 24 = .ok (.aload_n 0, 1) := by decide +kernel
theorem de_R_cutDeletedTail_25 : decode mb_R_cutDeletedTail 25 = .ok (.dup, 1) := by decide +kernel
theorem de_R_cutDeletedTail_26 : decode mb_R_cutDeletedTail 26 = .ok (.getfield 7, 3) := by decide +kernel
theorem de_R_cutDeletedTail_29 : decode mb_R_cutDeletedTail 29 = .ok (.iconst 1, 1) := by decide +kernel
theorem de_R_cutDeletedTail_30 : decode mb_R_cutDeletedTail 30 = .ok (.isub, 1) := by decide +kernel
theorem de_R_cutDeletedTail_31 : decode mb_R_cutDeletedTail 31 = .ok (.putfield 7, 3) := by decide +kernel
theorem de_R_cutDeletedTail_34 : decode mb_R_cutDeletedTail 34 = .ok (.goto (-34), 3) := by decide +kernel
theorem de_R_cutDeletedTail_37 : decode mb_R_cutDeletedTail 37 = .ok (.return_, 1) := by decide +kernel
theorem de_V_clear_0 : decode mb_V_clear 0 = .ok (.aload_n 0, 1) := by decide +kernel
theorem de_V_clear_1 : decode mb_V_clear 1 = .ok (.getfield 10, 3) := by decide +kernel
theorem de_V_clear_4 : decode mb_V_clear 4 = .ok (.invokevirtual 45, 3) := by decide +kernel
theorem de_V_clear_7 : decode mb_V_clear 7 = .ok (.aload_n 0, 1) := by decide +kernel
theorem de_V_clear_8 : decode mb_V_clear 8 = .ok (.iconst 0, 1) := by decide +kernel
theorem de_V_clear_9 : decode mb_V_clear 9 = .ok (.putfield 16, 3) := by decide +kernel
theorem de_V_clear_12 : decode mb_V_clear 12 = .ok (.return_, 1) := by decide +kernel
theorem de_S_leastFree_0 : decode mb_S_leastFree 0 = .ok (.iconst 0, 1) := by decide +kernel
theorem de_S_leastFree_1 : decode mb_S_leastFree 1 = .ok (.istore_n 1, 1) := by decide +kernel
theorem de_S_leastFree_2 : decode mb_S_leastFree 2 = .ok (.iload_n 1, 1) := by decide +kernel
theorem de_S_leastFree_3 : decode mb_S_leastFree 3 = .ok (.bipush 6, 2) := by decide +kernel
theorem de_S_leastFree_5 : decode mb_S_leastFree 5 = .ok (.if_icmp .ge 20, 3) := by decide +kernel
theorem de_S_leastFree_8 : decode mb_S_leastFree 8 = .ok (.aload_n 0, 1) := by decide +kernel
theorem de_S_leastFree_9 : decode mb_S_leastFree 9 = .ok (.getfield 15, 3) := by decide +kernel
theorem de_S_leastFree_12 : decode mb_S_leastFree 12 = .ok (.iload_n 1, 1) := by decide +kernel
theorem de_S_leastFree_13 : decode mb_S_leastFree 13 = .ok (.baload, 1) := by decide +kernel
theorem de_S_leastFree_14 : decode mb_S_leastFree 14 = .ok (.ifCond .ne 5, 3) := by decide +kernel
theorem de_S_leastFree_17 : decode mb_S_leastFree 17 = .ok (.iload_n 1, 1) := by decide +kernel
theorem de_S_leastFree_18 : decode mb_S_leastFree 18 = .ok (.ireturn, 1) := by decide +kernel
theorem de_S_leastFree_19 : decode mb_S_leastFree 19 = .ok (.iinc 1 1, 3) := by decide +kernel
theorem de_S_leastFree_22 : decode mb_S_leastFree 22 = .ok (.goto (-20), 3) := by decide +kernel
theorem de_S_leastFree_25 : decode mb_S_leastFree 25 = .ok (.iconst (-1), 1) := by decide +kernel
theorem de_S_leastFree_26 : decode mb_S_leastFree 26 = .ok (.ireturn, 1) := by decide +kernel
theorem de_S_keep_0 : decode mb_S_keep 0 = .ok (.iload_n 1, 1) := by decide +kernel
theorem de_S_keep_1 : decode mb_S_keep 1 = .ok (.ifCond .lt 23, 3) := by decide +kernel
theorem de_S_keep_4 : decode mb_S_keep 4 = .ok (.iload_n 1, 1) := by decide +kernel
theorem de_S_keep_5 : decode mb_S_keep 5 = .ok (.bipush 6, 2) := by decide +kernel
theorem de_S_keep_7 : decode mb_S_keep 7 = .ok (.if_icmp .ge 17, 3) := by decide +kernel
theorem de_S_keep_10 : decode mb_S_keep 10 = .ok (.aload_n 0, 1) := by decide +kernel
theorem de_S_keep_11 : decode mb_S_keep 11 = .ok (.getfield 9, 3) := by decide +kernel
theorem de_S_keep_14 : decode mb_S_keep 14 = .ok (.iload_n 1, 1) := by decide +kernel
theorem de_S_keep_15 : decode mb_S_keep 15 = .ok (.iload_n 2, 1) := by decide +kernel
theorem de_S_keep_16 : decode mb_S_keep 16 = .ok (.iastore, 1) := by decide +kernel
theorem de_S_keep_17 : decode mb_S_keep 17 = .ok (.aload_n 0, 1) := by decide +kernel
theorem de_S_keep_18 : decode mb_S_keep 18 = .ok (.getfield 15, 3) := by decide +kernel
theorem de_S_keep_21 : decode mb_S_keep 21 = .ok (.iload_n 1, 1) := by decide +kernel
theorem de_S_keep_22 : decode mb_S_keep 22 = .ok (.iconst 1, 1) := by decide +kernel
theorem de_S_keep_23 : decode mb_S_keep 23 = .ok (.bastore, 1) := by decide +kernel
theorem de_S_keep_24 : decode mb_S_keep 24 = .ok (.return_, 1) := by decide +kernel
theorem de_S_has_0 : decode mb_S_has 0 = .ok (.iload_n 1, 1) := by decide +kernel
theorem de_S_has_1 : decode mb_S_has 1 = .ok (.ifCond .lt 22, 3) := by decide +kernel
theorem de_S_has_4 : decode mb_S_has 4 = .ok (.iload_n 1, 1) := by decide +kernel
theorem de_S_has_5 : decode mb_S_has 5 = .ok (.bipush 6, 2) := by decide +kernel
theorem de_S_has_7 : decode mb_S_has 7 = .ok (.if_icmp .ge 16, 3) := by decide +kernel
theorem de_S_has_10 : decode mb_S_has 10 = .ok (.aload_n 0, 1) := by decide +kernel
theorem de_S_has_11 : decode mb_S_has 11 = .ok (.getfield 15, 3) := by decide +kernel
theorem de_S_has_14 : decode mb_S_has 14 = .ok (.iload_n 1, 1) := by decide +kernel
theorem de_S_has_15 : decode mb_S_has 15 = .ok (.baload, 1) := by decide +kernel
theorem de_S_has_16 : decode mb_S_has 16 = .ok (.ifCond .eq 7, 3) := by decide +kernel
theorem de_S_has_19 : decode mb_S_has 19 = .ok (.iconst 1, 1) := by decide +kernel
theorem de_S_has_20 : decode mb_S_has 20 = .ok (.goto 4, 3) := by decide +kernel
theorem de_S_has_23 : decode mb_S_has 23 = .ok (.iconst 0, 1) := by decide +kernel
theorem de_S_has_24 : decode mb_S_has 24 = .ok (.ireturn, 1) := by decide +kernel
theorem de_S_forget_0 : decode mb_S_forget 0 = .ok (.aload_n 0, 1) := by decide +kernel
theorem de_S_forget_1 : decode mb_S_forget 1 = .ok (.iload_n 1, 1) := by decide +kernel
theorem de_S_forget_2 : decode mb_S_forget 2 = .ok (.invokevirtual 19, 3) := by decide +kernel
theorem de_S_forget_5 : decode mb_S_forget 5 = .ok (.ifCond .eq 10, 3) := by decide +kernel
theorem de_S_forget_8 : decode mb_S_forget 8 = .ok (.aload_n 0, 1) := by decide +kernel
theorem de_S_forget_9 : decode mb_S_forget 9 = .ok (.getfield 15, 3) := by decide +kernel
theorem de_S_forget_12 : decode mb_S_forget 12 = .ok (.iload_n 1, 1) := by decide +kernel
theorem de_S_forget_13 : decode mb_S_forget 13 = .ok (.iconst 0, 1) := by decide +kernel
theorem de_S_forget_14 : decode mb_S_forget 14 = .ok (.bastore, 1) := by decide +kernel
theorem de_S_forget_15 : decode mb_S_forget 15 = .ok (.return_, 1) := by decide +kernel
theorem de_S_sequenceAt_0 : decode mb_S_sequenceAt 0 = .ok (.aload_n 0, 1) := by decide +kernel
theorem de_S_sequenceAt_1 : decode mb_S_sequenceAt 1 = .ok (.iload_n 1, 1) := by decide +kernel
theorem de_S_sequenceAt_2 : decode mb_S_sequenceAt 2 = .ok (.invokevirtual 19, 3) := by decide +kernel
theorem de_S_sequenceAt_5 : decode mb_S_sequenceAt 5 = .ok (.ifCond .eq 12, 3) := by decide +kernel
theorem de_S_sequenceAt_8 : decode mb_S_sequenceAt 8 = .ok (.aload_n 0, 1) := by decide +kernel
theorem de_S_sequenceAt_9 : decode mb_S_sequenceAt 9 = .ok (.getfield 9, 3) := by decide +kernel
theorem de_S_sequenceAt_12 : decode mb_S_sequenceAt 12 = .ok (.iload_n 1, 1) := by decide +kernel
theorem de_S_sequenceAt_13 : decode mb_S_sequenceAt 13 = .ok (.iaload, 1) := by decide +kernel
theorem de_S_sequenceAt_14 : decode mb_S_sequenceAt 14 = .ok (.goto 4, 3) := by decide +kernel
theorem de_S_sequenceAt_17 : decode mb_S_sequenceAt 17 = .ok (.iconst 0, 1) := by decide +kernel
theorem de_S_sequenceAt_18 : decode mb_S_sequenceAt 18 = .ok (.ireturn, 1) := by decide +kernel
theorem de_R_latestOf_0 : decode mb_R_latestOf 0 = .ok (.aconst_null, 1) := by decide +kernel
theorem de_R_latestOf_1 : decode mb_R_latestOf 1 = .ok (.astore_n 3, 1) := by decide +kernel
theorem de_R_latestOf_2 : decode mb_R_latestOf 2 = .ok (.iconst 0, 1) := by decide +kernel
theorem de_R_latestOf_3 : decode mb_R_latestOf 3 = .ok (.istore 4, 2) := by decide +kernel
theorem de_R_latestOf_5 : decode mb_R_latestOf 5 = .ok (.iload 4, 2) := by decide +kernel
theorem de_R_latestOf_7 : decode mb_R_latestOf 7 = .ok (.aload_n 0, 1) := by decide +kernel
theorem de_R_latestOf_8 : decode mb_R_latestOf 8 = .ok (.getfield 7, 3) := by decide +kernel
theorem de_R_latestOf_11 : decode mb_R_latestOf 11 = .ok (.if_icmp .ge 55, 3) := by decide +kernel
theorem de_R_latestOf_14 : decode mb_R_latestOf 14 = .ok (.aload_n 0, 1) := by decide +kernel
theorem de_R_latestOf_15 : decode mb_R_latestOf 15 = .ok (.getfield 15, 3) := by decide +kernel
theorem de_R_latestOf_18 : decode mb_R_latestOf 18 = .ok (.iload 4, 2) := by decide +kernel
theorem de_R_latestOf_20 : decode mb_R_latestOf 20 = .ok (.aaload, 1) := by decide +kernel
theorem de_R_latestOf_21 : decode mb_R_latestOf 21 = .ok (.astore 5, 2) := by decide +kernel
theorem de_R_latestOf_23 : decode mb_R_latestOf 23 = .ok (.aload 5, 2) := by decide +kernel
theorem de_R_latestOf_25 : decode mb_R_latestOf 25 = .ok (.getfield 31, 3) := by decide +kernel
theorem de_R_latestOf_28 : decode mb_R_latestOf 28 = .ok (.iload_n 1, 1) := by decide +kernel
theorem de_R_latestOf_29 : decode mb_R_latestOf 29 = .ok (.if_icmp .ne 31, 3) := by decide +kernel
theorem de_R_latestOf_32 : decode mb_R_latestOf 32 = .ok (.aload 5, 2) := by decide +kernel
theorem de_R_latestOf_34 : decode mb_R_latestOf 34 = .ok (.getfield 34, 3) := by decide +kernel
theorem de_R_latestOf_37 : decode mb_R_latestOf 37 = .ok (.iload_n 2, 1) := by decide +kernel
theorem de_R_latestOf_38 : decode mb_R_latestOf 38 = .ok (.if_icmp .gt 22, 3) := by decide +kernel
theorem de_R_latestOf_41 : decode mb_R_latestOf 41 = .ok (.aload_n 3, 1) := by decide +kernel
theorem de_R_latestOf_42 : decode mb_R_latestOf 42 = .ok (.ifnull 15, 3) := by decide +kernel
theorem de_R_latestOf_45 : decode mb_R_latestOf 45 = .ok (.aload_n 3, 1) := by decide +kernel
theorem de_R_latestOf_46 : decode mb_R_latestOf 46 = .ok (.getfield 34, 3) := by decide +kernel
theorem de_R_latestOf_49 : decode mb_R_latestOf 49 = .ok (.aload 5, 2) := by decide +kernel
theorem de_R_latestOf_51 : decode mb_R_latestOf 51 = .ok (.getfield 34, 3) := by decide +kernel
theorem de_R_latestOf_54 : decode mb_R_latestOf 54 = .ok (.if_icmp .ge 6, 3) := by decide +kernel
theorem de_R_latestOf_57 : decode mb_R_latestOf 57 = .ok (.aload 5, 2) := by decide +kernel
theorem de_R_latestOf_59 : decode mb_R_latestOf 59 = .ok (.astore_n 3, 1) := by decide +kernel
theorem de_R_latestOf_60 : decode mb_R_latestOf 60 = .ok (.iinc 4 1, 3) := by decide +kernel
theorem de_R_latestOf_63 : decode mb_R_latestOf 63 = .ok (.goto (-58), 3) := by decide +kernel
theorem de_R_latestOf_66 : decode mb_R_latestOf 66 = .ok (.aload_n 3, 1) := by decide +kernel
theorem de_R_latestOf_67 : decode mb_R_latestOf 67 = .ok (.areturn, 1) := by decide +kernel
theorem de_V_runAt_0 : decode mb_V_runAt 0 = .ok (.iload_n 1, 1) := by decide +kernel
theorem de_V_runAt_1 : decode mb_V_runAt 1 = .ok (.ifCond .lt 28, 3) := by decide +kernel
theorem de_V_runAt_4 : decode mb_V_runAt 4 = .ok (.iload_n 1, 1) := by decide +kernel
theorem de_V_runAt_5 : decode mb_V_runAt 5 = .ok (.aload_n 0, 1) := by decide +kernel
theorem de_V_runAt_6 : decode mb_V_runAt 6 = .ok (.getfield 10, 3) := by decide +kernel
theorem de_V_runAt_9 : decode mb_V_runAt 9 = .ok (.invokevirtual 20, 3) := by decide +kernel
theorem de_V_runAt_12 : decode mb_V_runAt 12 = .ok (.if_icmp .ge 17, 3) := by decide +kernel
theorem de_V_runAt_15 : decode mb_V_runAt 15 = .ok (.aload_n 0, 1) := by decide +kernel
theorem de_V_runAt_16 : decode mb_V_runAt 16 = .ok (.getfield 10, 3) := by decide +kernel
theorem de_V_runAt_19 : decode mb_V_runAt 19 = .ok (.iload_n 1, 1) := by decide +kernel
theorem de_V_runAt_20 : decode mb_V_runAt 20 = .ok (.invokevirtual 24, 3) := by decide +kernel
theorem de_V_runAt_23 : decode mb_V_runAt 23 = .ok (.checkcast 28, 3) := by decide +kernel
theorem de_V_runAt_26 : decode mb_V_runAt 26 = .ok (.goto 4, 3) := by decide +kernel
theorem de_V_runAt_29 : decode mb_V_runAt 29 = .ok (.aconst_null, 1) := by decide +kernel
theorem de_V_runAt_30 : decode mb_V_runAt 30 = .ok (.areturn, 1) := by decide +kernel
theorem de_U_mayHave_0 : decode mb_U_mayHave 0 = .ok (.aload_n 0, 1) := by decide +kernel
theorem de_U_mayHave_1 : decode mb_U_mayHave 1 = .ok (.getfield 16, 3) := by decide +kernel
theorem de_U_mayHave_4 : decode mb_U_mayHave 4 = .ok (.iconst 0, 1) := by decide +kernel
theorem de_U_mayHave_5 : decode mb_U_mayHave 5 = .ok (.invokevirtual 30, 3) := by decide +kernel
theorem de_U_mayHave_8 : decode mb_U_mayHave 8 = .ok (.astore_n 2, 1) := by decide +kernel
theorem de_U_mayHave_9 : decode mb_U_mayHave 9 = .ok (.aload_n 0, 1) := by decide +kernel
theorem de_U_mayHave_10 : decode mb_U_mayHave 10 = .ok (.getfield 16, 3) := by decide +kernel
theorem de_U_mayHave_13 : decode mb_U_mayHave 13 = .ok (.aload_n 0, 1) := by decide +kernel
theorem de_U_mayHave_14 : decode mb_U_mayHave 14 = .ok (.getfield 16, 3) := by decide +kernel
theorem de_U_mayHave_17 : decode mb_U_mayHave 17 = .ok (.invokevirtual 9, 3) := by decide +kernel
theorem de_U_mayHave_20 : decode mb_U_mayHave 20 = .ok (.iconst 1, 1) := by decide +kernel
theorem de_U_mayHave_21 : decode mb_U_mayHave 21 = .ok (.isub, 1) := by decide +kernel
theorem de_U_mayHave_22 : decode mb_U_mayHave 22 = .ok (.invokevirtual 30, 3) := by decide +kernel
theorem de_U_mayHave_25 : decode mb_U_mayHave 25 = .ok (.astore_n 3, 1) := by decide +kernel
theorem de_U_mayHave_26 : decode mb_U_mayHave 26 = .ok (.aload_n 2, 1) := by decide +kernel
theorem de_U_mayHave_27 : decode mb_U_mayHave 27 = .ok (.ifnull 35, 3) := by decide +kernel
theorem de_U_mayHave_30 : decode mb_U_mayHave 30 = .ok (.aload_n 3, 1) := by decide +kernel
theorem de_U_mayHave_31 : decode mb_U_mayHave 31 = .ok (.ifnull 31, 3) := by decide +kernel
theorem de_U_mayHave_34 : decode mb_U_mayHave 34 = .ok (.aload_n 2, 1) := by decide +kernel
theorem de_U_mayHave_35 : decode mb_U_mayHave 35 = .ok (.getfield 42, 3) := by decide +kernel
theorem de_U_mayHave_38 : decode mb_U_mayHave 38 = .ok (.iload_n 1, 1) := by decide +kernel
theorem de_U_mayHave_39 : decode mb_U_mayHave 39 = .ok (.if_icmp .gt 23, 3) := by decide +kernel
theorem de_U_mayHave_42 : decode mb_U_mayHave 42 = .ok (.iload_n 1, 1) := by decide +kernel
theorem de_U_mayHave_43 : decode mb_U_mayHave 43 = .ok (.aload_n 3, 1) := by decide +kernel
theorem de_U_mayHave_44 : decode mb_U_mayHave 44 = .ok (.getfield 42, 3) := by decide +kernel
theorem de_U_mayHave_47 : decode mb_U_mayHave 47 = .ok (.if_icmp .gt 15, 3) := by decide +kernel
theorem de_U_mayHave_50 : decode mb_U_mayHave 50 = .ok (.aload_n 0, 1) := by decide +kernel
theorem de_U_mayHave_51 : decode mb_U_mayHave 51 = .ok (.iload_n 1, 1) := by decide +kernel
theorem de_U_mayHave_52 : decode mb_U_mayHave 52 = .ok (.invokevirtual 52, 3) := by decide +kernel
theorem de_U_mayHave_55 : decode mb_U_mayHave 55 = .ok (.ifCond .eq 7, 3) := by decide +kernel
theorem de_U_mayHave_58 : decode mb_U_mayHave 58 = .ok (.iconst 1, 1) := by decide +kernel
theorem de_U_mayHave_59 : decode mb_U_mayHave 59 = .ok (.goto 4, 3) := by decide +kernel
theorem de_U_mayHave_62 : decode mb_U_mayHave 62 = .ok (.iconst 0, 1) := by decide +kernel
theorem de_U_mayHave_63 : decode mb_U_mayHave 63 = .ok (.ireturn, 1) := by decide +kernel
theorem de_U_passesFilter_0 : decode mb_U_passesFilter 0 = .ok (.iconst 0, 1) := by decide +kernel
theorem de_U_passesFilter_1 : decode mb_U_passesFilter 1 = .ok (.istore_n 2, 1) := by decide +kernel
theorem de_U_passesFilter_2 : decode mb_U_passesFilter 2 = .ok (.iload_n 2, 1) := by decide +kernel
theorem de_U_passesFilter_3 : decode mb_U_passesFilter 3 = .ok (.getstatic 38, 3) := by decide +kernel
theorem de_U_passesFilter_6 : decode mb_U_passesFilter 6 = .ok (.arraylength, 1) := by decide +kernel
theorem de_U_passesFilter_7 : decode mb_U_passesFilter 7 = .ok (.if_icmp .ge 46, 3) := by decide +kernel
theorem de_U_passesFilter_10 : decode mb_U_passesFilter 10 = .ok (.iload_n 1, 1) := by decide +kernel
theorem de_U_passesFilter_11 : decode mb_U_passesFilter 11 = .ok (.getstatic 38, 3) := by decide +kernel
theorem de_U_passesFilter_14 : decode mb_U_passesFilter 14 = .ok (.iload_n 2, 1) := by decide +kernel
theorem de_U_passesFilter_15 : decode mb_U_passesFilter 15 = .ok (.iaload, 1) := by decide +kernel
theorem de_U_passesFilter_16 : decode mb_U_passesFilter 16 = .ok (.aload_n 0, 1) := by decide +kernel
theorem de_U_passesFilter_17 : decode mb_U_passesFilter 17 = .ok (.getfield 26, 3) := by decide +kernel
theorem de_U_passesFilter_20 : decode mb_U_passesFilter 20 = .ok (.invokestatic 48, 3) := by decide +kernel
theorem de_U_passesFilter_23 : decode mb_U_passesFilter 23 = .ok (.istore_n 3, 1) := by decide +kernel
theorem de_U_passesFilter_24 : decode mb_U_passesFilter 24 = .ok (.aload_n 0, 1) := by decide +kernel
theorem de_U_passesFilter_25 : decode mb_U_passesFilter 25 = .ok (.getfield 26, 3) := by decide +kernel
theorem de_U_passesFilter_28 : decode mb_U_passesFilter 28 = .ok (.iload_n 3, 1) := by decide +kernel
theorem de_U_passesFilter_29 : decode mb_U_passesFilter 29 = .ok (.bipush 64, 2) := by decide +kernel
theorem de_U_passesFilter_31 : decode mb_U_passesFilter 31 = .ok (.idiv, 1) := by decide +kernel
theorem de_U_passesFilter_32 : decode mb_U_passesFilter 32 = .ok (.laload, 1) := by decide +kernel
theorem de_U_passesFilter_33 : decode mb_U_passesFilter 33 = .ok (.iload_n 3, 1) := by decide +kernel
theorem de_U_passesFilter_34 : decode mb_U_passesFilter 34 = .ok (.bipush 64, 2) := by decide +kernel
theorem de_U_passesFilter_36 : decode mb_U_passesFilter 36 = .ok (.irem, 1) := by decide +kernel
theorem de_U_passesFilter_37 : decode mb_U_passesFilter 37 = .ok (.lushr, 1) := by decide +kernel
theorem de_U_passesFilter_38 : decode mb_U_passesFilter 38 = .ok (.lconst 1, 1) := by decide +kernel
theorem de_U_passesFilter_39 : decode mb_U_passesFilter 39 = .ok (.land, 1) := by decide +kernel
theorem de_U_passesFilter_40 : decode mb_U_passesFilter 40 = .ok (.lconst 0, 1) := by decide +kernel
theorem de_U_passesFilter_41 : decode mb_U_passesFilter 41 = .ok (.lcmp, 1) := by decide +kernel
theorem de_U_passesFilter_42 : decode mb_U_passesFilter 42 = .ok (.ifCond .ne 5, 3) := by decide +kernel
theorem de_U_passesFilter_45 : decode mb_U_passesFilter 45 = .ok (.iconst 0, 1) := by decide +kernel
theorem de_U_passesFilter_46 : decode mb_U_passesFilter 46 = .ok (.ireturn, 1) := by decide +kernel
theorem de_U_passesFilter_47 : decode mb_U_passesFilter 47 = .ok (.iinc 2 1, 3) := by decide +kernel
theorem de_U_passesFilter_50 : decode mb_U_passesFilter 50 = .ok (.goto (-48), 3) := by decide +kernel
theorem de_U_passesFilter_53 : decode mb_U_passesFilter 53 = .ok (.iconst 1, 1) := by decide +kernel
theorem de_U_passesFilter_54 : decode mb_U_passesFilter 54 = .ok (.ireturn, 1) := by decide +kernel
theorem de_R_hasKey_0 : decode mb_R_hasKey 0 = .ok (.iconst 0, 1) := by decide +kernel
theorem de_R_hasKey_1 : decode mb_R_hasKey 1 = .ok (.istore_n 2, 1) := by decide +kernel
theorem de_R_hasKey_2 : decode mb_R_hasKey 2 = .ok (.iload_n 2, 1) := by decide +kernel
theorem de_R_hasKey_3 : decode mb_R_hasKey 3 = .ok (.aload_n 0, 1) := by decide +kernel
theorem de_R_hasKey_4 : decode mb_R_hasKey 4 = .ok (.getfield 7, 3) := by decide +kernel
theorem de_R_hasKey_7 : decode mb_R_hasKey 7 = .ok (.if_icmp .ge 24, 3) := by decide +kernel
theorem de_R_hasKey_10 : decode mb_R_hasKey 10 = .ok (.aload_n 0, 1) := by decide +kernel
theorem de_R_hasKey_11 : decode mb_R_hasKey 11 = .ok (.getfield 15, 3) := by decide +kernel
theorem de_R_hasKey_14 : decode mb_R_hasKey 14 = .ok (.iload_n 2, 1) := by decide +kernel
theorem de_R_hasKey_15 : decode mb_R_hasKey 15 = .ok (.aaload, 1) := by decide +kernel
theorem de_R_hasKey_16 : decode mb_R_hasKey 16 = .ok (.getfield 31, 3) := by decide +kernel
theorem de_R_hasKey_19 : decode mb_R_hasKey 19 = .ok (.iload_n 1, 1) := by decide +kernel
theorem de_R_hasKey_20 : decode mb_R_hasKey 20 = .ok (.if_icmp .ne 5, 3) := by decide +kernel
theorem de_R_hasKey_23 : decode mb_R_hasKey 23 = .ok (.iconst 1, 1) := by decide +kernel
theorem de_R_hasKey_24 : decode mb_R_hasKey 24 = .ok (.ireturn, 1) := by decide +kernel
theorem de_R_hasKey_25 : decode mb_R_hasKey 25 = .ok (.iinc 2 1, 3) := by decide +kernel
theorem de_R_hasKey_28 : decode mb_R_hasKey 28 = .ok (.goto (-26), 3) := by decide +kernel
theorem de_R_hasKey_31 : decode mb_R_hasKey 31 = .ok (.iconst 0, 1) := by decide +kernel
theorem de_R_hasKey_32 : decode mb_R_hasKey 32 = .ok (.ireturn, 1) := by decide +kernel
theorem de_S_taken_0 : decode mb_S_taken 0 = .ok (.iconst 0, 1) := by decide +kernel
theorem de_S_taken_1 : decode mb_S_taken 1 = .ok (.istore_n 1, 1) := by decide +kernel
theorem de_S_taken_2 : decode mb_S_taken 2 = .ok (.iconst 0, 1) := by decide +kernel
theorem de_S_taken_3 : decode mb_S_taken 3 = .ok (.istore_n 2, 1) := by decide +kernel
theorem de_S_taken_4 : decode mb_S_taken 4 = .ok (.iload_n 2, 1) := by decide +kernel
theorem de_S_taken_5 : decode mb_S_taken 5 = .ok (.bipush 6, 2) := by decide +kernel
theorem de_S_taken_7 : decode mb_S_taken 7 = .ok (.if_icmp .ge 26, 3) := by decide +kernel
theorem de_S_taken_10 : decode mb_S_taken 10 = .ok (.iload_n 1, 1) := by decide +kernel
theorem de_S_taken_11 : decode mb_S_taken 11 = .ok (.aload_n 0, 1) := by decide +kernel
theorem de_S_taken_12 : decode mb_S_taken 12 = .ok (.getfield 15, 3) := by decide +kernel
theorem de_S_taken_15 : decode mb_S_taken 15 = .ok (.iload_n 2, 1) := by decide +kernel
theorem de_S_taken_16 : decode mb_S_taken 16 = .ok (.baload, 1) := by decide +kernel
theorem de_S_taken_17 : decode mb_S_taken 17 = .ok (.ifCond .eq 7, 3) := by decide +kernel
theorem de_S_taken_20 : decode mb_S_taken 20 = .ok (.iconst 1, 1) := by decide +kernel
theorem de_S_taken_21 : decode mb_S_taken 21 = .ok (.goto 4, 3) := by decide +kernel
theorem de_S_taken_24 : decode mb_S_taken 24 = .ok (.iconst 0, 1) := by decide +kernel
theorem de_S_taken_25 : decode mb_S_taken 25 = .ok (.iadd, 1) := by decide +kernel
theorem de_S_taken_26 : decode mb_S_taken 26 = .ok (.istore_n 1, 1) := by decide +kernel
theorem de_S_taken_27 : decode mb_S_taken 27 = .ok (.iinc 2 1, 3) := by decide +kernel
theorem de_S_taken_30 : decode mb_S_taken 30 = .ok (.goto (-26), 3) := by decide +kernel
theorem de_S_taken_33 : decode mb_S_taken 33 = .ok (.iload_n 1, 1) := by decide +kernel
theorem de_S_taken_34 : decode mb_S_taken 34 = .ok (.ireturn, 1) := by decide +kernel
