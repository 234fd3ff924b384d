/-! decode rows (printed by gen/mk_names.py) -/
theorem de_K_init_0 : decode mb_K_init 0 = .ok (.aload_n 0, 1) := by decide +kernel
theorem de_K_init_1 : decode mb_K_init 1 = .ok (.invokespecial 1, 3) := by decide +kernel
theorem de_K_init_4 : decode mb_K_init 4 = .ok (.aload_n 0, 1) := by decide +kernel
theorem de_K_init_5 : decode mb_K_init 5 = .ok (.new 7, 3) := by decide +kernel
theorem de_K_init_8 : decode mb_K_init 8 = .ok (.dup, 1) := by decide +kernel
theorem de_K_init_9 : decode mb_K_init 9 = .ok (.bipush 40, 2) := by decide +kernel
theorem de_K_init_11 : decode mb_K_init 11 = .ok (.invokespecial 11, 3) := by decide +kernel
theorem de_K_init_14 : decode mb_K_init 14 = .ok (.putfield 14, 3) := by decide +kernel
theorem de_K_init_17 : decode mb_K_init 17 = .ok (.aload_n 0, 1) := by decide +kernel
theorem de_K_init_18 : decode mb_K_init 18 = .ok (.new 7, 3) := by decide +kernel
theorem de_K_init_21 : decode mb_K_init 21 = .ok (.dup, 1) := by decide +kernel
theorem de_K_init_22 : decode mb_K_init 22 = .ok (.bipush 16, 2) := by decide +kernel
theorem de_K_init_24 : decode mb_K_init 24 = .ok (.invokespecial 11, 3) := by decide +kernel
theorem de_K_init_27 : decode mb_K_init 27 = .ok (.putfield 18, 3) := by decide +kernel
theorem de_K_init_30 : decode mb_K_init 30 = .ok (.aload_n 0, 1) := by decide +kernel
theorem de_K_init_31 : decode mb_K_init 31 = .ok (.bipush 6, 2) := by decide +kernel
theorem de_K_init_33 : decode mb_K_init 33 = .ok (.anewarray 21, 3) := by decide +kernel
theorem de_K_init_36 : decode mb_K_init 36 = .ok (.putfield 23, 3) := by decide +kernel
theorem de_K_init_39 : decode mb_K_init 39 = .ok (.aload_n 0, 1) := by decide +kernel
theorem de_K_init_40 : decode mb_K_init 40 = .ok (.new 27, 3) := by decide +kernel
theorem de_K_init_43 : decode mb_K_init 43 = .ok (.dup, 1) := by decide +kernel
theorem de_K_init_44 : decode mb_K_init 44 = .ok (.invokespecial 29, 3) := by decide +kernel
theorem de_K_init_47 : decode mb_K_init 47 = .ok (.putfield 30, 3) := by decide +kernel
theorem de_K_init_50 : decode mb_K_init 50 = .ok (.aload_n 0, 1) := by decide +kernel
theorem de_K_init_51 : decode mb_K_init 51 = .ok (.new 7, 3) := by decide +kernel
theorem de_K_init_54 : decode mb_K_init 54 = .ok (.dup, 1) := by decide +kernel
theorem de_K_init_55 : decode mb_K_init 55 = .ok (.sipush 600, 3) := by decide +kernel
theorem de_K_init_58 : decode mb_K_init 58 = .ok (.invokespecial 11, 3) := by decide +kernel
theorem de_K_init_61 : decode mb_K_init 61 = .ok (.putfield 34, 3) := by decide +kernel
theorem de_K_init_64 : decode mb_K_init 64 = .ok (.aload_n 0, 1) := by decide +kernel
theorem de_K_init_65 : decode mb_K_init 65 = .ok (.new 7, 3) := by decide +kernel
theorem de_K_init_68 : decode mb_K_init 68 = .ok (.dup, 1) := by decide +kernel
theorem de_K_init_69 : decode mb_K_init 69 = .ok (.sipush 600, 3) := by decide +kernel
theorem de_K_init_72 : decode mb_K_init 72 = .ok (.invokespecial 11, 3) := by decide +kernel
theorem de_K_init_75 : decode mb_K_init 75 = .ok (.putfield 37, 3) := by decide +kernel
theorem de_K_init_78 : decode mb_K_init 78 = .ok (.aload_n 0, 1) := by decide +kernel
theorem de_K_init_79 : decode mb_K_init 79 = .ok (.sipush 1024, 3) := by decide +kernel
theorem de_K_init_82 : decode mb_K_init 82 = .ok (.anewarray 40, 3) := by decide +kernel
theorem de_K_init_85 : decode mb_K_init 85 = .ok (.putfield 42, 3) := by decide +kernel
theorem de_K_init_88 : decode mb_K_init 88 = .ok (.aload_n 0, 1) := by decide +kernel
theorem de_K_init_89 : decode mb_K_init 89 = .ok (.iconst 0, 1) := by decide +kernel
theorem de_K_init_90 : decode mb_K_init 90 = .ok (.putfield 46, 3) := by decide +kernel
theorem de_K_init_93 : decode mb_K_init 93 = .ok (.aload_n 0, 1) := by decide +kernel
theorem de_K_init_94 : decode mb_K_init 94 = .ok (.iconst 0, 1) := by decide +kernel
theorem de_K_init_95 : decode mb_K_init 95 = .ok (.putfield 50, 3) := by decide +kernel
theorem de_K_init_98 : decode mb_K_init 98 = .ok (.aload_n 0, 1) := by decide +kernel
theorem de_K_init_99 : decode mb_K_init 99 = .ok (.iconst 0, 1) := by decide +kernel
theorem de_K_init_100 : decode mb_K_init 100 = .ok (.putfield 54, 3) := by decide +kernel
theorem de_K_init_103 : decode mb_K_init 103 = .ok (.aload_n 0, 1) := by decide +kernel
theorem de_K_init_104 : decode mb_K_init 104 = .ok (.iconst 0, 1) := by decide +kernel
theorem de_K_init_105 : decode mb_K_init 105 = .ok (.putfield 57, 3) := by decide +kernel
theorem de_K_init_108 : decode mb_K_init 108 = .ok (.aload_n 0, 1) := by decide +kernel
theorem de_K_init_109 : decode mb_K_init 109 = .ok (.iconst 0, 1) := by decide +kernel
theorem de_K_init_110 : decode mb_K_init 110 = .ok (.putfield 60, 3) := by decide +kernel
theorem de_K_init_113 : decode mb_K_init 113 = .ok (.iconst 0, 1) := by decide +kernel
theorem de_K_init_114 : decode mb_K_init 114 = .ok (.istore_n 1, 1) := by decide +kernel
theorem de_K_init_115 : decode mb_K_init 115 = .ok (.iload_n 1, 1) := by decide +kernel
theorem de_K_init_116 : decode mb_K_init 116 = .ok (.bipush 6, 2) := by decide +kernel
theorem de_K_init_118 : decode mb_K_init 118 = .ok (.if_icmp .ge 22, 3) := by decide +kernel
theorem de_K_init_121 : decode mb_K_init 121 = .ok (.aload_n 0, 1) := by decide +kernel
theorem de_K_init_122 : decode mb_K_init 122 = .ok (.getfield 23, 3) := by decide +kernel
theorem de_K_init_125 : decode mb_K_init 125 = .ok (.iload_n 1, 1) := by decide +kernel
theorem de_K_init_126 : decode mb_K_init 126 = .ok (.new 21, 3) := by decide +kernel
theorem de_K_init_129 : decode mb_K_init 129 = .ok (.dup, 1) := by decide +kernel
theorem de_K_init_130 : decode mb_K_init 130 = .ok (.invokespecial 63, 3) := by decide +kernel
theorem de_K_init_133 : decode mb_K_init 133 = .ok (.aastore, 1) := by decide +kernel
theorem de_K_init_134 : decode mb_K_init 134 = .ok (.iinc 1 1, 3) := by decide +kernel
theorem de_K_init_137 : decode mb_K_init 137 = .ok (.goto (-22), 3) := by decide +kernel
theorem de_K_init_140 : decode mb_K_init 140 = .ok (.return_, 1) := by decide +kernel
theorem de_K_sync_0 : decode mb_K_sync 0 = .ok (.aload_n 0, 1) := by decide +kernel
theorem de_K_sync_1 : decode mb_K_sync 1 = .ok (.aload_n 0, 1) := by decide +kernel
theorem de_K_sync_2 : decode mb_K_sync 2 = .ok (.getfield 14, 3) := by decide +kernel
theorem de_K_sync_5 : decode mb_K_sync 5 = .ok (.invokevirtual 77, 3) := by decide +kernel
theorem de_K_sync_8 : decode mb_K_sync 8 = .ok (.putfield 46, 3) := by decide +kernel
theorem de_K_sync_11 : decode mb_K_sync 11 = .ok (.aload_n 0, 1) := by decide +kernel
theorem de_K_sync_12 : decode mb_K_sync 12 = .ok (.getfield 46, 3) := by decide +kernel
theorem de_K_sync_15 : decode mb_K_sync 15 = .ok (.ireturn, 1) := by decide +kernel
theorem de_K_flush_0 : decode mb_K_flush 0 = .ok (.aload_n 0, 1) := by decide +kernel
theorem de_K_flush_1 : decode mb_K_flush 1 = .ok (.getfield 14, 3) := by decide +kernel
theorem de_K_flush_4 : decode mb_K_flush 4 = .ok (.invokevirtual 77, 3) := by decide +kernel
theorem de_K_flush_7 : decode mb_K_flush 7 = .ok (.istore_n 1, 1) := by decide +kernel
theorem de_K_flush_8 : decode mb_K_flush 8 = .ok (.aload_n 0, 1) := by decide +kernel
theorem de_K_flush_9 : decode mb_K_flush 9 = .ok (.iconst 1, 1) := by decide +kernel
theorem de_K_flush_10 : decode mb_K_flush 10 = .ok (.invokevirtual 97, 3) := by decide +kernel
theorem de_K_flush_13 : decode mb_K_flush 13 = .ok (.iload_n 1, 1) := by decide +kernel
theorem de_K_flush_14 : decode mb_K_flush 14 = .ok (.ireturn, 1) := by decide +kernel
theorem de_K_flushTableIfItHas_0 : decode mb_K_flushTableIfItHas 0 = .ok (.aload_n 0, 1) := by decide +kernel
theorem de_K_flushTableIfItHas_1 : decode mb_K_flushTableIfItHas 1 = .ok (.getfield 14, 3) := by decide +kernel
theorem de_K_flushTableIfItHas_4 : decode mb_K_flushTableIfItHas 4 = .ok (.invokevirtual 77, 3) := by decide +kernel
theorem de_K_flushTableIfItHas_7 : decode mb_K_flushTableIfItHas 7 = .ok (.iload_n 1, 1) := by decide +kernel
theorem de_K_flushTableIfItHas_8 : decode mb_K_flushTableIfItHas 8 = .ok (.if_icmp .lt 32, 3) := by decide +kernel
theorem de_K_flushTableIfItHas_11 : decode mb_K_flushTableIfItHas 11 = .ok (.aload_n 0, 1) := by decide +kernel
theorem de_K_flushTableIfItHas_12 : decode mb_K_flushTableIfItHas 12 = .ok (.getfield 14, 3) := by decide +kernel
theorem de_K_flushTableIfItHas_15 : decode mb_K_flushTableIfItHas 15 = .ok (.invokevirtual 218, 3) := by decide +kernel
theorem de_K_flushTableIfItHas_18 : decode mb_K_flushTableIfItHas 18 = .ok (.aload_n 0, 1) := by decide +kernel
theorem de_K_flushTableIfItHas_19 : decode mb_K_flushTableIfItHas 19 = .ok (.iconst 0, 1) := by decide +kernel
theorem de_K_flushTableIfItHas_20 : decode mb_K_flushTableIfItHas 20 = .ok (.aload_n 0, 1) := by decide +kernel
theorem de_K_flushTableIfItHas_21 : decode mb_K_flushTableIfItHas 21 = .ok (.getfield 14, 3) := by decide +kernel
theorem de_K_flushTableIfItHas_24 : decode mb_K_flushTableIfItHas 24 = .ok (.invokevirtual 221, 3) := by decide +kernel
theorem de_K_flushTableIfItHas_27 : decode mb_K_flushTableIfItHas 27 = .ok (.aload_n 0, 1) := by decide +kernel
theorem de_K_flushTableIfItHas_28 : decode mb_K_flushTableIfItHas 28 = .ok (.getfield 14, 3) := by decide +kernel
theorem de_K_flushTableIfItHas_31 : decode mb_K_flushTableIfItHas 31 = .ok (.iconst 0, 1) := by decide +kernel
theorem de_K_flushTableIfItHas_32 : decode mb_K_flushTableIfItHas 32 = .ok (.invokevirtual 112, 3) := by decide +kernel
theorem de_K_flushTableIfItHas_35 : decode mb_K_flushTableIfItHas 35 = .ok (.aload_n 0, 1) := by decide +kernel
theorem de_K_flushTableIfItHas_36 : decode mb_K_flushTableIfItHas 36 = .ok (.iconst 0, 1) := by decide +kernel
theorem de_K_flushTableIfItHas_37 : decode mb_K_flushTableIfItHas 37 = .ok (.putfield 46, 3) := by decide +kernel
theorem de_K_flushTableIfItHas_40 : decode mb_K_flushTableIfItHas 40 = .ok (.return_, 1) := by decide +kernel
theorem de_K_addRun_0 : decode mb_K_addRun 0 = .ok (.iload_n 1, 1) := by decide +kernel
theorem de_K_addRun_1 : decode mb_K_addRun 1 = .ok (.invokestatic 168, 3) := by decide +kernel
theorem de_K_addRun_4 : decode mb_K_addRun 4 = .ok (.ifCond .eq 27, 3) := by decide +kernel
theorem de_K_addRun_7 : decode mb_K_addRun 7 = .ok (.aload_n 2, 1) := by decide +kernel
theorem de_K_addRun_8 : decode mb_K_addRun 8 = .ok (.invokevirtual 77, 3) := by decide +kernel
theorem de_K_addRun_11 : decode mb_K_addRun 11 = .ok (.ifCond .le 20, 3) := by decide +kernel
theorem de_K_addRun_14 : decode mb_K_addRun 14 = .ok (.aload_n 0, 1) := by decide +kernel
theorem de_K_addRun_15 : decode mb_K_addRun 15 = .ok (.getfield 23, 3) := by decide +kernel
theorem de_K_addRun_18 : decode mb_K_addRun 18 = .ok (.iload_n 1, 1) := by decide +kernel
theorem de_K_addRun_19 : decode mb_K_addRun 19 = .ok (.aaload, 1) := by decide +kernel
theorem de_K_addRun_20 : decode mb_K_addRun 20 = .ok (.new 178, 3) := by decide +kernel
theorem de_K_addRun_23 : decode mb_K_addRun 23 = .ok (.dup, 1) := by decide +kernel
theorem de_K_addRun_24 : decode mb_K_addRun 24 = .ok (.aload_n 2, 1) := by decide +kernel
theorem de_K_addRun_25 : decode mb_K_addRun 25 = .ok (.invokespecial 225, 3) := by decide +kernel
theorem de_K_addRun_28 : decode mb_K_addRun 28 = .ok (.invokevirtual 228, 3) := by decide +kernel
theorem de_K_addRun_31 : decode mb_K_addRun 31 = .ok (.return_, 1) := by decide +kernel
theorem de_K_isLevel_0 : decode mb_K_isLevel 0 = .ok (.iload_n 0, 1) := by decide +kernel
theorem de_K_isLevel_1 : decode mb_K_isLevel 1 = .ok (.ifCond .lt 13, 3) := by decide +kernel
theorem de_K_isLevel_4 : decode mb_K_isLevel 4 = .ok (.iload_n 0, 1) := by decide +kernel
theorem de_K_isLevel_5 : decode mb_K_isLevel 5 = .ok (.bipush 6, 2) := by decide +kernel
theorem de_K_isLevel_7 : decode mb_K_isLevel 7 = .ok (.if_icmp .ge 7, 3) := by decide +kernel
theorem de_K_isLevel_10 : decode mb_K_isLevel 10 = .ok (.iconst 1, 1) := by decide +kernel
theorem de_K_isLevel_11 : decode mb_K_isLevel 11 = .ok (.goto 4, 3) := by decide +kernel
theorem de_K_isLevel_14 : decode mb_K_isLevel 14 = .ok (.iconst 0, 1) := by decide +kernel
theorem de_K_isLevel_15 : decode mb_K_isLevel 15 = .ok (.ireturn, 1) := by decide +kernel
theorem de_K_crash_0 : decode mb_K_crash 0 = .ok (.aload_n 0, 1) := by decide +kernel
theorem de_K_crash_1 : decode mb_K_crash 1 = .ok (.getfield 14, 3) := by decide +kernel
theorem de_K_crash_4 : decode mb_K_crash 4 = .ok (.aload_n 0, 1) := by decide +kernel
theorem de_K_crash_5 : decode mb_K_crash 5 = .ok (.getfield 46, 3) := by decide +kernel
theorem de_K_crash_8 : decode mb_K_crash 8 = .ok (.invokevirtual 112, 3) := by decide +kernel
theorem de_K_crash_11 : decode mb_K_crash 11 = .ok (.aload_n 0, 1) := by decide +kernel
theorem de_K_crash_12 : decode mb_K_crash 12 = .ok (.invokevirtual 100, 3) := by decide +kernel
theorem de_K_crash_15 : decode mb_K_crash 15 = .ok (.aload_n 0, 1) := by decide +kernel
theorem de_K_crash_16 : decode mb_K_crash 16 = .ok (.getfield 30, 3) := by decide +kernel
theorem de_K_crash_19 : decode mb_K_crash 19 = .ok (.invokevirtual 115, 3) := by decide +kernel
theorem de_K_crash_22 : decode mb_K_crash 22 = .ok (.aload_n 0, 1) := by decide +kernel
theorem de_K_crash_23 : decode mb_K_crash 23 = .ok (.invokevirtual 118, 3) := by decide +kernel
theorem de_K_crash_26 : decode mb_K_crash 26 = .ok (.aload_n 0, 1) := by decide +kernel
theorem de_K_crash_27 : decode mb_K_crash 27 = .ok (.aload_n 0, 1) := by decide +kernel
theorem de_K_crash_28 : decode mb_K_crash 28 = .ok (.getfield 34, 3) := by decide +kernel
theorem de_K_crash_31 : decode mb_K_crash 31 = .ok (.invokevirtual 121, 3) := by decide +kernel
theorem de_K_crash_34 : decode mb_K_crash 34 = .ok (.putfield 54, 3) := by decide +kernel
theorem de_K_crash_37 : decode mb_K_crash 37 = .ok (.aload_n 0, 1) := by decide +kernel
theorem de_K_crash_38 : decode mb_K_crash 38 = .ok (.getfield 14, 3) := by decide +kernel
theorem de_K_crash_41 : decode mb_K_crash 41 = .ok (.invokevirtual 77, 3) := by decide +kernel
theorem de_K_crash_44 : decode mb_K_crash 44 = .ok (.ireturn, 1) := by decide +kernel
theorem de_K_dropBatch_0 : decode mb_K_dropBatch 0 = .ok (.aload_n 0, 1) := by decide +kernel
theorem de_K_dropBatch_1 : decode mb_K_dropBatch 1 = .ok (.iconst 0, 1) := by decide +kernel
theorem de_K_dropBatch_2 : decode mb_K_dropBatch 2 = .ok (.putfield 50, 3) := by decide +kernel
theorem de_K_dropBatch_5 : decode mb_K_dropBatch 5 = .ok (.aload_n 0, 1) := by decide +kernel
theorem de_K_dropBatch_6 : decode mb_K_dropBatch 6 = .ok (.getfield 18, 3) := by decide +kernel
theorem de_K_dropBatch_9 : decode mb_K_dropBatch 9 = .ok (.iconst 0, 1) := by decide +kernel
theorem de_K_dropBatch_10 : decode mb_K_dropBatch 10 = .ok (.invokevirtual 112, 3) := by decide +kernel
theorem de_K_dropBatch_13 : decode mb_K_dropBatch 13 = .ok (.return_, 1) := by decide +kernel
theorem de_K_gatherEverything_0 : decode mb_K_gatherEverything 0 = .ok (.aload_n 0, 1) := by decide +kernel
theorem de_K_gatherEverything_1 : decode mb_K_gatherEverything 1 = .ok (.getfield 34, 3) := by decide +kernel
theorem de_K_gatherEverything_4 : decode mb_K_gatherEverything 4 = .ok (.iconst 0, 1) := by decide +kernel
theorem de_K_gatherEverything_5 : decode mb_K_gatherEverything 5 = .ok (.invokevirtual 112, 3) := by decide +kernel
theorem de_K_gatherEverything_8 : decode mb_K_gatherEverything 8 = .ok (.aload_n 0, 1) := by decide +kernel
theorem de_K_gatherEverything_9 : decode mb_K_gatherEverything 9 = .ok (.getfield 34, 3) := by decide +kernel
theorem de_K_gatherEverything_12 : decode mb_K_gatherEverything 12 = .ok (.aload_n 0, 1) := by decide +kernel
theorem de_K_gatherEverything_13 : decode mb_K_gatherEverything 13 = .ok (.getfield 14, 3) := by decide +kernel
theorem de_K_gatherEverything_16 : decode mb_K_gatherEverything 16 = .ok (.invokevirtual 231, 3) := by decide +kernel
theorem de_K_gatherEverything_19 : decode mb_K_gatherEverything 19 = .ok (.iconst 0, 1) := by decide +kernel
theorem de_K_gatherEverything_20 : decode mb_K_gatherEverything 20 = .ok (.istore_n 1, 1) := by decide +kernel
theorem de_K_gatherEverything_21 : decode mb_K_gatherEverything 21 = .ok (.iload_n 1, 1) := by decide +kernel
theorem de_K_gatherEverything_22 : decode mb_K_gatherEverything 22 = .ok (.bipush 6, 2) := by decide +kernel
theorem de_K_gatherEverything_24 : decode mb_K_gatherEverything 24 = .ok (.if_icmp .ge 22, 3) := by decide +kernel
theorem de_K_gatherEverything_27 : decode mb_K_gatherEverything 27 = .ok (.aload_n 0, 1) := by decide +kernel
theorem de_K_gatherEverything_28 : decode mb_K_gatherEverything 28 = .ok (.getfield 23, 3) := by decide +kernel
theorem de_K_gatherEverything_31 : decode mb_K_gatherEverything 31 = .ok (.iload_n 1, 1) := by decide +kernel
theorem de_K_gatherEverything_32 : decode mb_K_gatherEverything 32 = .ok (.aaload, 1) := by decide +kernel
theorem de_K_gatherEverything_33 : decode mb_K_gatherEverything 33 = .ok (.aload_n 0, 1) := by decide +kernel
theorem de_K_gatherEverything_34 : decode mb_K_gatherEverything 34 = .ok (.getfield 34, 3) := by decide +kernel
theorem de_K_gatherEverything_37 : decode mb_K_gatherEverything 37 = .ok (.invokevirtual 234, 3) := by decide +kernel
theorem de_K_gatherEverything_40 : decode mb_K_gatherEverything 40 = .ok (.iinc 1 1, 3) := by decide +kernel
theorem de_K_gatherEverything_43 : decode mb_K_gatherEverything 43 = .ok (.goto (-22), 3) := by decide +kernel
theorem de_K_gatherEverything_46 : decode mb_K_gatherEverything 46 = .ok (.return_, 1) := by decide +kernel
theorem de_K_put_0 : decode mb_K_put 0 = .ok (.aload_n 0, 1) := by decide +kernel
theorem de_K_put_1 : decode mb_K_put 1 = .ok (.iload_n 1, 1) := by decide +kernel
theorem de_K_put_2 : decode mb_K_put 2 = .ok (.lload_n 2, 1) := by decide +kernel
theorem de_K_put_3 : decode mb_K_put 3 = .ok (.iconst 0, 1) := by decide +kernel
theorem de_K_put_4 : decode mb_K_put 4 = .ok (.invokevirtual 64, 3) := by decide +kernel
theorem de_K_put_7 : decode mb_K_put 7 = .ok (.ireturn, 1) := by decide +kernel
theorem de_K_write_0 : decode mb_K_write 0 = .ok (.iload_n 1, 1) := by decide +kernel
theorem de_K_write_1 : decode mb_K_write 1 = .ok (.invokestatic 200, 3) := by decide +kernel
theorem de_K_write_4 : decode mb_K_write 4 = .ok (.ifCond .ne 13, 3) := by decide +kernel
theorem de_K_write_7 : decode mb_K_write 7 = .ok (.new 103, 3) := by decide +kernel
theorem de_K_write_10 : decode mb_K_write 10 = .ok (.dup, 1) := by decide +kernel
theorem de_K_write_11 : decode mb_K_write 11 = .ok (.ldc 203, 2) := by decide +kernel
theorem de_K_write_13 : decode mb_K_write 13 = .ok (.invokespecial 107, 3) := by decide +kernel
theorem de_K_write_16 : decode mb_K_write 16 = .ok (.athrow, 1) := by decide +kernel
theorem de_K_write_17 : decode mb_K_write 17 = .ok (.aload_n 0, 1) := by decide +kernel
theorem de_K_write_18 : decode mb_K_write 18 = .ok (.getfield 50, 3) := by decide +kernel
theorem de_K_write_21 : decode mb_K_write 21 = .ok (.ifCond .eq 16, 3) := by decide +kernel
theorem de_K_write_24 : decode mb_K_write 24 = .ok (.aload_n 0, 1) := by decide +kernel
theorem de_K_write_25 : decode mb_K_write 25 = .ok (.getfield 18, 3) := by decide +kernel
theorem de_K_write_28 : decode mb_K_write 28 = .ok (.invokevirtual 204, 3) := by decide +kernel
theorem de_K_write_31 : decode mb_K_write 31 = .ok (.ifCond .eq 26, 3) := by decide +kernel
theorem de_K_write_34 : decode mb_K_write 34 = .ok (.goto 13, 3) := by decide +kernel
theorem de_K_write_37 : decode mb_K_write 37 = .ok (.aload_n 0, 1) := by decide +kernel
theorem de_K_write_38 : decode mb_K_write 38 = .ok (.invokevirtual 81, 3) := by decide +kernel
theorem de_K_write_41 : decode mb_K_write 41 = .ok (.sipush 600, 3) := by decide +kernel
theorem de_K_write_44 : decode mb_K_write 44 = .ok (.if_icmp .lt 13, 3) := by decide +kernel
theorem de_K_write_47 : decode mb_K_write 47 = .ok (.new 84, 3) := by decide +kernel
theorem de_K_write_50 : decode mb_K_write 50 = .ok (.dup, 1) := by decide +kernel
theorem de_K_write_51 : decode mb_K_write 51 = .ok (.ldc 207, 2) := by decide +kernel
theorem de_K_write_53 : decode mb_K_write 53 = .ok (.invokespecial 88, 3) := by decide +kernel
theorem de_K_write_56 : decode mb_K_write 56 = .ok (.athrow, 1) := by decide +kernel
theorem de_K_write_57 : decode mb_K_write 57 = .ok (.new 40, 3) := by decide +kernel
theorem de_K_write_60 : decode mb_K_write 60 = .ok (.dup, 1) := by decide +kernel
theorem de_K_write_61 : decode mb_K_write 61 = .ok (.iload_n 1, 1) := by decide +kernel
theorem de_K_write_62 : decode mb_K_write 62 = .ok (.iconst 0, 1) := by decide +kernel
theorem de_K_write_63 : decode mb_K_write 63 = .ok (.lload_n 2, 1) := by decide +kernel
theorem de_K_write_64 : decode mb_K_write 64 = .ok (.iload 4, 2) := by decide +kernel
theorem de_K_write_66 : decode mb_K_write 66 = .ok (.invokespecial 209, 3) := by decide +kernel
theorem de_K_write_69 : decode mb_K_write 69 = .ok (.astore 5, 2) := by decide +kernel
theorem de_K_write_71 : decode mb_K_write 71 = .ok (.aload_n 0, 1) := by decide +kernel
theorem de_K_write_72 : decode mb_K_write 72 = .ok (.getfield 50, 3) := by decide +kernel
theorem de_K_write_75 : decode mb_K_write 75 = .ok (.ifCond .eq 20, 3) := by decide +kernel
theorem de_K_write_78 : decode mb_K_write 78 = .ok (.aload_n 0, 1) := by decide +kernel
theorem de_K_write_79 : decode mb_K_write 79 = .ok (.getfield 18, 3) := by decide +kernel
theorem de_K_write_82 : decode mb_K_write 82 = .ok (.aload 5, 2) := by decide +kernel
theorem de_K_write_84 : decode mb_K_write 84 = .ok (.invokevirtual 212, 3) := by decide +kernel
theorem de_K_write_87 : decode mb_K_write 87 = .ok (.aload_n 0, 1) := by decide +kernel
theorem de_K_write_88 : decode mb_K_write 88 = .ok (.getfield 18, 3) := by decide +kernel
theorem de_K_write_91 : decode mb_K_write 91 = .ok (.invokevirtual 77, 3) := by decide +kernel
theorem de_K_write_94 : decode mb_K_write 94 = .ok (.ireturn, 1) := by decide +kernel
theorem de_K_write_95 : decode mb_K_write 95 = .ok (.aload_n 0, 1) := by decide +kernel
theorem de_K_write_96 : decode mb_K_write 96 = .ok (.aload 5, 2) := by decide +kernel
theorem de_K_write_98 : decode mb_K_write 98 = .ok (.invokevirtual 93, 3) := by decide +kernel
theorem de_K_write_101 : decode mb_K_write 101 = .ok (.aload_n 0, 1) := by decide +kernel
theorem de_K_write_102 : decode mb_K_write 102 = .ok (.bipush 24, 2) := by decide +kernel
theorem de_K_write_104 : decode mb_K_write 104 = .ok (.invokevirtual 97, 3) := by decide +kernel
theorem de_K_write_107 : decode mb_K_write 107 = .ok (.aload_n 0, 1) := by decide +kernel
theorem de_K_write_108 : decode mb_K_write 108 = .ok (.getfield 54, 3) := by decide +kernel
theorem de_K_write_111 : decode mb_K_write 111 = .ok (.ireturn, 1) := by decide +kernel
theorem de_K_isKey_0 : decode mb_K_isKey 0 = .ok (.iload_n 0, 1) := by decide +kernel
theorem de_K_isKey_1 : decode mb_K_isKey 1 = .ok (.ifCond .lt 14, 3) := by decide +kernel
theorem de_K_isKey_4 : decode mb_K_isKey 4 = .ok (.iload_n 0, 1) := by decide +kernel
theorem de_K_isKey_5 : decode mb_K_isKey 5 = .ok (.sipush 1024, 3) := by decide +kernel
theorem de_K_isKey_8 : decode mb_K_isKey 8 = .ok (.if_icmp .ge 7, 3) := by decide +kernel
theorem de_K_isKey_11 : decode mb_K_isKey 11 = .ok (.iconst 1, 1) := by decide +kernel
theorem de_K_isKey_12 : decode mb_K_isKey 12 = .ok (.goto 4, 3) := by decide +kernel
theorem de_K_isKey_15 : decode mb_K_isKey 15 = .ok (.iconst 0, 1) := by decide +kernel
theorem de_K_isKey_16 : decode mb_K_isKey 16 = .ok (.ireturn, 1) := by decide +kernel
theorem de_K_entriesInAll_0 : decode mb_K_entriesInAll 0 = .ok (.aload_n 0, 1) := by decide +kernel
theorem de_K_entriesInAll_1 : decode mb_K_entriesInAll 1 = .ok (.getfield 14, 3) := by decide +kernel
theorem de_K_entriesInAll_4 : decode mb_K_entriesInAll 4 = .ok (.invokevirtual 77, 3) := by decide +kernel
theorem de_K_entriesInAll_7 : decode mb_K_entriesInAll 7 = .ok (.istore_n 1, 1) := by decide +kernel
theorem de_K_entriesInAll_8 : decode mb_K_entriesInAll 8 = .ok (.iconst 0, 1) := by decide +kernel
theorem de_K_entriesInAll_9 : decode mb_K_entriesInAll 9 = .ok (.istore_n 2, 1) := by decide +kernel
theorem de_K_entriesInAll_10 : decode mb_K_entriesInAll 10 = .ok (.iload_n 2, 1) := by decide +kernel
theorem de_K_entriesInAll_11 : decode mb_K_entriesInAll 11 = .ok (.bipush 6, 2) := by decide +kernel
theorem de_K_entriesInAll_13 : decode mb_K_entriesInAll 13 = .ok (.if_icmp .ge 21, 3) := by decide +kernel
theorem de_K_entriesInAll_16 : decode mb_K_entriesInAll 16 = .ok (.iload_n 1, 1) := by decide +kernel
theorem de_K_entriesInAll_17 : decode mb_K_entriesInAll 17 = .ok (.aload_n 0, 1) := by decide +kernel
theorem de_K_entriesInAll_18 : decode mb_K_entriesInAll 18 = .ok (.getfield 23, 3) := by decide +kernel
theorem de_K_entriesInAll_21 : decode mb_K_entriesInAll 21 = .ok (.iload_n 2, 1) := by decide +kernel
theorem de_K_entriesInAll_22 : decode mb_K_entriesInAll 22 = .ok (.aaload, 1) := by decide +kernel
theorem de_K_entriesInAll_23 : decode mb_K_entriesInAll 23 = .ok (.invokevirtual 194, 3) := by decide +kernel
theorem de_K_entriesInAll_26 : decode mb_K_entriesInAll 26 = .ok (.iadd, 1) := by decide +kernel
theorem de_K_entriesInAll_27 : decode mb_K_entriesInAll 27 = .ok (.istore_n 1, 1) := by decide +kernel
theorem de_K_entriesInAll_28 : decode mb_K_entriesInAll 28 = .ok (.iinc 2 1, 3) := by decide +kernel
theorem de_K_entriesInAll_31 : decode mb_K_entriesInAll 31 = .ok (.goto (-21), 3) := by decide +kernel
theorem de_K_entriesInAll_34 : decode mb_K_entriesInAll 34 = .ok (.iload_n 1, 1) := by decide +kernel
theorem de_K_entriesInAll_35 : decode mb_K_entriesInAll 35 = .ok (.ireturn, 1) := by decide +kernel
theorem de_K_appendToTable_0 : decode mb_K_appendToTable 0 = .ok (.aload_n 1, 1) := by decide +kernel
theorem de_K_appendToTable_1 : decode mb_K_appendToTable 1 = .ok (.ifnull 28, 3) := by decide +kernel
theorem de_K_appendToTable_4 : decode mb_K_appendToTable 4 = .ok (.aload_n 0, 1) := by decide +kernel
theorem de_K_appendToTable_5 : decode mb_K_appendToTable 5 = .ok (.dup, 1) := by decide +kernel
theorem de_K_appendToTable_6 : decode mb_K_appendToTable 6 = .ok (.getfield 54, 3) := by decide +kernel
theorem de_K_appendToTable_9 : decode mb_K_appendToTable 9 = .ok (.iconst 1, 1) := by decide +kernel
theorem de_K_appendToTable_10 : decode mb_K_appendToTable 10 = .ok (.iadd, 1) := by decide +kernel
theorem de_K_appendToTable_11 : decode mb_K_appendToTable 11 = .ok (.putfield 54, 3) := by decide +kernel
theorem de_K_appendToTable_14 : decode mb_K_appendToTable 14 = .ok (.aload_n 0, 1) := by decide +kernel
theorem de_K_appendToTable_15 : decode mb_K_appendToTable 15 = .ok (.getfield 14, 3) := by decide +kernel
theorem de_K_appendToTable_18 : decode mb_K_appendToTable 18 = .ok (.aload_n 1, 1) := by decide +kernel
theorem de_K_appendToTable_19 : decode mb_K_appendToTable 19 = .ok (.aload_n 0, 1) := by decide +kernel
theorem de_K_appendToTable_20 : decode mb_K_appendToTable 20 = .ok (.getfield 54, 3) := by decide +kernel
theorem de_K_appendToTable_23 : decode mb_K_appendToTable 23 = .ok (.invokevirtual 215, 3) := by decide +kernel
theorem de_K_appendToTable_26 : decode mb_K_appendToTable 26 = .ok (.invokevirtual 212, 3) := by decide +kernel
theorem de_K_appendToTable_29 : decode mb_K_appendToTable 29 = .ok (.return_, 1) := by decide +kernel
theorem de_K_delete_0 : decode mb_K_delete 0 = .ok (.aload_n 0, 1) := by decide +kernel
theorem de_K_delete_1 : decode mb_K_delete 1 = .ok (.iload_n 1, 1) := by decide +kernel
theorem de_K_delete_2 : decode mb_K_delete 2 = .ok (.lconst 0, 1) := by decide +kernel
theorem de_K_delete_3 : decode mb_K_delete 3 = .ok (.iconst 1, 1) := by decide +kernel
theorem de_K_delete_4 : decode mb_K_delete 4 = .ok (.invokevirtual 64, 3) := by decide +kernel
theorem de_K_delete_7 : decode mb_K_delete 7 = .ok (.ireturn, 1) := by decide +kernel
theorem de_K_batch_0 : decode mb_K_batch 0 = .ok (.aload_n 0, 1) := by decide +kernel
theorem de_K_batch_1 : decode mb_K_batch 1 = .ok (.getfield 50, 3) := by decide +kernel
theorem de_K_batch_4 : decode mb_K_batch 4 = .ok (.ifCond .eq 13, 3) := by decide +kernel
theorem de_K_batch_7 : decode mb_K_batch 7 = .ok (.new 68, 3) := by decide +kernel
theorem de_K_batch_10 : decode mb_K_batch 10 = .ok (.dup, 1) := by decide +kernel
theorem de_K_batch_11 : decode mb_K_batch 11 = .ok (.ldc 70, 2) := by decide +kernel
theorem de_K_batch_13 : decode mb_K_batch 13 = .ok (.invokespecial 72, 3) := by decide +kernel
theorem de_K_batch_16 : decode mb_K_batch 16 = .ok (.athrow, 1) := by decide +kernel
theorem de_K_batch_17 : decode mb_K_batch 17 = .ok (.aload_n 0, 1) := by decide +kernel
theorem de_K_batch_18 : decode mb_K_batch 18 = .ok (.iconst 1, 1) := by decide +kernel
theorem de_K_batch_19 : decode mb_K_batch 19 = .ok (.putfield 50, 3) := by decide +kernel
theorem de_K_batch_22 : decode mb_K_batch 22 = .ok (.return_, 1) := by decide +kernel
theorem de_K_end_0 : decode mb_K_end 0 = .ok (.aload_n 0, 1) := by decide +kernel
theorem de_K_end_1 : decode mb_K_end 1 = .ok (.getfield 50, 3) := by decide +kernel
theorem de_K_end_4 : decode mb_K_end 4 = .ok (.ifCond .ne 13, 3) := by decide +kernel
theorem de_K_end_7 : decode mb_K_end 7 = .ok (.new 68, 3) := by decide +kernel
theorem de_K_end_10 : decode mb_K_end 10 = .ok (.dup, 1) := by decide +kernel
theorem de_K_end_11 : decode mb_K_end 11 = .ok (.ldc 75, 2) := by decide +kernel
theorem de_K_end_13 : decode mb_K_end 13 = .ok (.invokespecial 72, 3) := by decide +kernel
theorem de_K_end_16 : decode mb_K_end 16 = .ok (.athrow, 1) := by decide +kernel
theorem de_K_end_17 : decode mb_K_end 17 = .ok (.iload_n 1, 1) := by decide +kernel
theorem de_K_end_18 : decode mb_K_end 18 = .ok (.ifCond .eq 13, 3) := by decide +kernel
theorem de_K_end_21 : decode mb_K_end 21 = .ok (.aload_n 0, 1) := by decide +kernel
theorem de_K_end_22 : decode mb_K_end 22 = .ok (.getfield 18, 3) := by decide +kernel
theorem de_K_end_25 : decode mb_K_end 25 = .ok (.invokevirtual 77, 3) := by decide +kernel
theorem de_K_end_28 : decode mb_K_end 28 = .ok (.goto 4, 3) := by decide +kernel
theorem de_K_end_31 : decode mb_K_end 31 = .ok (.iconst 0, 1) := by decide +kernel
theorem de_K_end_32 : decode mb_K_end 32 = .ok (.istore_n 2, 1) := by decide +kernel
theorem de_K_end_33 : decode mb_K_end 33 = .ok (.aload_n 0, 1) := by decide +kernel
theorem de_K_end_34 : decode mb_K_end 34 = .ok (.invokevirtual 81, 3) := by decide +kernel
theorem de_K_end_37 : decode mb_K_end 37 = .ok (.iload_n 2, 1) := by decide +kernel
theorem de_K_end_38 : decode mb_K_end 38 = .ok (.iadd, 1) := by decide +kernel
theorem de_K_end_39 : decode mb_K_end 39 = .ok (.sipush 600, 3) := by decide +kernel
theorem de_K_end_42 : decode mb_K_end 42 = .ok (.if_icmp .le 13, 3) := by decide +kernel
theorem de_K_end_45 : decode mb_K_end 45 = .ok (.new 84, 3) := by decide +kernel
theorem de_K_end_48 : decode mb_K_end 48 = .ok (.dup, 1) := by decide +kernel
theorem de_K_end_49 : decode mb_K_end 49 = .ok (.ldc 86, 2) := by decide +kernel
theorem de_K_end_51 : decode mb_K_end 51 = .ok (.invokespecial 88, 3) := by decide +kernel
theorem de_K_end_54 : decode mb_K_end 54 = .ok (.athrow, 1) := by decide +kernel
theorem de_K_end_55 : decode mb_K_end 55 = .ok (.iconst 0, 1) := by decide +kernel
theorem de_K_end_56 : decode mb_K_end 56 = .ok (.istore_n 3, 1) := by decide +kernel
theorem de_K_end_57 : decode mb_K_end 57 = .ok (.iload_n 3, 1) := by decide +kernel
theorem de_K_end_58 : decode mb_K_end 58 = .ok (.iload_n 2, 1) := by decide +kernel
theorem de_K_end_59 : decode mb_K_end 59 = .ok (.if_icmp .ge 21, 3) := by decide +kernel
theorem de_K_end_62 : decode mb_K_end 62 = .ok (.aload_n 0, 1) := by decide +kernel
theorem de_K_end_63 : decode mb_K_end 63 = .ok (.aload_n 0, 1) := by decide +kernel
theorem de_K_end_64 : decode mb_K_end 64 = .ok (.getfield 18, 3) := by decide +kernel
theorem de_K_end_67 : decode mb_K_end 67 = .ok (.iload_n 3, 1) := by decide +kernel
theorem de_K_end_68 : decode mb_K_end 68 = .ok (.invokevirtual 89, 3) := by decide +kernel
theorem de_K_end_71 : decode mb_K_end 71 = .ok (.invokevirtual 93, 3) := by decide +kernel
theorem de_K_end_74 : decode mb_K_end 74 = .ok (.iinc 3 1, 3) := by decide +kernel
theorem de_K_end_77 : decode mb_K_end 77 = .ok (.goto (-20), 3) := by decide +kernel
theorem de_K_end_80 : decode mb_K_end 80 = .ok (.aload_n 0, 1) := by decide +kernel
theorem de_K_end_81 : decode mb_K_end 81 = .ok (.bipush 24, 2) := by decide +kernel
theorem de_K_end_83 : decode mb_K_end 83 = .ok (.invokevirtual 97, 3) := by decide +kernel
theorem de_K_end_86 : decode mb_K_end 86 = .ok (.aload_n 0, 1) := by decide +kernel
theorem de_K_end_87 : decode mb_K_end 87 = .ok (.invokevirtual 100, 3) := by decide +kernel
theorem de_K_end_90 : decode mb_K_end 90 = .ok (.iload_n 2, 1) := by decide +kernel
theorem de_K_end_91 : decode mb_K_end 91 = .ok (.ireturn, 1) := by decide +kernel
theorem de_K_merge_0 : decode mb_K_merge 0 = .ok (.iload_n 1, 1) := by decide +kernel
theorem de_K_merge_1 : decode mb_K_merge 1 = .ok (.ifCond .lt 9, 3) := by decide +kernel
theorem de_K_merge_4 : decode mb_K_merge 4 = .ok (.iload_n 1, 1) := by decide +kernel
theorem de_K_merge_5 : decode mb_K_merge 5 = .ok (.bipush 100, 2) := by decide +kernel
theorem de_K_merge_7 : decode mb_K_merge 7 = .ok (.if_icmp .le 13, 3) := by decide +kernel
theorem de_K_merge_10 : decode mb_K_merge 10 = .ok (.new 103, 3) := by decide +kernel
theorem de_K_merge_13 : decode mb_K_merge 13 = .ok (.dup, 1) := by decide +kernel
theorem de_K_merge_14 : decode mb_K_merge 14 = .ok (.ldc 105, 2) := by decide +kernel
theorem de_K_merge_16 : decode mb_K_merge 16 = .ok (.invokespecial 107, 3) := by decide +kernel
theorem de_K_merge_19 : decode mb_K_merge 19 = .ok (.athrow, 1) := by decide +kernel
theorem de_K_merge_20 : decode mb_K_merge 20 = .ok (.iconst 0, 1) := by decide +kernel
theorem de_K_merge_21 : decode mb_K_merge 21 = .ok (.istore_n 2, 1) := by decide +kernel
theorem de_K_merge_22 : decode mb_K_merge 22 = .ok (.iload_n 2, 1) := by decide +kernel
theorem de_K_merge_23 : decode mb_K_merge 23 = .ok (.iload_n 1, 1) := by decide +kernel
theorem de_K_merge_24 : decode mb_K_merge 24 = .ok (.if_icmp .ge 16, 3) := by decide +kernel
theorem de_K_merge_27 : decode mb_K_merge 27 = .ok (.aload_n 0, 1) := by decide +kernel
theorem de_K_merge_28 : decode mb_K_merge 28 = .ok (.invokevirtual 108, 3) := by decide +kernel
theorem de_K_merge_31 : decode mb_K_merge 31 = .ok (.ifCond .eq 9, 3) := by decide +kernel
theorem de_K_merge_34 : decode mb_K_merge 34 = .ok (.iinc 2 1, 3) := by decide +kernel
theorem de_K_merge_37 : decode mb_K_merge 37 = .ok (.goto (-15), 3) := by decide +kernel
theorem de_K_merge_40 : decode mb_K_merge 40 = .ok (.iload_n 2, 1) := by decide +kernel
theorem de_K_merge_41 : decode mb_K_merge 41 = .ok (.ireturn, 1) := by decide +kernel
theorem de_K_mergeOnce_0 : decode mb_K_mergeOnce 0 = .ok (.aload_n 0, 1) := by decide +kernel
theorem de_K_mergeOnce_1 : decode mb_K_mergeOnce 1 = .ok (.invokevirtual 237, 3) := by decide +kernel
theorem de_K_mergeOnce_4 : decode mb_K_mergeOnce 4 = .ok (.istore_n 1, 1) := by decide +kernel
theorem de_K_mergeOnce_5 : decode mb_K_mergeOnce 5 = .ok (.iload_n 1, 1) := by decide +kernel
theorem de_K_mergeOnce_6 : decode mb_K_mergeOnce 6 = .ok (.ifCond .ge 5, 3) := by decide +kernel
theorem de_K_mergeOnce_9 : decode mb_K_mergeOnce 9 = .ok (.iconst 0, 1) := by decide +kernel
theorem de_K_mergeOnce_10 : decode mb_K_mergeOnce 10 = .ok (.ireturn, 1) := by decide +kernel
theorem de_K_mergeOnce_11 : decode mb_K_mergeOnce 11 = .ok (.aload_n 0, 1) := by decide +kernel
theorem de_K_mergeOnce_12 : decode mb_K_mergeOnce 12 = .ok (.iload_n 1, 1) := by decide +kernel
theorem de_K_mergeOnce_13 : decode mb_K_mergeOnce 13 = .ok (.iconst 1, 1) := by decide +kernel
theorem de_K_mergeOnce_14 : decode mb_K_mergeOnce 14 = .ok (.iadd, 1) := by decide +kernel
theorem de_K_mergeOnce_15 : decode mb_K_mergeOnce 15 = .ok (.invokevirtual 240, 3) := by decide +kernel
theorem de_K_mergeOnce_18 : decode mb_K_mergeOnce 18 = .ok (.istore_n 2, 1) := by decide +kernel
theorem de_K_mergeOnce_19 : decode mb_K_mergeOnce 19 = .ok (.aload_n 0, 1) := by decide +kernel
theorem de_K_mergeOnce_20 : decode mb_K_mergeOnce 20 = .ok (.getfield 34, 3) := by decide +kernel
theorem de_K_mergeOnce_23 : decode mb_K_mergeOnce 23 = .ok (.iconst 0, 1) := by decide +kernel
theorem de_K_mergeOnce_24 : decode mb_K_mergeOnce 24 = .ok (.invokevirtual 112, 3) := by decide +kernel
theorem de_K_mergeOnce_27 : decode mb_K_mergeOnce 27 = .ok (.aload_n 0, 1) := by decide +kernel
theorem de_K_mergeOnce_28 : decode mb_K_mergeOnce 28 = .ok (.getfield 23, 3) := by decide +kernel
theorem de_K_mergeOnce_31 : decode mb_K_mergeOnce 31 = .ok (.iload_n 1, 1) := by decide +kernel
theorem de_K_mergeOnce_32 : decode mb_K_mergeOnce 32 = .ok (.aaload, 1) := by decide +kernel
theorem de_K_mergeOnce_33 : decode mb_K_mergeOnce 33 = .ok (.aload_n 0, 1) := by decide +kernel
theorem de_K_mergeOnce_34 : decode mb_K_mergeOnce 34 = .ok (.getfield 34, 3) := by decide +kernel
theorem de_K_mergeOnce_37 : decode mb_K_mergeOnce 37 = .ok (.invokevirtual 234, 3) := by decide +kernel
theorem de_K_mergeOnce_40 : decode mb_K_mergeOnce 40 = .ok (.aload_n 0, 1) := by decide +kernel
theorem de_K_mergeOnce_41 : decode mb_K_mergeOnce 41 = .ok (.getfield 34, 3) := by decide +kernel
theorem de_K_mergeOnce_44 : decode mb_K_mergeOnce 44 = .ok (.invokevirtual 218, 3) := by decide +kernel
theorem de_K_mergeOnce_47 : decode mb_K_mergeOnce 47 = .ok (.aload_n 0, 1) := by decide +kernel
theorem de_K_mergeOnce_48 : decode mb_K_mergeOnce 48 = .ok (.iload_n 2, 1) := by decide +kernel
theorem de_K_mergeOnce_49 : decode mb_K_mergeOnce 49 = .ok (.invokevirtual 243, 3) := by decide +kernel
theorem de_K_mergeOnce_52 : decode mb_K_mergeOnce 52 = .ok (.aload_n 0, 1) := by decide +kernel
theorem de_K_mergeOnce_53 : decode mb_K_mergeOnce 53 = .ok (.getfield 23, 3) := by decide +kernel
theorem de_K_mergeOnce_56 : decode mb_K_mergeOnce 56 = .ok (.iload_n 1, 1) := by decide +kernel
theorem de_K_mergeOnce_57 : decode mb_K_mergeOnce 57 = .ok (.aaload, 1) := by decide +kernel
theorem de_K_mergeOnce_58 : decode mb_K_mergeOnce 58 = .ok (.invokevirtual 247, 3) := by decide +kernel
theorem de_K_mergeOnce_61 : decode mb_K_mergeOnce 61 = .ok (.aload_n 0, 1) := by decide +kernel
theorem de_K_mergeOnce_62 : decode mb_K_mergeOnce 62 = .ok (.iload_n 1, 1) := by decide +kernel
theorem de_K_mergeOnce_63 : decode mb_K_mergeOnce 63 = .ok (.iconst 1, 1) := by decide +kernel
theorem de_K_mergeOnce_64 : decode mb_K_mergeOnce 64 = .ok (.iadd, 1) := by decide +kernel
theorem de_K_mergeOnce_65 : decode mb_K_mergeOnce 65 = .ok (.aload_n 0, 1) := by decide +kernel
theorem de_K_mergeOnce_66 : decode mb_K_mergeOnce 66 = .ok (.getfield 37, 3) := by decide +kernel
theorem de_K_mergeOnce_69 : decode mb_K_mergeOnce 69 = .ok (.invokevirtual 221, 3) := by decide +kernel
theorem de_K_mergeOnce_72 : decode mb_K_mergeOnce 72 = .ok (.iconst 1, 1) := by decide +kernel
theorem de_K_mergeOnce_73 : decode mb_K_mergeOnce 73 = .ok (.ireturn, 1) := by decide +kernel
theorem de_K_leastLevelToMerge_0 : decode mb_K_leastLevelToMerge 0 = .ok (.iconst 0, 1) := by decide +kernel
theorem de_K_leastLevelToMerge_1 : decode mb_K_leastLevelToMerge 1 = .ok (.istore_n 1, 1) := by decide +kernel
theorem de_K_leastLevelToMerge_2 : decode mb_K_leastLevelToMerge 2 = .ok (.iload_n 1, 1) := by decide +kernel
theorem de_K_leastLevelToMerge_3 : decode mb_K_leastLevelToMerge 3 = .ok (.iconst 5, 1) := by decide +kernel
theorem de_K_leastLevelToMerge_4 : decode mb_K_leastLevelToMerge 4 = .ok (.if_icmp .ge 24, 3) := by decide +kernel
theorem de_K_leastLevelToMerge_7 : decode mb_K_leastLevelToMerge 7 = .ok (.aload_n 0, 1) := by decide +kernel
theorem de_K_leastLevelToMerge_8 : decode mb_K_leastLevelToMerge 8 = .ok (.getfield 23, 3) := by decide +kernel
theorem de_K_leastLevelToMerge_11 : decode mb_K_leastLevelToMerge 11 = .ok (.iload_n 1, 1) := by decide +kernel
theorem de_K_leastLevelToMerge_12 : decode mb_K_leastLevelToMerge 12 = .ok (.aaload, 1) := by decide +kernel
theorem de_K_leastLevelToMerge_13 : decode mb_K_leastLevelToMerge 13 = .ok (.invokevirtual 191, 3) := by decide +kernel
theorem de_K_leastLevelToMerge_16 : decode mb_K_leastLevelToMerge 16 = .ok (.iconst 4, 1) := by decide +kernel
theorem de_K_leastLevelToMerge_17 : decode mb_K_leastLevelToMerge 17 = .ok (.if_icmp .lt 5, 3) := by decide +kernel
theorem de_K_leastLevelToMerge_20 : decode mb_K_leastLevelToMerge 20 = .ok (.iload_n 1, 1) := by decide +kernel
theorem de_K_leastLevelToMerge_21 : decode mb_K_leastLevelToMerge 21 = .ok (.ireturn, 1) := by decide +kernel
theorem de_K_leastLevelToMerge_22 : decode mb_K_leastLevelToMerge 22 = .ok (.iinc 1 1, 3) := by decide +kernel
theorem de_K_leastLevelToMerge_25 : decode mb_K_leastLevelToMerge 25 = .ok (.goto (-23), 3) := by decide +kernel
theorem de_K_leastLevelToMerge_28 : decode mb_K_leastLevelToMerge 28 = .ok (.iconst (-1), 1) := by decide +kernel
theorem de_K_leastLevelToMerge_29 : decode mb_K_leastLevelToMerge 29 = .ok (.ireturn, 1) := by decide +kernel
theorem de_K_areEmptyFrom_0 : decode mb_K_areEmptyFrom 0 = .ok (.iload_n 1, 1) := by decide +kernel
theorem de_K_areEmptyFrom_1 : decode mb_K_areEmptyFrom 1 = .ok (.istore_n 2, 1) := by decide +kernel
theorem de_K_areEmptyFrom_2 : decode mb_K_areEmptyFrom 2 = .ok (.iload_n 2, 1) := by decide +kernel
theorem de_K_areEmptyFrom_3 : decode mb_K_areEmptyFrom 3 = .ok (.bipush 6, 2) := by decide +kernel
theorem de_K_areEmptyFrom_5 : decode mb_K_areEmptyFrom 5 = .ok (.if_icmp .ge 23, 3) := by decide +kernel
theorem de_K_areEmptyFrom_8 : decode mb_K_areEmptyFrom 8 = .ok (.aload_n 0, 1) := by decide +kernel
theorem de_K_areEmptyFrom_9 : decode mb_K_areEmptyFrom 9 = .ok (.getfield 23, 3) := by decide +kernel
theorem de_K_areEmptyFrom_12 : decode mb_K_areEmptyFrom 12 = .ok (.iload_n 2, 1) := by decide +kernel
theorem de_K_areEmptyFrom_13 : decode mb_K_areEmptyFrom 13 = .ok (.aaload, 1) := by decide +kernel
theorem de_K_areEmptyFrom_14 : decode mb_K_areEmptyFrom 14 = .ok (.invokevirtual 191, 3) := by decide +kernel
theorem de_K_areEmptyFrom_17 : decode mb_K_areEmptyFrom 17 = .ok (.ifCond .le 5, 3) := by decide +kernel
theorem de_K_areEmptyFrom_20 : decode mb_K_areEmptyFrom 20 = .ok (.iconst 0, 1) := by decide +kernel
theorem de_K_areEmptyFrom_21 : decode mb_K_areEmptyFrom 21 = .ok (.ireturn, 1) := by decide +kernel
theorem de_K_areEmptyFrom_22 : decode mb_K_areEmptyFrom 22 = .ok (.iinc 2 1, 3) := by decide +kernel
theorem de_K_areEmptyFrom_25 : decode mb_K_areEmptyFrom 25 = .ok (.goto (-23), 3) := by decide +kernel
theorem de_K_areEmptyFrom_28 : decode mb_K_areEmptyFrom 28 = .ok (.iconst 1, 1) := by decide +kernel
theorem de_K_areEmptyFrom_29 : decode mb_K_areEmptyFrom 29 = .ok (.ireturn, 1) := by decide +kernel
theorem de_K_keepWhatIsSeen_0 : decode mb_K_keepWhatIsSeen 0 = .ok (.aload_n 0, 1) := by decide +kernel
theorem de_K_keepWhatIsSeen_1 : decode mb_K_keepWhatIsSeen 1 = .ok (.getfield 37, 3) := by decide +kernel
theorem de_K_keepWhatIsSeen_4 : decode mb_K_keepWhatIsSeen 4 = .ok (.iconst 0, 1) := by decide +kernel
theorem de_K_keepWhatIsSeen_5 : decode mb_K_keepWhatIsSeen 5 = .ok (.invokevirtual 112, 3) := by decide +kernel
theorem de_K_keepWhatIsSeen_8 : decode mb_K_keepWhatIsSeen 8 = .ok (.iconst 0, 1) := by decide +kernel
theorem de_K_keepWhatIsSeen_9 : decode mb_K_keepWhatIsSeen 9 = .ok (.istore_n 2, 1) := by decide +kernel
theorem de_K_keepWhatIsSeen_10 : decode mb_K_keepWhatIsSeen 10 = .ok (.iload_n 2, 1) := by decide +kernel
theorem de_K_keepWhatIsSeen_11 : decode mb_K_keepWhatIsSeen 11 = .ok (.aload_n 0, 1) := by decide +kernel
theorem de_K_keepWhatIsSeen_12 : decode mb_K_keepWhatIsSeen 12 = .ok (.getfield 34, 3) := by decide +kernel
theorem de_K_keepWhatIsSeen_15 : decode mb_K_keepWhatIsSeen 15 = .ok (.invokevirtual 77, 3) := by decide +kernel
theorem de_K_keepWhatIsSeen_18 : decode mb_K_keepWhatIsSeen 18 = .ok (.if_icmp .ge 80, 3) := by decide +kernel
theorem de_K_keepWhatIsSeen_21 : decode mb_K_keepWhatIsSeen 21 = .ok (.aload_n 0, 1) := by decide +kernel
theorem de_K_keepWhatIsSeen_22 : decode mb_K_keepWhatIsSeen 22 = .ok (.getfield 34, 3) := by decide +kernel
theorem de_K_keepWhatIsSeen_25 : decode mb_K_keepWhatIsSeen 25 = .ok (.iload_n 2, 1) := by decide +kernel
theorem de_K_keepWhatIsSeen_26 : decode mb_K_keepWhatIsSeen 26 = .ok (.invokevirtual 89, 3) := by decide +kernel
theorem de_K_keepWhatIsSeen_29 : decode mb_K_keepWhatIsSeen 29 = .ok (.astore_n 3, 1) := by decide +kernel
theorem de_K_keepWhatIsSeen_30 : decode mb_K_keepWhatIsSeen 30 = .ok (.aload_n 3, 1) := by decide +kernel
theorem de_K_keepWhatIsSeen_31 : decode mb_K_keepWhatIsSeen 31 = .ok (.ifnull 29, 3) := by decide +kernel
theorem de_K_keepWhatIsSeen_34 : decode mb_K_keepWhatIsSeen 34 = .ok (.aload_n 0, 1) := by decide +kernel
theorem de_K_keepWhatIsSeen_35 : decode mb_K_keepWhatIsSeen 35 = .ok (.aload_n 3, 1) := by decide +kernel
theorem de_K_keepWhatIsSeen_36 : decode mb_K_keepWhatIsSeen 36 = .ok (.aload_n 0, 1) := by decide +kernel
theorem de_K_keepWhatIsSeen_37 : decode mb_K_keepWhatIsSeen 37 = .ok (.getfield 34, 3) := by decide +kernel
theorem de_K_keepWhatIsSeen_40 : decode mb_K_keepWhatIsSeen 40 = .ok (.iload_n 2, 1) := by decide +kernel
theorem de_K_keepWhatIsSeen_41 : decode mb_K_keepWhatIsSeen 41 = .ok (.iconst 1, 1) := by decide +kernel
theorem de_K_keepWhatIsSeen_42 : decode mb_K_keepWhatIsSeen 42 = .ok (.isub, 1) := by decide +kernel
theorem de_K_keepWhatIsSeen_43 : decode mb_K_keepWhatIsSeen 43 = .ok (.invokevirtual 89, 3) := by decide +kernel
theorem de_K_keepWhatIsSeen_46 : decode mb_K_keepWhatIsSeen 46 = .ok (.invokevirtual 250, 3) := by decide +kernel
theorem de_K_keepWhatIsSeen_49 : decode mb_K_keepWhatIsSeen 49 = .ok (.ifCond .eq 11, 3) := by decide +kernel
theorem de_K_keepWhatIsSeen_52 : decode mb_K_keepWhatIsSeen 52 = .ok (.aload_n 0, 1) := by decide +kernel
theorem de_K_keepWhatIsSeen_53 : decode mb_K_keepWhatIsSeen 53 = .ok (.getfield 37, 3) := by decide +kernel
theorem de_K_keepWhatIsSeen_56 : decode mb_K_keepWhatIsSeen 56 = .ok (.aload_n 3, 1) := by decide +kernel
theorem de_K_keepWhatIsSeen_57 : decode mb_K_keepWhatIsSeen 57 = .ok (.invokevirtual 212, 3) := by decide +kernel
theorem de_K_keepWhatIsSeen_60 : decode mb_K_keepWhatIsSeen 60 = .ok (.iload_n 1, 1) := by decide +kernel
theorem de_K_keepWhatIsSeen_61 : decode mb_K_keepWhatIsSeen 61 = .ok (.ifCond .eq 31, 3) := by decide +kernel
theorem de_K_keepWhatIsSeen_64 : decode mb_K_keepWhatIsSeen 64 = .ok (.aload_n 3, 1) := by decide +kernel
theorem de_K_keepWhatIsSeen_65 : decode mb_K_keepWhatIsSeen 65 = .ok (.ifnull 27, 3) := by decide +kernel
theorem de_K_keepWhatIsSeen_68 : decode mb_K_keepWhatIsSeen 68 = .ok (.aload_n 3, 1) := by decide +kernel
theorem de_K_keepWhatIsSeen_69 : decode mb_K_keepWhatIsSeen 69 = .ok (.aload_n 0, 1) := by decide +kernel
theorem de_K_keepWhatIsSeen_70 : decode mb_K_keepWhatIsSeen 70 = .ok (.getfield 34, 3) := by decide +kernel
theorem de_K_keepWhatIsSeen_73 : decode mb_K_keepWhatIsSeen 73 = .ok (.iload_n 2, 1) := by decide +kernel
theorem de_K_keepWhatIsSeen_74 : decode mb_K_keepWhatIsSeen 74 = .ok (.iconst 1, 1) := by decide +kernel
theorem de_K_keepWhatIsSeen_75 : decode mb_K_keepWhatIsSeen 75 = .ok (.iadd, 1) := by decide +kernel
theorem de_K_keepWhatIsSeen_76 : decode mb_K_keepWhatIsSeen 76 = .ok (.invokevirtual 89, 3) := by decide +kernel
theorem de_K_keepWhatIsSeen_79 : decode mb_K_keepWhatIsSeen 79 = .ok (.invokevirtual 254, 3) := by decide +kernel
theorem de_K_keepWhatIsSeen_82 : decode mb_K_keepWhatIsSeen 82 = .ok (.ifCond .ne 10, 3) := by decide +kernel
theorem de_K_keepWhatIsSeen_85 : decode mb_K_keepWhatIsSeen 85 = .ok (.aload_n 0, 1) := by decide +kernel
theorem de_K_keepWhatIsSeen_86 : decode mb_K_keepWhatIsSeen 86 = .ok (.getfield 37, 3) := by decide +kernel
theorem de_K_keepWhatIsSeen_89 : decode mb_K_keepWhatIsSeen 89 = .ok (.invokevirtual 258, 3) := by decide +kernel
theorem de_K_keepWhatIsSeen_92 : decode mb_K_keepWhatIsSeen 92 = .ok (.iinc 2 1, 3) := by decide +kernel
theorem de_K_keepWhatIsSeen_95 : decode mb_K_keepWhatIsSeen 95 = .ok (.goto (-85), 3) := by decide +kernel
theorem de_K_keepWhatIsSeen_98 : decode mb_K_keepWhatIsSeen 98 = .ok (.return_, 1) := by decide +kernel
theorem de_K_isSeen_0 : decode mb_K_isSeen 0 = .ok (.aload_n 2, 1) := by decide +kernel
theorem de_K_isSeen_1 : decode mb_K_isSeen 1 = .ok (.ifnull 11, 3) := by decide +kernel
theorem de_K_isSeen_4 : decode mb_K_isSeen 4 = .ok (.aload_n 1, 1) := by decide +kernel
theorem de_K_isSeen_5 : decode mb_K_isSeen 5 = .ok (.aload_n 2, 1) := by decide +kernel
theorem de_K_isSeen_6 : decode mb_K_isSeen 6 = .ok (.invokevirtual 254, 3) := by decide +kernel
theorem de_K_isSeen_9 : decode mb_K_isSeen 9 = .ok (.ifCond .ne 5, 3) := by decide +kernel
theorem de_K_isSeen_12 : decode mb_K_isSeen 12 = .ok (.iconst 1, 1) := by decide +kernel
theorem de_K_isSeen_13 : decode mb_K_isSeen 13 = .ok (.ireturn, 1) := by decide +kernel
theorem de_K_isSeen_14 : decode mb_K_isSeen 14 = .ok (.aload_n 0, 1) := by decide +kernel
theorem de_K_isSeen_15 : decode mb_K_isSeen 15 = .ok (.getfield 30, 3) := by decide +kernel
theorem de_K_isSeen_18 : decode mb_K_isSeen 18 = .ok (.aload_n 1, 1) := by decide +kernel
theorem de_K_isSeen_19 : decode mb_K_isSeen 19 = .ok (.getfield 188, 3) := by decide +kernel
theorem de_K_isSeen_22 : decode mb_K_isSeen 22 = .ok (.aload_n 2, 1) := by decide +kernel
theorem de_K_isSeen_23 : decode mb_K_isSeen 23 = .ok (.getfield 188, 3) := by decide +kernel
theorem de_K_isSeen_26 : decode mb_K_isSeen 26 = .ok (.invokevirtual 261, 3) := by decide +kernel
theorem de_K_isSeen_29 : decode mb_K_isSeen 29 = .ok (.ireturn, 1) := by decide +kernel
theorem de_K_snapshot_0 : decode mb_K_snapshot 0 = .ok (.aload_n 0, 1) := by decide +kernel
theorem de_K_snapshot_1 : decode mb_K_snapshot 1 = .ok (.getfield 30, 3) := by decide +kernel
theorem de_K_snapshot_4 : decode mb_K_snapshot 4 = .ok (.invokevirtual 124, 3) := by decide +kernel
theorem de_K_snapshot_7 : decode mb_K_snapshot 7 = .ok (.istore_n 1, 1) := by decide +kernel
theorem de_K_snapshot_8 : decode mb_K_snapshot 8 = .ok (.iload_n 1, 1) := by decide +kernel
theorem de_K_snapshot_9 : decode mb_K_snapshot 9 = .ok (.ifCond .ge 13, 3) := by decide +kernel
theorem de_K_snapshot_12 : decode mb_K_snapshot 12 = .ok (.new 84, 3) := by decide +kernel
theorem de_K_snapshot_15 : decode mb_K_snapshot 15 = .ok (.dup, 1) := by decide +kernel
theorem de_K_snapshot_16 : decode mb_K_snapshot 16 = .ok (.ldc 127, 2) := by decide +kernel
theorem de_K_snapshot_18 : decode mb_K_snapshot 18 = .ok (.invokespecial 88, 3) := by decide +kernel
theorem de_K_snapshot_21 : decode mb_K_snapshot 21 = .ok (.athrow, 1) := by decide +kernel
theorem de_K_snapshot_22 : decode mb_K_snapshot 22 = .ok (.aload_n 0, 1) := by decide +kernel
theorem de_K_snapshot_23 : decode mb_K_snapshot 23 = .ok (.getfield 30, 3) := by decide +kernel
theorem de_K_snapshot_26 : decode mb_K_snapshot 26 = .ok (.iload_n 1, 1) := by decide +kernel
theorem de_K_snapshot_27 : decode mb_K_snapshot 27 = .ok (.aload_n 0, 1) := by decide +kernel
theorem de_K_snapshot_28 : decode mb_K_snapshot 28 = .ok (.getfield 54, 3) := by decide +kernel
theorem de_K_snapshot_31 : decode mb_K_snapshot 31 = .ok (.invokevirtual 129, 3) := by decide +kernel
theorem de_K_snapshot_34 : decode mb_K_snapshot 34 = .ok (.iload_n 1, 1) := by decide +kernel
theorem de_K_snapshot_35 : decode mb_K_snapshot 35 = .ok (.ireturn, 1) := by decide +kernel
theorem de_K_release_0 : decode mb_K_release 0 = .ok (.aload_n 0, 1) := by decide +kernel
theorem de_K_release_1 : decode mb_K_release 1 = .ok (.getfield 30, 3) := by decide +kernel
theorem de_K_release_4 : decode mb_K_release 4 = .ok (.iload_n 1, 1) := by decide +kernel
theorem de_K_release_5 : decode mb_K_release 5 = .ok (.invokevirtual 133, 3) := by decide +kernel
theorem de_K_release_8 : decode mb_K_release 8 = .ok (.ifCond .ne 13, 3) := by decide +kernel
theorem de_K_release_11 : decode mb_K_release 11 = .ok (.new 103, 3) := by decide +kernel
theorem de_K_release_14 : decode mb_K_release 14 = .ok (.dup, 1) := by decide +kernel
theorem de_K_release_15 : decode mb_K_release 15 = .ok (.ldc 137, 2) := by decide +kernel
theorem de_K_release_17 : decode mb_K_release 17 = .ok (.invokespecial 107, 3) := by decide +kernel
theorem de_K_release_20 : decode mb_K_release 20 = .ok (.athrow, 1) := by decide +kernel
theorem de_K_release_21 : decode mb_K_release 21 = .ok (.aload_n 0, 1) := by decide +kernel
theorem de_K_release_22 : decode mb_K_release 22 = .ok (.getfield 30, 3) := by decide +kernel
theorem de_K_release_25 : decode mb_K_release 25 = .ok (.iload_n 1, 1) := by decide +kernel
theorem de_K_release_26 : decode mb_K_release 26 = .ok (.invokevirtual 139, 3) := by decide +kernel
theorem de_K_release_29 : decode mb_K_release 29 = .ok (.return_, 1) := by decide +kernel
theorem de_K_get_0 : decode mb_K_get 0 = .ok (.aload_n 0, 1) := by decide +kernel
theorem de_K_get_1 : decode mb_K_get 1 = .ok (.iload_n 1, 1) := by decide +kernel
theorem de_K_get_2 : decode mb_K_get 2 = .ok (.iload_n 2, 1) := by decide +kernel
theorem de_K_get_3 : decode mb_K_get 3 = .ok (.invokevirtual 142, 3) := by decide +kernel
theorem de_K_get_6 : decode mb_K_get 6 = .ok (.aload_n 0, 1) := by decide +kernel
theorem de_K_get_7 : decode mb_K_get 7 = .ok (.iload_n 2, 1) := by decide +kernel
theorem de_K_get_8 : decode mb_K_get 8 = .ok (.aload_n 0, 1) := by decide +kernel
theorem de_K_get_9 : decode mb_K_get 9 = .ok (.iload_n 1, 1) := by decide +kernel
theorem de_K_get_10 : decode mb_K_get 10 = .ok (.invokevirtual 145, 3) := by decide +kernel
theorem de_K_get_13 : decode mb_K_get 13 = .ok (.invokevirtual 149, 3) := by decide +kernel
theorem de_K_get_16 : decode mb_K_get 16 = .ok (.astore_n 3, 1) := by decide +kernel
theorem de_K_get_17 : decode mb_K_get 17 = .ok (.aload_n 3, 1) := by decide +kernel
theorem de_K_get_18 : decode mb_K_get 18 = .ok (.ifnull 10, 3) := by decide +kernel
theorem de_K_get_21 : decode mb_K_get 21 = .ok (.aload_n 3, 1) := by decide +kernel
theorem de_K_get_22 : decode mb_K_get 22 = .ok (.getfield 153, 3) := by decide +kernel
theorem de_K_get_25 : decode mb_K_get 25 = .ok (.ifCond .eq 13, 3) := by decide +kernel
theorem de_K_get_28 : decode mb_K_get 28 = .ok (.new 156, 3) := by decide +kernel
theorem de_K_get_31 : decode mb_K_get 31 = .ok (.dup, 1) := by decide +kernel
theorem de_K_get_32 : decode mb_K_get 32 = .ok (.ldc 158, 2) := by decide +kernel
theorem de_K_get_34 : decode mb_K_get 34 = .ok (.invokespecial 160, 3) := by decide +kernel
theorem de_K_get_37 : decode mb_K_get 37 = .ok (.athrow, 1) := by decide +kernel
theorem de_K_get_38 : decode mb_K_get 38 = .ok (.aload_n 3, 1) := by decide +kernel
theorem de_K_get_39 : decode mb_K_get 39 = .ok (.getfield 161, 3) := by decide +kernel
theorem de_K_get_42 : decode mb_K_get 42 = .ok (.lreturn, 1) := by decide +kernel
theorem de_K_requireKeyAndView_0 : decode mb_K_requireKeyAndView 0 = .ok (.iload_n 2, 1) := by decide +kernel
theorem de_K_requireKeyAndView_1 : decode mb_K_requireKeyAndView 1 = .ok (.invokestatic 200, 3) := by decide +kernel
theorem de_K_requireKeyAndView_4 : decode mb_K_requireKeyAndView 4 = .ok (.ifCond .eq 19, 3) := by decide +kernel
theorem de_K_requireKeyAndView_7 : decode mb_K_requireKeyAndView 7 = .ok (.iload_n 1, 1) := by decide +kernel
theorem de_K_requireKeyAndView_8 : decode mb_K_requireKeyAndView 8 = .ok (.iconst (-1), 1) := by decide +kernel
theorem de_K_requireKeyAndView_9 : decode mb_K_requireKeyAndView 9 = .ok (.if_icmp .eq 25, 3) := by decide +kernel
theorem de_K_requireKeyAndView_12 : decode mb_K_requireKeyAndView 12 = .ok (.aload_n 0, 1) := by decide +kernel
theorem de_K_requireKeyAndView_13 : decode mb_K_requireKeyAndView 13 = .ok (.getfield 30, 3) := by decide +kernel
theorem de_K_requireKeyAndView_16 : decode mb_K_requireKeyAndView 16 = .ok (.iload_n 1, 1) := by decide +kernel
theorem de_K_requireKeyAndView_17 : decode mb_K_requireKeyAndView 17 = .ok (.invokevirtual 133, 3) := by decide +kernel
theorem de_K_requireKeyAndView_20 : decode mb_K_requireKeyAndView 20 = .ok (.ifCond .ne 14, 3) := by decide +kernel
theorem de_K_requireKeyAndView_23 : decode mb_K_requireKeyAndView 23 = .ok (.new 103, 3) := by decide +kernel
theorem de_K_requireKeyAndView_26 : decode mb_K_requireKeyAndView 26 = .ok (.dup, 1) := by decide +kernel
theorem de_K_requireKeyAndView_27 : decode mb_K_requireKeyAndView 27 = .ok (.ldc_w 265, 3) := by decide +kernel
theorem de_K_requireKeyAndView_30 : decode mb_K_requireKeyAndView 30 = .ok (.invokespecial 107, 3) := by decide +kernel
theorem de_K_requireKeyAndView_33 : decode mb_K_requireKeyAndView 33 = .ok (.athrow, 1) := by decide +kernel
theorem de_K_requireKeyAndView_34 : decode mb_K_requireKeyAndView 34 = .ok (.return_, 1) := by decide +kernel
theorem de_K_sequenceOf_0 : decode mb_K_sequenceOf 0 = .ok (.iload_n 1, 1) := by decide +kernel
theorem de_K_sequenceOf_1 : decode mb_K_sequenceOf 1 = .ok (.iconst (-1), 1) := by decide +kernel
theorem de_K_sequenceOf_2 : decode mb_K_sequenceOf 2 = .ok (.if_icmp .ne 10, 3) := by decide +kernel
theorem de_K_sequenceOf_5 : decode mb_K_sequenceOf 5 = .ok (.aload_n 0, 1) := by decide +kernel
theorem de_K_sequenceOf_6 : decode mb_K_sequenceOf 6 = .ok (.getfield 54, 3) := by decide +kernel
theorem de_K_sequenceOf_9 : decode mb_K_sequenceOf 9 = .ok (.goto 11, 3) := by decide +kernel
theorem de_K_sequenceOf_12 : decode mb_K_sequenceOf 12 = .ok (.aload_n 0, 1) := by decide +kernel
theorem de_K_sequenceOf_13 : decode mb_K_sequenceOf 13 = .ok (.getfield 30, 3) := by decide +kernel
theorem de_K_sequenceOf_16 : decode mb_K_sequenceOf 16 = .ok (.iload_n 1, 1) := by decide +kernel
theorem de_K_sequenceOf_17 : decode mb_K_sequenceOf 17 = .ok (.invokevirtual 267, 3) := by decide +kernel
theorem de_K_sequenceOf_20 : decode mb_K_sequenceOf 20 = .ok (.ireturn, 1) := by decide +kernel
theorem de_K_look_0 : decode mb_K_look 0 = .ok (.aload_n 0, 1) := by decide +kernel
theorem de_K_look_1 : decode mb_K_look 1 = .ok (.iconst 0, 1) := by decide +kernel
theorem de_K_look_2 : decode mb_K_look 2 = .ok (.putfield 57, 3) := by decide +kernel
theorem de_K_look_5 : decode mb_K_look 5 = .ok (.aload_n 0, 1) := by decide +kernel
theorem de_K_look_6 : decode mb_K_look 6 = .ok (.iconst 0, 1) := by decide +kernel
theorem de_K_look_7 : decode mb_K_look 7 = .ok (.putfield 60, 3) := by decide +kernel
theorem de_K_look_10 : decode mb_K_look 10 = .ok (.aload_n 0, 1) := by decide +kernel
theorem de_K_look_11 : decode mb_K_look 11 = .ok (.getfield 14, 3) := by decide +kernel
theorem de_K_look_14 : decode mb_K_look 14 = .ok (.iload_n 1, 1) := by decide +kernel
theorem de_K_look_15 : decode mb_K_look 15 = .ok (.iload_n 2, 1) := by decide +kernel
theorem de_K_look_16 : decode mb_K_look 16 = .ok (.invokevirtual 270, 3) := by decide +kernel
theorem de_K_look_19 : decode mb_K_look 19 = .ok (.astore_n 3, 1) := by decide +kernel
theorem de_K_look_20 : decode mb_K_look 20 = .ok (.iconst 0, 1) := by decide +kernel
theorem de_K_look_21 : decode mb_K_look 21 = .ok (.istore 4, 2) := by decide +kernel
theorem de_K_look_23 : decode mb_K_look 23 = .ok (.aload_n 3, 1) := by decide +kernel
theorem de_K_look_24 : decode mb_K_look 24 = .ok (.ifnonnull 30, 3) := by decide +kernel
theorem de_K_look_27 : decode mb_K_look 27 = .ok (.iload 4, 2) := by decide +kernel
theorem de_K_look_29 : decode mb_K_look 29 = .ok (.bipush 6, 2) := by decide +kernel
theorem de_K_look_31 : decode mb_K_look 31 = .ok (.if_icmp .ge 23, 3) := by decide +kernel
theorem de_K_look_34 : decode mb_K_look 34 = .ok (.aload_n 0, 1) := by decide +kernel
theorem de_K_look_35 : decode mb_K_look 35 = .ok (.aload_n 0, 1) := by decide +kernel
theorem de_K_look_36 : decode mb_K_look 36 = .ok (.getfield 23, 3) := by decide +kernel
theorem de_K_look_39 : decode mb_K_look 39 = .ok (.iload 4, 2) := by decide +kernel
theorem de_K_look_41 : decode mb_K_look 41 = .ok (.aaload, 1) := by decide +kernel
theorem de_K_look_42 : decode mb_K_look 42 = .ok (.iload_n 1, 1) := by decide +kernel
theorem de_K_look_43 : decode mb_K_look 43 = .ok (.iload_n 2, 1) := by decide +kernel
theorem de_K_look_44 : decode mb_K_look 44 = .ok (.invokevirtual 273, 3) := by decide +kernel
theorem de_K_look_47 : decode mb_K_look 47 = .ok (.astore_n 3, 1) := by decide +kernel
theorem de_K_look_48 : decode mb_K_look 48 = .ok (.iinc 4 1, 3) := by decide +kernel
theorem de_K_look_51 : decode mb_K_look 51 = .ok (.goto (-28), 3) := by decide +kernel
theorem de_K_look_54 : decode mb_K_look 54 = .ok (.aload_n 3, 1) := by decide +kernel
theorem de_K_look_55 : decode mb_K_look 55 = .ok (.areturn, 1) := by decide +kernel
theorem de_K_lookInLevel_0 : decode mb_K_lookInLevel 0 = .ok (.aconst_null, 1) := by decide +kernel
theorem de_K_lookInLevel_1 : decode mb_K_lookInLevel 1 = .ok (.astore 4, 2) := by decide +kernel
theorem de_K_lookInLevel_3 : decode mb_K_lookInLevel 3 = .ok (.aload_n 1, 1) := by decide +kernel
theorem de_K_lookInLevel_4 : decode mb_K_lookInLevel 4 = .ok (.invokevirtual 191, 3) := by decide +kernel
theorem de_K_lookInLevel_7 : decode mb_K_lookInLevel 7 = .ok (.iconst 1, 1) := by decide +kernel
theorem de_K_lookInLevel_8 : decode mb_K_lookInLevel 8 = .ok (.isub, 1) := by decide +kernel
theorem de_K_lookInLevel_9 : decode mb_K_lookInLevel 9 = .ok (.istore 5, 2) := by decide +kernel
theorem de_K_lookInLevel_11 : decode mb_K_lookInLevel 11 = .ok (.aload 4, 2) := by decide +kernel
theorem de_K_lookInLevel_13 : decode mb_K_lookInLevel 13 = .ok (.ifnonnull 46, 3) := by decide +kernel
theorem de_K_lookInLevel_16 : decode mb_K_lookInLevel 16 = .ok (.iload 5, 2) := by decide +kernel
theorem de_K_lookInLevel_18 : decode mb_K_lookInLevel 18 = .ok (.ifCond .lt 41, 3) := by decide +kernel
theorem de_K_lookInLevel_21 : decode mb_K_lookInLevel 21 = .ok (.aload_n 1, 1) := by decide +kernel
theorem de_K_lookInLevel_22 : decode mb_K_lookInLevel 22 = .ok (.iload 5, 2) := by decide +kernel
theorem de_K_lookInLevel_24 : decode mb_K_lookInLevel 24 = .ok (.invokevirtual 173, 3) := by decide +kernel
theorem de_K_lookInLevel_27 : decode mb_K_lookInLevel 27 = .ok (.astore 6, 2) := by decide +kernel
theorem de_K_lookInLevel_29 : decode mb_K_lookInLevel 29 = .ok (.aload 6, 2) := by decide +kernel
theorem de_K_lookInLevel_31 : decode mb_K_lookInLevel 31 = .ok (.ifnull 22, 3) := by decide +kernel
theorem de_K_lookInLevel_34 : decode mb_K_lookInLevel 34 = .ok (.aload 6, 2) := by decide +kernel
theorem de_K_lookInLevel_36 : decode mb_K_lookInLevel 36 = .ok (.iload_n 2, 1) := by decide +kernel
theorem de_K_lookInLevel_37 : decode mb_K_lookInLevel 37 = .ok (.invokevirtual 277, 3) := by decide +kernel
theorem de_K_lookInLevel_40 : decode mb_K_lookInLevel 40 = .ok (.ifCond .eq 13, 3) := by decide +kernel
theorem de_K_lookInLevel_43 : decode mb_K_lookInLevel 43 = .ok (.aload_n 0, 1) := by decide +kernel
theorem de_K_lookInLevel_44 : decode mb_K_lookInLevel 44 = .ok (.aload 6, 2) := by decide +kernel
theorem de_K_lookInLevel_46 : decode mb_K_lookInLevel 46 = .ok (.iload_n 2, 1) := by decide +kernel
theorem de_K_lookInLevel_47 : decode mb_K_lookInLevel 47 = .ok (.iload_n 3, 1) := by decide +kernel
theorem de_K_lookInLevel_48 : decode mb_K_lookInLevel 48 = .ok (.invokevirtual 280, 3) := by decide +kernel
theorem de_K_lookInLevel_51 : decode mb_K_lookInLevel 51 = .ok (.astore 4, 2) := by decide +kernel
theorem de_K_lookInLevel_53 : decode mb_K_lookInLevel 53 = .ok (.iinc 5 (-1), 3) := by decide +kernel
theorem de_K_lookInLevel_56 : decode mb_K_lookInLevel 56 = .ok (.goto (-45), 3) := by decide +kernel
theorem de_K_lookInLevel_59 : decode mb_K_lookInLevel 59 = .ok (.aload 4, 2) := by decide +kernel
theorem de_K_lookInLevel_61 : decode mb_K_lookInLevel 61 = .ok (.areturn, 1) := by decide +kernel
theorem de_K_probe_0 : decode mb_K_probe 0 = .ok (.aload_n 0, 1) := by decide +kernel
theorem de_K_probe_1 : decode mb_K_probe 1 = .ok (.dup, 1) := by decide +kernel
theorem de_K_probe_2 : decode mb_K_probe 2 = .ok (.getfield 57, 3) := by decide +kernel
theorem de_K_probe_5 : decode mb_K_probe 5 = .ok (.iconst 1, 1) := by decide +kernel
theorem de_K_probe_6 : decode mb_K_probe 6 = .ok (.iadd, 1) := by decide +kernel
theorem de_K_probe_7 : decode mb_K_probe 7 = .ok (.putfield 57, 3) := by decide +kernel
theorem de_K_probe_10 : decode mb_K_probe 10 = .ok (.aload_n 1, 1) := by decide +kernel
theorem de_K_probe_11 : decode mb_K_probe 11 = .ok (.invokevirtual 177, 3) := by decide +kernel
theorem de_K_probe_14 : decode mb_K_probe 14 = .ok (.iload_n 2, 1) := by decide +kernel
theorem de_K_probe_15 : decode mb_K_probe 15 = .ok (.invokevirtual 284, 3) := by decide +kernel
theorem de_K_probe_18 : decode mb_K_probe 18 = .ok (.ifCond .ne 13, 3) := by decide +kernel
theorem de_K_probe_21 : decode mb_K_probe 21 = .ok (.aload_n 0, 1) := by decide +kernel
theorem de_K_probe_22 : decode mb_K_probe 22 = .ok (.dup, 1) := by decide +kernel
theorem de_K_probe_23 : decode mb_K_probe 23 = .ok (.getfield 60, 3) := by decide +kernel
theorem de_K_probe_26 : decode mb_K_probe 26 = .ok (.iconst 1, 1) := by decide +kernel
theorem de_K_probe_27 : decode mb_K_probe 27 = .ok (.iadd, 1) := by decide +kernel
theorem de_K_probe_28 : decode mb_K_probe 28 = .ok (.putfield 60, 3) := by decide +kernel
theorem de_K_probe_31 : decode mb_K_probe 31 = .ok (.aload_n 1, 1) := by decide +kernel
theorem de_K_probe_32 : decode mb_K_probe 32 = .ok (.invokevirtual 177, 3) := by decide +kernel
theorem de_K_probe_35 : decode mb_K_probe 35 = .ok (.iload_n 2, 1) := by decide +kernel
theorem de_K_probe_36 : decode mb_K_probe 36 = .ok (.iload_n 3, 1) := by decide +kernel
theorem de_K_probe_37 : decode mb_K_probe 37 = .ok (.invokevirtual 270, 3) := by decide +kernel
theorem de_K_probe_40 : decode mb_K_probe 40 = .ok (.areturn, 1) := by decide +kernel
theorem de_K_next_0 : decode mb_K_next 0 = .ok (.aload_n 0, 1) := by decide +kernel
theorem de_K_next_1 : decode mb_K_next 1 = .ok (.iload_n 1, 1) := by decide +kernel
theorem de_K_next_2 : decode mb_K_next 2 = .ok (.iload_n 2, 1) := by decide +kernel
theorem de_K_next_3 : decode mb_K_next 3 = .ok (.invokevirtual 142, 3) := by decide +kernel
theorem de_K_next_6 : decode mb_K_next 6 = .ok (.aload_n 0, 1) := by decide +kernel
theorem de_K_next_7 : decode mb_K_next 7 = .ok (.aload_n 0, 1) := by decide +kernel
theorem de_K_next_8 : decode mb_K_next 8 = .ok (.iload_n 1, 1) := by decide +kernel
theorem de_K_next_9 : decode mb_K_next 9 = .ok (.invokevirtual 145, 3) := by decide +kernel
theorem de_K_next_12 : decode mb_K_next 12 = .ok (.invokevirtual 165, 3) := by decide +kernel
theorem de_K_next_15 : decode mb_K_next 15 = .ok (.iload_n 2, 1) := by decide +kernel
theorem de_K_next_16 : decode mb_K_next 16 = .ok (.istore_n 3, 1) := by decide +kernel
theorem de_K_next_17 : decode mb_K_next 17 = .ok (.iload_n 3, 1) := by decide +kernel
theorem de_K_next_18 : decode mb_K_next 18 = .ok (.sipush 1024, 3) := by decide +kernel
theorem de_K_next_21 : decode mb_K_next 21 = .ok (.if_icmp .ge 32, 3) := by decide +kernel
theorem de_K_next_24 : decode mb_K_next 24 = .ok (.aload_n 0, 1) := by decide +kernel
theorem de_K_next_25 : decode mb_K_next 25 = .ok (.getfield 42, 3) := by decide +kernel
theorem de_K_next_28 : decode mb_K_next 28 = .ok (.iload_n 3, 1) := by decide +kernel
theorem de_K_next_29 : decode mb_K_next 29 = .ok (.aaload, 1) := by decide +kernel
theorem de_K_next_30 : decode mb_K_next 30 = .ok (.astore 4, 2) := by decide +kernel
theorem de_K_next_32 : decode mb_K_next 32 = .ok (.aload 4, 2) := by decide +kernel
theorem de_K_next_34 : decode mb_K_next 34 = .ok (.ifnull 13, 3) := by decide +kernel
theorem de_K_next_37 : decode mb_K_next 37 = .ok (.aload 4, 2) := by decide +kernel
theorem de_K_next_39 : decode mb_K_next 39 = .ok (.getfield 153, 3) := by decide +kernel
theorem de_K_next_42 : decode mb_K_next 42 = .ok (.ifCond .ne 5, 3) := by decide +kernel
theorem de_K_next_45 : decode mb_K_next 45 = .ok (.iload_n 3, 1) := by decide +kernel
theorem de_K_next_46 : decode mb_K_next 46 = .ok (.ireturn, 1) := by decide +kernel
theorem de_K_next_47 : decode mb_K_next 47 = .ok (.iinc 3 1, 3) := by decide +kernel
theorem de_K_next_50 : decode mb_K_next 50 = .ok (.goto (-33), 3) := by decide +kernel
theorem de_K_next_53 : decode mb_K_next 53 = .ok (.iconst (-1), 1) := by decide +kernel
theorem de_K_next_54 : decode mb_K_next 54 = .ok (.ireturn, 1) := by decide +kernel
theorem de_K_noteNewestOfKeys_0 : decode mb_K_noteNewestOfKeys 0 = .ok (.iconst 0, 1) := by decide +kernel
theorem de_K_noteNewestOfKeys_1 : decode mb_K_noteNewestOfKeys 1 = .ok (.istore_n 2, 1) := by decide +kernel
theorem de_K_noteNewestOfKeys_2 : decode mb_K_noteNewestOfKeys 2 = .ok (.iload_n 2, 1) := by decide +kernel
theorem de_K_noteNewestOfKeys_3 : decode mb_K_noteNewestOfKeys 3 = .ok (.sipush 1024, 3) := by decide +kernel
theorem de_K_noteNewestOfKeys_6 : decode mb_K_noteNewestOfKeys 6 = .ok (.if_icmp .ge 16, 3) := by decide +kernel
theorem de_K_noteNewestOfKeys_9 : decode mb_K_noteNewestOfKeys 9 = .ok (.aload_n 0, 1) := by decide +kernel
theorem de_K_noteNewestOfKeys_10 : decode mb_K_noteNewestOfKeys 10 = .ok (.getfield 42, 3) := by decide +kernel
theorem de_K_noteNewestOfKeys_13 : decode mb_K_noteNewestOfKeys 13 = .ok (.iload_n 2, 1) := by decide +kernel
theorem de_K_noteNewestOfKeys_14 : decode mb_K_noteNewestOfKeys 14 = .ok (.aconst_null, 1) := by decide +kernel
theorem de_K_noteNewestOfKeys_15 : decode mb_K_noteNewestOfKeys 15 = .ok (.aastore, 1) := by decide +kernel
theorem de_K_noteNewestOfKeys_16 : decode mb_K_noteNewestOfKeys 16 = .ok (.iinc 2 1, 3) := by decide +kernel
theorem de_K_noteNewestOfKeys_19 : decode mb_K_noteNewestOfKeys 19 = .ok (.goto (-17), 3) := by decide +kernel
theorem de_K_noteNewestOfKeys_22 : decode mb_K_noteNewestOfKeys 22 = .ok (.aload_n 0, 1) := by decide +kernel
theorem de_K_noteNewestOfKeys_23 : decode mb_K_noteNewestOfKeys 23 = .ok (.invokevirtual 118, 3) := by decide +kernel
theorem de_K_noteNewestOfKeys_26 : decode mb_K_noteNewestOfKeys 26 = .ok (.iconst 0, 1) := by decide +kernel
theorem de_K_noteNewestOfKeys_27 : decode mb_K_noteNewestOfKeys 27 = .ok (.istore_n 2, 1) := by decide +kernel
theorem de_K_noteNewestOfKeys_28 : decode mb_K_noteNewestOfKeys 28 = .ok (.iload_n 2, 1) := by decide +kernel
theorem de_K_noteNewestOfKeys_29 : decode mb_K_noteNewestOfKeys 29 = .ok (.aload_n 0, 1) := by decide +kernel
theorem de_K_noteNewestOfKeys_30 : decode mb_K_noteNewestOfKeys 30 = .ok (.getfield 34, 3) := by decide +kernel
theorem de_K_noteNewestOfKeys_33 : decode mb_K_noteNewestOfKeys 33 = .ok (.invokevirtual 77, 3) := by decide +kernel
theorem de_K_noteNewestOfKeys_36 : decode mb_K_noteNewestOfKeys 36 = .ok (.if_icmp .ge 22, 3) := by decide +kernel
theorem de_K_noteNewestOfKeys_39 : decode mb_K_noteNewestOfKeys 39 = .ok (.aload_n 0, 1) := by decide +kernel
theorem de_K_noteNewestOfKeys_40 : decode mb_K_noteNewestOfKeys 40 = .ok (.aload_n 0, 1) := by decide +kernel
theorem de_K_noteNewestOfKeys_41 : decode mb_K_noteNewestOfKeys 41 = .ok (.getfield 34, 3) := by decide +kernel
theorem de_K_noteNewestOfKeys_44 : decode mb_K_noteNewestOfKeys 44 = .ok (.iload_n 2, 1) := by decide +kernel
theorem de_K_noteNewestOfKeys_45 : decode mb_K_noteNewestOfKeys 45 = .ok (.invokevirtual 89, 3) := by decide +kernel
theorem de_K_noteNewestOfKeys_48 : decode mb_K_noteNewestOfKeys 48 = .ok (.iload_n 1, 1) := by decide +kernel
theorem de_K_noteNewestOfKeys_49 : decode mb_K_noteNewestOfKeys 49 = .ok (.invokevirtual 287, 3) := by decide +kernel
theorem de_K_noteNewestOfKeys_52 : decode mb_K_noteNewestOfKeys 52 = .ok (.iinc 2 1, 3) := by decide +kernel
theorem de_K_noteNewestOfKeys_55 : decode mb_K_noteNewestOfKeys 55 = .ok (.goto (-27), 3) := by decide +kernel
theorem de_K_noteNewestOfKeys_58 : decode mb_K_noteNewestOfKeys 58 = .ok (.return_, 1) := by decide +kernel
theorem de_K_noteIfNewest_0 : decode mb_K_noteIfNewest 0 = .ok (.aload_n 1, 1) := by decide +kernel
theorem de_K_noteIfNewest_1 : decode mb_K_noteIfNewest 1 = .ok (.ifnull 21, 3) := by decide +kernel
theorem de_K_noteIfNewest_4 : decode mb_K_noteIfNewest 4 = .ok (.aload_n 1, 1) := by decide +kernel
theorem de_K_noteIfNewest_5 : decode mb_K_noteIfNewest 5 = .ok (.getfield 188, 3) := by decide +kernel
theorem de_K_noteIfNewest_8 : decode mb_K_noteIfNewest 8 = .ok (.iload_n 2, 1) := by decide +kernel
theorem de_K_noteIfNewest_9 : decode mb_K_noteIfNewest 9 = .ok (.if_icmp .gt 13, 3) := by decide +kernel
theorem de_K_noteIfNewest_12 : decode mb_K_noteIfNewest 12 = .ok (.aload_n 1, 1) := by decide +kernel
theorem de_K_noteIfNewest_13 : decode mb_K_noteIfNewest 13 = .ok (.getfield 185, 3) := by decide +kernel
theorem de_K_noteIfNewest_16 : decode mb_K_noteIfNewest 16 = .ok (.invokestatic 200, 3) := by decide +kernel
theorem de_K_noteIfNewest_19 : decode mb_K_noteIfNewest 19 = .ok (.ifCond .ne 4, 3) := by decide +kernel
theorem de_K_noteIfNewest_22 : decode mb_K_noteIfNewest 22 = .ok (.return_, 1) := by decide +kernel
theorem de_K_noteIfNewest_23 : decode mb_K_noteIfNewest 23 = .ok (.aload_n 0, 1) := by decide +kernel
theorem de_K_noteIfNewest_24 : decode mb_K_noteIfNewest 24 = .ok (.getfield 42, 3) := by decide +kernel
theorem de_K_noteIfNewest_27 : decode mb_K_noteIfNewest 27 = .ok (.aload_n 1, 1) := by decide +kernel
theorem de_K_noteIfNewest_28 : decode mb_K_noteIfNewest 28 = .ok (.getfield 185, 3) := by decide +kernel
theorem de_K_noteIfNewest_31 : decode mb_K_noteIfNewest 31 = .ok (.aaload, 1) := by decide +kernel
theorem de_K_noteIfNewest_32 : decode mb_K_noteIfNewest 32 = .ok (.astore_n 3, 1) := by decide +kernel
theorem de_K_noteIfNewest_33 : decode mb_K_noteIfNewest 33 = .ok (.aload_n 3, 1) := by decide +kernel
theorem de_K_noteIfNewest_34 : decode mb_K_noteIfNewest 34 = .ok (.ifnull 14, 3) := by decide +kernel
theorem de_K_noteIfNewest_37 : decode mb_K_noteIfNewest 37 = .ok (.aload_n 3, 1) := by decide +kernel
theorem de_K_noteIfNewest_38 : decode mb_K_noteIfNewest 38 = .ok (.getfield 188, 3) := by decide +kernel
theorem de_K_noteIfNewest_41 : decode mb_K_noteIfNewest 41 = .ok (.aload_n 1, 1) := by decide +kernel
theorem de_K_noteIfNewest_42 : decode mb_K_noteIfNewest 42 = .ok (.getfield 188, 3) := by decide +kernel
theorem de_K_noteIfNewest_45 : decode mb_K_noteIfNewest 45 = .ok (.if_icmp .ge 13, 3) := by decide +kernel
theorem de_K_noteIfNewest_48 : decode mb_K_noteIfNewest 48 = .ok (.aload_n 0, 1) := by decide +kernel
theorem de_K_noteIfNewest_49 : decode mb_K_noteIfNewest 49 = .ok (.getfield 42, 3) := by decide +kernel
theorem de_K_noteIfNewest_52 : decode mb_K_noteIfNewest 52 = .ok (.aload_n 1, 1) := by decide +kernel
theorem de_K_noteIfNewest_53 : decode mb_K_noteIfNewest 53 = .ok (.getfield 185, 3) := by decide +kernel
theorem de_K_noteIfNewest_56 : decode mb_K_noteIfNewest 56 = .ok (.aload_n 1, 1) := by decide +kernel
theorem de_K_noteIfNewest_57 : decode mb_K_noteIfNewest 57 = .ok (.aastore, 1) := by decide +kernel
theorem de_K_noteIfNewest_58 : decode mb_K_noteIfNewest 58 = .ok (.return_, 1) := by decide +kernel
theorem de_K_entry_0 : decode mb_K_entry 0 = .ok (.iload_n 1, 1) := by decide +kernel
theorem de_K_entry_1 : decode mb_K_entry 1 = .ok (.invokestatic 168, 3) := by decide +kernel
theorem de_K_entry_4 : decode mb_K_entry 4 = .ok (.ifCond .eq 14, 3) := by decide +kernel
theorem de_K_entry_7 : decode mb_K_entry 7 = .ok (.iload 4, 2) := by decide +kernel
theorem de_K_entry_9 : decode mb_K_entry 9 = .ok (.ifCond .lt 9, 3) := by decide +kernel
theorem de_K_entry_12 : decode mb_K_entry 12 = .ok (.iload 4, 2) := by decide +kernel
theorem de_K_entry_14 : decode mb_K_entry 14 = .ok (.iconst 2, 1) := by decide +kernel
theorem de_K_entry_15 : decode mb_K_entry 15 = .ok (.if_icmp .le 13, 3) := by decide +kernel
theorem de_K_entry_18 : decode mb_K_entry 18 = .ok (.new 103, 3) := by decide +kernel
theorem de_K_entry_21 : decode mb_K_entry 21 = .ok (.dup, 1) := by decide +kernel
theorem de_K_entry_22 : decode mb_K_entry 22 = .ok (.ldc 171, 2) := by decide +kernel
theorem de_K_entry_24 : decode mb_K_entry 24 = .ok (.invokespecial 107, 3) := by decide +kernel
theorem de_K_entry_27 : decode mb_K_entry 27 = .ok (.athrow, 1) := by decide +kernel
theorem de_K_entry_28 : decode mb_K_entry 28 = .ok (.aload_n 0, 1) := by decide +kernel
theorem de_K_entry_29 : decode mb_K_entry 29 = .ok (.getfield 23, 3) := by decide +kernel
theorem de_K_entry_32 : decode mb_K_entry 32 = .ok (.iload_n 1, 1) := by decide +kernel
theorem de_K_entry_33 : decode mb_K_entry 33 = .ok (.aaload, 1) := by decide +kernel
theorem de_K_entry_34 : decode mb_K_entry 34 = .ok (.iload_n 2, 1) := by decide +kernel
theorem de_K_entry_35 : decode mb_K_entry 35 = .ok (.invokevirtual 173, 3) := by decide +kernel
theorem de_K_entry_38 : decode mb_K_entry 38 = .ok (.astore 5, 2) := by decide +kernel
theorem de_K_entry_40 : decode mb_K_entry 40 = .ok (.aload 5, 2) := by decide +kernel
theorem de_K_entry_42 : decode mb_K_entry 42 = .ok (.ifnonnull 7, 3) := by decide +kernel
theorem de_K_entry_45 : decode mb_K_entry 45 = .ok (.aconst_null, 1) := by decide +kernel
theorem de_K_entry_46 : decode mb_K_entry 46 = .ok (.goto 12, 3) := by decide +kernel
theorem de_K_entry_49 : decode mb_K_entry 49 = .ok (.aload 5, 2) := by decide +kernel
theorem de_K_entry_51 : decode mb_K_entry 51 = .ok (.invokevirtual 177, 3) := by decide +kernel
theorem de_K_entry_54 : decode mb_K_entry 54 = .ok (.iload_n 3, 1) := by decide +kernel
theorem de_K_entry_55 : decode mb_K_entry 55 = .ok (.invokevirtual 89, 3) := by decide +kernel
theorem de_K_entry_58 : decode mb_K_entry 58 = .ok (.astore 6, 2) := by decide +kernel
theorem de_K_entry_60 : decode mb_K_entry 60 = .ok (.aload 6, 2) := by decide +kernel
theorem de_K_entry_62 : decode mb_K_entry 62 = .ok (.ifnonnull 13, 3) := by decide +kernel
theorem de_K_entry_65 : decode mb_K_entry 65 = .ok (.new 84, 3) := by decide +kernel
theorem de_K_entry_68 : decode mb_K_entry 68 = .ok (.dup, 1) := by decide +kernel
theorem de_K_entry_69 : decode mb_K_entry 69 = .ok (.ldc 183, 2) := by decide +kernel
theorem de_K_entry_71 : decode mb_K_entry 71 = .ok (.invokespecial 88, 3) := by decide +kernel
theorem de_K_entry_74 : decode mb_K_entry 74 = .ok (.athrow, 1) := by decide +kernel
theorem de_K_entry_75 : decode mb_K_entry 75 = .ok (.iload 4, 2) := by decide +kernel
theorem de_K_entry_77 : decode mb_K_entry 77 = .ok (.lookupswitch 39 #[(0, 27), (1, 33)], 27) := by decide +kernel
theorem de_K_entry_104 : decode mb_K_entry 104 = .ok (.aload 6, 2) := by decide +kernel
theorem de_K_entry_106 : decode mb_K_entry 106 = .ok (.getfield 185, 3) := by decide +kernel
theorem de_K_entry_109 : decode mb_K_entry 109 = .ok (.ireturn, 1) := by decide +kernel
theorem de_K_entry_110 : decode mb_K_entry 110 = .ok (.aload 6, 2) := by decide +kernel
theorem de_K_entry_112 : decode mb_K_entry 112 = .ok (.getfield 188, 3) := by decide +kernel
theorem de_K_entry_115 : decode mb_K_entry 115 = .ok (.ireturn, 1) := by decide +kernel
theorem de_K_entry_116 : decode mb_K_entry 116 = .ok (.aload 6, 2) := by decide +kernel
theorem de_K_entry_118 : decode mb_K_entry 118 = .ok (.getfield 153, 3) := by decide +kernel
theorem de_K_entry_121 : decode mb_K_entry 121 = .ok (.ifCond .eq 7, 3) := by decide +kernel
theorem de_K_entry_124 : decode mb_K_entry 124 = .ok (.iconst 1, 1) := by decide +kernel
theorem de_K_entry_125 : decode mb_K_entry 125 = .ok (.goto 4, 3) := by decide +kernel
theorem de_K_entry_128 : decode mb_K_entry 128 = .ok (.iconst 0, 1) := by decide +kernel
theorem de_K_entry_129 : decode mb_K_entry 129 = .ok (.ireturn, 1) := by decide +kernel
theorem de_K_count_0 : decode mb_K_count 0 = .ok (.iload_n 1, 1) := by decide +kernel
theorem de_K_count_1 : decode mb_K_count 1 = .ok (.ifCond .lt 21, 3) := by decide +kernel
theorem de_K_count_4 : decode mb_K_count 4 = .ok (.iload_n 1, 1) := by decide +kernel
theorem de_K_count_5 : decode mb_K_count 5 = .ok (.bipush 9, 2) := by decide +kernel
theorem de_K_count_7 : decode mb_K_count 7 = .ok (.if_icmp .gt 15, 3) := by decide +kernel
theorem de_K_count_10 : decode mb_K_count 10 = .ok (.iload_n 1, 1) := by decide +kernel
theorem de_K_count_11 : decode mb_K_count 11 = .ok (.iconst 1, 1) := by decide +kernel
theorem de_K_count_12 : decode mb_K_count 12 = .ok (.if_icmp .gt 20, 3) := by decide +kernel
theorem de_K_count_15 : decode mb_K_count 15 = .ok (.iload_n 2, 1) := by decide +kernel
theorem de_K_count_16 : decode mb_K_count 16 = .ok (.invokestatic 168, 3) := by decide +kernel
theorem de_K_count_19 : decode mb_K_count 19 = .ok (.ifCond .ne 13, 3) := by decide +kernel
theorem de_K_count_22 : decode mb_K_count 22 = .ok (.new 103, 3) := by decide +kernel
theorem de_K_count_25 : decode mb_K_count 25 = .ok (.dup, 1) := by decide +kernel
theorem de_K_count_26 : decode mb_K_count 26 = .ok (.ldc 189, 2) := by decide +kernel
theorem de_K_count_28 : decode mb_K_count 28 = .ok (.invokespecial 107, 3) := by decide +kernel
theorem de_K_count_31 : decode mb_K_count 31 = .ok (.athrow, 1) := by decide +kernel
theorem de_K_count_32 : decode mb_K_count 32 = .ok (.iload_n 1, 1) := by decide +kernel
theorem de_K_count_33 : decode mb_K_count 33 = .ok (.tableswitch 126 0 8 #[51, 61, 71, 79, 84, 89, 94, 99, 107], 51) := by decide +kernel
theorem de_K_count_84 : decode mb_K_count 84 = .ok (.aload_n 0, 1) := by decide +kernel
theorem de_K_count_85 : decode mb_K_count 85 = .ok (.getfield 23, 3) := by decide +kernel
theorem de_K_count_88 : decode mb_K_count 88 = .ok (.iload_n 2, 1) := by decide +kernel
theorem de_K_count_89 : decode mb_K_count 89 = .ok (.aaload, 1) := by decide +kernel
theorem de_K_count_90 : decode mb_K_count 90 = .ok (.invokevirtual 191, 3) := by decide +kernel
theorem de_K_count_93 : decode mb_K_count 93 = .ok (.ireturn, 1) := by decide +kernel
theorem de_K_count_94 : decode mb_K_count 94 = .ok (.aload_n 0, 1) := by decide +kernel
theorem de_K_count_95 : decode mb_K_count 95 = .ok (.getfield 23, 3) := by decide +kernel
theorem de_K_count_98 : decode mb_K_count 98 = .ok (.iload_n 2, 1) := by decide +kernel
theorem de_K_count_99 : decode mb_K_count 99 = .ok (.aaload, 1) := by decide +kernel
theorem de_K_count_100 : decode mb_K_count 100 = .ok (.invokevirtual 194, 3) := by decide +kernel
theorem de_K_count_103 : decode mb_K_count 103 = .ok (.ireturn, 1) := by decide +kernel
theorem de_K_count_104 : decode mb_K_count 104 = .ok (.aload_n 0, 1) := by decide +kernel
theorem de_K_count_105 : decode mb_K_count 105 = .ok (.getfield 14, 3) := by decide +kernel
theorem de_K_count_108 : decode mb_K_count 108 = .ok (.invokevirtual 77, 3) := by decide +kernel
theorem de_K_count_111 : decode mb_K_count 111 = .ok (.ireturn, 1) := by decide +kernel
theorem de_K_count_112 : decode mb_K_count 112 = .ok (.aload_n 0, 1) := by decide +kernel
theorem de_K_count_113 : decode mb_K_count 113 = .ok (.getfield 46, 3) := by decide +kernel
theorem de_K_count_116 : decode mb_K_count 116 = .ok (.ireturn, 1) := by decide +kernel
theorem de_K_count_117 : decode mb_K_count 117 = .ok (.aload_n 0, 1) := by decide +kernel
theorem de_K_count_118 : decode mb_K_count 118 = .ok (.getfield 54, 3) := by decide +kernel
theorem de_K_count_121 : decode mb_K_count 121 = .ok (.ireturn, 1) := by decide +kernel
theorem de_K_count_122 : decode mb_K_count 122 = .ok (.aload_n 0, 1) := by decide +kernel
theorem de_K_count_123 : decode mb_K_count 123 = .ok (.getfield 57, 3) := by decide +kernel
theorem de_K_count_126 : decode mb_K_count 126 = .ok (.ireturn, 1) := by decide +kernel
theorem de_K_count_127 : decode mb_K_count 127 = .ok (.aload_n 0, 1) := by decide +kernel
theorem de_K_count_128 : decode mb_K_count 128 = .ok (.getfield 60, 3) := by decide +kernel
theorem de_K_count_131 : decode mb_K_count 131 = .ok (.ireturn, 1) := by decide +kernel
theorem de_K_count_132 : decode mb_K_count 132 = .ok (.aload_n 0, 1) := by decide +kernel
theorem de_K_count_133 : decode mb_K_count 133 = .ok (.getfield 30, 3) := by decide +kernel
theorem de_K_count_136 : decode mb_K_count 136 = .ok (.invokevirtual 197, 3) := by decide +kernel
theorem de_K_count_139 : decode mb_K_count 139 = .ok (.ireturn, 1) := by decide +kernel
theorem de_K_count_140 : decode mb_K_count 140 = .ok (.aload_n 0, 1) := by decide +kernel
theorem de_K_count_141 : decode mb_K_count 141 = .ok (.getfield 50, 3) := by decide +kernel
theorem de_K_count_144 : decode mb_K_count 144 = .ok (.ifCond .eq 13, 3) := by decide +kernel
theorem de_K_count_147 : decode mb_K_count 147 = .ok (.aload_n 0, 1) := by decide +kernel
theorem de_K_count_148 : decode mb_K_count 148 = .ok (.getfield 18, 3) := by decide +kernel
theorem de_K_count_151 : decode mb_K_count 151 = .ok (.invokevirtual 77, 3) := by decide +kernel
theorem de_K_count_154 : decode mb_K_count 154 = .ok (.goto 4, 3) := by decide +kernel
theorem de_K_count_157 : decode mb_K_count 157 = .ok (.iconst (-1), 1) := by decide +kernel
theorem de_K_count_158 : decode mb_K_count 158 = .ok (.ireturn, 1) := by decide +kernel
theorem de_K_count_159 : decode mb_K_count 159 = .ok (.aload_n 0, 1) := by decide +kernel
theorem de_K_count_160 : decode mb_K_count 160 = .ok (.invokevirtual 81, 3) := by decide +kernel
theorem de_K_count_163 : decode mb_K_count 163 = .ok (.ireturn, 1) := by decide +kernel
