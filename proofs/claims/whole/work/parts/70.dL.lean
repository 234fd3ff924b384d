/-! decode rows (printed by gen/mk_names.py) -/
theorem de_L_put_0 : decode mb_L_put 0 = .ok (.aload 4, 2) := by decide +kernel
theorem de_L_put_2 : decode mb_L_put 2 = .ok (.iconst 0, 1) := by decide +kernel
theorem de_L_put_3 : decode mb_L_put 3 = .ok (.aload_n 0, 1) := by decide +kernel
theorem de_L_put_4 : decode mb_L_put 4 = .ok (.iload_n 1, 1) := by decide +kernel
theorem de_L_put_5 : decode mb_L_put 5 = .ok (.lload_n 2, 1) := by decide +kernel
theorem de_L_put_6 : decode mb_L_put 6 = .ok (.invokevirtual 7, 3) := by decide +kernel
theorem de_L_put_9 : decode mb_L_put 9 = .ok (.i2l, 1) := by decide +kernel
theorem de_L_put_10 : decode mb_L_put 10 = .ok (.lastore, 1) := by decide +kernel
theorem de_L_put_11 : decode mb_L_put 11 = .ok (.goto 11, 3) := by decide +kernel
theorem de_L_put_14 : decode mb_L_put 14 = .ok (.astore 5, 2) := by decide +kernel
theorem de_L_put_16 : decode mb_L_put 16 = .ok (.iconst 1, 1) := by decide +kernel
theorem de_L_put_17 : decode mb_L_put 17 = .ok (.ireturn, 1) := by decide +kernel
theorem de_L_put_18 : decode mb_L_put 18 = .ok (.astore 5, 2) := by decide +kernel
theorem de_L_put_20 : decode mb_L_put 20 = .ok (.iconst 2, 1) := by decide +kernel
theorem de_L_put_21 : decode mb_L_put 21 = .ok (.ireturn, 1) := by decide +kernel
theorem de_L_put_22 : decode mb_L_put 22 = .ok (.iconst 0, 1) := by decide +kernel
theorem de_L_put_23 : decode mb_L_put 23 = .ok (.ireturn, 1) := by decide +kernel
theorem de_L_delete_0 : decode mb_L_delete 0 = .ok (.aload_n 2, 1) := by decide +kernel
theorem de_L_delete_1 : decode mb_L_delete 1 = .ok (.iconst 0, 1) := by decide +kernel
theorem de_L_delete_2 : decode mb_L_delete 2 = .ok (.aload_n 0, 1) := by decide +kernel
theorem de_L_delete_3 : decode mb_L_delete 3 = .ok (.iload_n 1, 1) := by decide +kernel
theorem de_L_delete_4 : decode mb_L_delete 4 = .ok (.invokevirtual 17, 3) := by decide +kernel
theorem de_L_delete_7 : decode mb_L_delete 7 = .ok (.i2l, 1) := by decide +kernel
theorem de_L_delete_8 : decode mb_L_delete 8 = .ok (.lastore, 1) := by decide +kernel
theorem de_L_delete_9 : decode mb_L_delete 9 = .ok (.goto 9, 3) := by decide +kernel
theorem de_L_delete_12 : decode mb_L_delete 12 = .ok (.astore_n 3, 1) := by decide +kernel
theorem de_L_delete_13 : decode mb_L_delete 13 = .ok (.iconst 1, 1) := by decide +kernel
theorem de_L_delete_14 : decode mb_L_delete 14 = .ok (.ireturn, 1) := by decide +kernel
theorem de_L_delete_15 : decode mb_L_delete 15 = .ok (.astore_n 3, 1) := by decide +kernel
theorem de_L_delete_16 : decode mb_L_delete 16 = .ok (.iconst 2, 1) := by decide +kernel
theorem de_L_delete_17 : decode mb_L_delete 17 = .ok (.ireturn, 1) := by decide +kernel
theorem de_L_delete_18 : decode mb_L_delete 18 = .ok (.iconst 0, 1) := by decide +kernel
theorem de_L_delete_19 : decode mb_L_delete 19 = .ok (.ireturn, 1) := by decide +kernel
theorem de_L_batch_0 : decode mb_L_batch 0 = .ok (.aload_n 0, 1) := by decide +kernel
theorem de_L_batch_1 : decode mb_L_batch 1 = .ok (.invokevirtual 21, 3) := by decide +kernel
theorem de_L_batch_4 : decode mb_L_batch 4 = .ok (.goto 6, 3) := by decide +kernel
theorem de_L_batch_7 : decode mb_L_batch 7 = .ok (.astore_n 1, 1) := by decide +kernel
theorem de_L_batch_8 : decode mb_L_batch 8 = .ok (.iconst 1, 1) := by decide +kernel
theorem de_L_batch_9 : decode mb_L_batch 9 = .ok (.ireturn, 1) := by decide +kernel
theorem de_L_batch_10 : decode mb_L_batch 10 = .ok (.iconst 0, 1) := by decide +kernel
theorem de_L_batch_11 : decode mb_L_batch 11 = .ok (.ireturn, 1) := by decide +kernel
theorem de_L_end_0 : decode mb_L_end 0 = .ok (.aload_n 2, 1) := by decide +kernel
theorem de_L_end_1 : decode mb_L_end 1 = .ok (.iconst 0, 1) := by decide +kernel
theorem de_L_end_2 : decode mb_L_end 2 = .ok (.aload_n 0, 1) := by decide +kernel
theorem de_L_end_3 : decode mb_L_end 3 = .ok (.iload_n 1, 1) := by decide +kernel
theorem de_L_end_4 : decode mb_L_end 4 = .ok (.invokevirtual 26, 3) := by decide +kernel
theorem de_L_end_7 : decode mb_L_end 7 = .ok (.i2l, 1) := by decide +kernel
theorem de_L_end_8 : decode mb_L_end 8 = .ok (.lastore, 1) := by decide +kernel
theorem de_L_end_9 : decode mb_L_end 9 = .ok (.goto 9, 3) := by decide +kernel
theorem de_L_end_12 : decode mb_L_end 12 = .ok (.astore_n 3, 1) := by decide +kernel
theorem de_L_end_13 : decode mb_L_end 13 = .ok (.iconst 1, 1) := by decide +kernel
theorem de_L_end_14 : decode mb_L_end 14 = .ok (.ireturn, 1) := by decide +kernel
theorem de_L_end_15 : decode mb_L_end 15 = .ok (.astore_n 3, 1) := by decide +kernel
theorem de_L_end_16 : decode mb_L_end 16 = .ok (.iconst 2, 1) := by decide +kernel
theorem de_L_end_17 : decode mb_L_end 17 = .ok (.ireturn, 1) := by decide +kernel
theorem de_L_end_18 : decode mb_L_end 18 = .ok (.iconst 0, 1) := by decide +kernel
theorem de_L_end_19 : decode mb_L_end 19 = .ok (.ireturn, 1) := by decide +kernel
theorem de_L_merge_0 : decode mb_L_merge 0 = .ok (.aload_n 2, 1) := by decide +kernel
theorem de_L_merge_1 : decode mb_L_merge 1 = .ok (.iconst 0, 1) := by decide +kernel
theorem de_L_merge_2 : decode mb_L_merge 2 = .ok (.aload_n 0, 1) := by decide +kernel
theorem de_L_merge_3 : decode mb_L_merge 3 = .ok (.iload_n 1, 1) := by decide +kernel
theorem de_L_merge_4 : decode mb_L_merge 4 = .ok (.invokevirtual 30, 3) := by decide +kernel
theorem de_L_merge_7 : decode mb_L_merge 7 = .ok (.i2l, 1) := by decide +kernel
theorem de_L_merge_8 : decode mb_L_merge 8 = .ok (.lastore, 1) := by decide +kernel
theorem de_L_merge_9 : decode mb_L_merge 9 = .ok (.goto 6, 3) := by decide +kernel
theorem de_L_merge_12 : decode mb_L_merge 12 = .ok (.astore_n 3, 1) := by decide +kernel
theorem de_L_merge_13 : decode mb_L_merge 13 = .ok (.iconst 1, 1) := by decide +kernel
theorem de_L_merge_14 : decode mb_L_merge 14 = .ok (.ireturn, 1) := by decide +kernel
theorem de_L_merge_15 : decode mb_L_merge 15 = .ok (.iconst 0, 1) := by decide +kernel
theorem de_L_merge_16 : decode mb_L_merge 16 = .ok (.ireturn, 1) := by decide +kernel
theorem de_L_snapshot_0 : decode mb_L_snapshot 0 = .ok (.aload_n 1, 1) := by decide +kernel
theorem de_L_snapshot_1 : decode mb_L_snapshot 1 = .ok (.iconst 0, 1) := by decide +kernel
theorem de_L_snapshot_2 : decode mb_L_snapshot 2 = .ok (.aload_n 0, 1) := by decide +kernel
theorem de_L_snapshot_3 : decode mb_L_snapshot 3 = .ok (.invokevirtual 33, 3) := by decide +kernel
theorem de_L_snapshot_6 : decode mb_L_snapshot 6 = .ok (.i2l, 1) := by decide +kernel
theorem de_L_snapshot_7 : decode mb_L_snapshot 7 = .ok (.lastore, 1) := by decide +kernel
theorem de_L_snapshot_8 : decode mb_L_snapshot 8 = .ok (.goto 6, 3) := by decide +kernel
theorem de_L_snapshot_11 : decode mb_L_snapshot 11 = .ok (.astore_n 2, 1) := by decide +kernel
theorem de_L_snapshot_12 : decode mb_L_snapshot 12 = .ok (.iconst 1, 1) := by decide +kernel
theorem de_L_snapshot_13 : decode mb_L_snapshot 13 = .ok (.ireturn, 1) := by decide +kernel
theorem de_L_snapshot_14 : decode mb_L_snapshot 14 = .ok (.iconst 0, 1) := by decide +kernel
theorem de_L_snapshot_15 : decode mb_L_snapshot 15 = .ok (.ireturn, 1) := by decide +kernel
theorem de_L_release_0 : decode mb_L_release 0 = .ok (.aload_n 0, 1) := by decide +kernel
theorem de_L_release_1 : decode mb_L_release 1 = .ok (.iload_n 1, 1) := by decide +kernel
theorem de_L_release_2 : decode mb_L_release 2 = .ok (.invokevirtual 37, 3) := by decide +kernel
theorem de_L_release_5 : decode mb_L_release 5 = .ok (.goto 6, 3) := by decide +kernel
theorem de_L_release_8 : decode mb_L_release 8 = .ok (.astore_n 2, 1) := by decide +kernel
theorem de_L_release_9 : decode mb_L_release 9 = .ok (.iconst 1, 1) := by decide +kernel
theorem de_L_release_10 : decode mb_L_release 10 = .ok (.ireturn, 1) := by decide +kernel
theorem de_L_release_11 : decode mb_L_release 11 = .ok (.iconst 0, 1) := by decide +kernel
theorem de_L_release_12 : decode mb_L_release 12 = .ok (.ireturn, 1) := by decide +kernel
theorem de_L_get_0 : decode mb_L_get 0 = .ok (.aload_n 3, 1) := by decide +kernel
theorem de_L_get_1 : decode mb_L_get 1 = .ok (.iconst 0, 1) := by decide +kernel
theorem de_L_get_2 : decode mb_L_get 2 = .ok (.aload_n 0, 1) := by decide +kernel
theorem de_L_get_3 : decode mb_L_get 3 = .ok (.iload_n 1, 1) := by decide +kernel
theorem de_L_get_4 : decode mb_L_get 4 = .ok (.iload_n 2, 1) := by decide +kernel
theorem de_L_get_5 : decode mb_L_get 5 = .ok (.invokevirtual 41, 3) := by decide +kernel
theorem de_L_get_8 : decode mb_L_get 8 = .ok (.lastore, 1) := by decide +kernel
theorem de_L_get_9 : decode mb_L_get 9 = .ok (.goto 11, 3) := by decide +kernel
theorem de_L_get_12 : decode mb_L_get 12 = .ok (.astore 4, 2) := by decide +kernel
theorem de_L_get_14 : decode mb_L_get 14 = .ok (.iconst 1, 1) := by decide +kernel
theorem de_L_get_15 : decode mb_L_get 15 = .ok (.ireturn, 1) := by decide +kernel
theorem de_L_get_16 : decode mb_L_get 16 = .ok (.astore 4, 2) := by decide +kernel
theorem de_L_get_18 : decode mb_L_get 18 = .ok (.iconst 2, 1) := by decide +kernel
theorem de_L_get_19 : decode mb_L_get 19 = .ok (.ireturn, 1) := by decide +kernel
theorem de_L_get_20 : decode mb_L_get 20 = .ok (.iconst 0, 1) := by decide +kernel
theorem de_L_get_21 : decode mb_L_get 21 = .ok (.ireturn, 1) := by decide +kernel
theorem de_L_next_0 : decode mb_L_next 0 = .ok (.aload_n 3, 1) := by decide +kernel
theorem de_L_next_1 : decode mb_L_next 1 = .ok (.iconst 0, 1) := by decide +kernel
theorem de_L_next_2 : decode mb_L_next 2 = .ok (.aload_n 0, 1) := by decide +kernel
theorem de_L_next_3 : decode mb_L_next 3 = .ok (.iload_n 1, 1) := by decide +kernel
theorem de_L_next_4 : decode mb_L_next 4 = .ok (.iload_n 2, 1) := by decide +kernel
theorem de_L_next_5 : decode mb_L_next 5 = .ok (.invokevirtual 47, 3) := by decide +kernel
theorem de_L_next_8 : decode mb_L_next 8 = .ok (.i2l, 1) := by decide +kernel
theorem de_L_next_9 : decode mb_L_next 9 = .ok (.lastore, 1) := by decide +kernel
theorem de_L_next_10 : decode mb_L_next 10 = .ok (.goto 7, 3) := by decide +kernel
theorem de_L_next_13 : decode mb_L_next 13 = .ok (.astore 4, 2) := by decide +kernel
theorem de_L_next_15 : decode mb_L_next 15 = .ok (.iconst 1, 1) := by decide +kernel
theorem de_L_next_16 : decode mb_L_next 16 = .ok (.ireturn, 1) := by decide +kernel
theorem de_L_next_17 : decode mb_L_next 17 = .ok (.iconst 0, 1) := by decide +kernel
theorem de_L_next_18 : decode mb_L_next 18 = .ok (.ireturn, 1) := by decide +kernel
theorem de_L_entry_0 : decode mb_L_entry 0 = .ok (.aload 5, 2) := by decide +kernel
theorem de_L_entry_2 : decode mb_L_entry 2 = .ok (.iconst 0, 1) := by decide +kernel
theorem de_L_entry_3 : decode mb_L_entry 3 = .ok (.aload_n 0, 1) := by decide +kernel
theorem de_L_entry_4 : decode mb_L_entry 4 = .ok (.iload_n 1, 1) := by decide +kernel
theorem de_L_entry_5 : decode mb_L_entry 5 = .ok (.iload_n 2, 1) := by decide +kernel
theorem de_L_entry_6 : decode mb_L_entry 6 = .ok (.iload_n 3, 1) := by decide +kernel
theorem de_L_entry_7 : decode mb_L_entry 7 = .ok (.iload 4, 2) := by decide +kernel
theorem de_L_entry_9 : decode mb_L_entry 9 = .ok (.invokevirtual 51, 3) := by decide +kernel
theorem de_L_entry_12 : decode mb_L_entry 12 = .ok (.i2l, 1) := by decide +kernel
theorem de_L_entry_13 : decode mb_L_entry 13 = .ok (.lastore, 1) := by decide +kernel
theorem de_L_entry_14 : decode mb_L_entry 14 = .ok (.goto 11, 3) := by decide +kernel
theorem de_L_entry_17 : decode mb_L_entry 17 = .ok (.astore 6, 2) := by decide +kernel
theorem de_L_entry_19 : decode mb_L_entry 19 = .ok (.iconst 1, 1) := by decide +kernel
theorem de_L_entry_20 : decode mb_L_entry 20 = .ok (.ireturn, 1) := by decide +kernel
theorem de_L_entry_21 : decode mb_L_entry 21 = .ok (.astore 6, 2) := by decide +kernel
theorem de_L_entry_23 : decode mb_L_entry 23 = .ok (.iconst 2, 1) := by decide +kernel
theorem de_L_entry_24 : decode mb_L_entry 24 = .ok (.ireturn, 1) := by decide +kernel
theorem de_L_entry_25 : decode mb_L_entry 25 = .ok (.iconst 0, 1) := by decide +kernel
theorem de_L_entry_26 : decode mb_L_entry 26 = .ok (.ireturn, 1) := by decide +kernel
theorem de_L_count_0 : decode mb_L_count 0 = .ok (.aload_n 3, 1) := by decide +kernel
theorem de_L_count_1 : decode mb_L_count 1 = .ok (.iconst 0, 1) := by decide +kernel
theorem de_L_count_2 : decode mb_L_count 2 = .ok (.aload_n 0, 1) := by decide +kernel
theorem de_L_count_3 : decode mb_L_count 3 = .ok (.iload_n 1, 1) := by decide +kernel
theorem de_L_count_4 : decode mb_L_count 4 = .ok (.iload_n 2, 1) := by decide +kernel
theorem de_L_count_5 : decode mb_L_count 5 = .ok (.invokevirtual 55, 3) := by decide +kernel
theorem de_L_count_8 : decode mb_L_count 8 = .ok (.i2l, 1) := by decide +kernel
theorem de_L_count_9 : decode mb_L_count 9 = .ok (.lastore, 1) := by decide +kernel
theorem de_L_count_10 : decode mb_L_count 10 = .ok (.goto 7, 3) := by decide +kernel
theorem de_L_count_13 : decode mb_L_count 13 = .ok (.astore 4, 2) := by decide +kernel
theorem de_L_count_15 : decode mb_L_count 15 = .ok (.iconst 1, 1) := by decide +kernel
theorem de_L_count_16 : decode mb_L_count 16 = .ok (.ireturn, 1) := by decide +kernel
theorem de_L_count_17 : decode mb_L_count 17 = .ok (.iconst 0, 1) := by decide +kernel
theorem de_L_count_18 : decode mb_L_count 18 = .ok (.ireturn, 1) := by decide +kernel
theorem de_L_law_0 : decode code 0 = .ok (.new 8, 3) := by decide +kernel
theorem de_L_law_3 : decode code 3 = .ok (.dup, 1) := by decide +kernel
theorem de_L_law_4 : decode code 4 = .ok (.invokespecial 58, 3) := by decide +kernel
theorem de_L_law_7 : decode code 7 = .ok (.astore_n 1, 1) := by decide +kernel
theorem de_L_law_8 : decode code 8 = .ok (.new 59, 3) := by decide +kernel
theorem de_L_law_11 : decode code 11 = .ok (.dup, 1) := by decide +kernel
theorem de_L_law_12 : decode code 12 = .ok (.invokespecial 61, 3) := by decide +kernel
theorem de_L_law_15 : decode code 15 = .ok (.astore_n 2, 1) := by decide +kernel
theorem de_L_law_16 : decode code 16 = .ok (.iconst 1, 1) := by decide +kernel
theorem de_L_law_17 : decode code 17 = .ok (.newarray .long, 2) := by decide +kernel
theorem de_L_law_19 : decode code 19 = .ok (.astore_n 3, 1) := by decide +kernel
theorem de_L_law_20 : decode code 20 = .ok (.iconst 0, 1) := by decide +kernel
theorem de_L_law_21 : decode code 21 = .ok (.istore 4, 2) := by decide +kernel
theorem de_L_law_23 : decode code 23 = .ok (.iload 4, 2) := by decide +kernel
theorem de_L_law_25 : decode code 25 = .ok (.aload_n 0, 1) := by decide +kernel
theorem de_L_law_26 : decode code 26 = .ok (.arraylength, 1) := by decide +kernel
theorem de_L_law_27 : decode code 27 = .ok (.iconst 5, 1) := by decide +kernel
theorem de_L_law_28 : decode code 28 = .ok (.isub, 1) := by decide +kernel
theorem de_L_law_29 : decode code 29 = .ok (.if_icmp .gt 807, 3) := by decide +kernel
theorem de_L_law_32 : decode code 32 = .ok (.aload_n 0, 1) := by decide +kernel
theorem de_L_law_33 : decode code 33 = .ok (.iload 4, 2) := by decide +kernel
theorem de_L_law_35 : decode code 35 = .ok (.iaload, 1) := by decide +kernel
theorem de_L_law_36 : decode code 36 = .ok (.bipush 15, 2) := by decide +kernel
theorem de_L_law_38 : decode code 38 = .ok (.iand, 1) := by decide +kernel
theorem de_L_law_39 : decode code 39 = .ok (.tableswitch 791 0 13 #[69, 169, 225, 249, 321, 334, 347, 403, 416, 460, 496, 563, 631, 723], 69) := by decide +kernel
theorem de_L_law_108 : decode code 108 = .ok (.aload_n 1, 1) := by decide +kernel
theorem de_L_law_109 : decode code 109 = .ok (.aload_n 0, 1) := by decide +kernel
theorem de_L_law_110 : decode code 110 = .ok (.iload 4, 2) := by decide +kernel
theorem de_L_law_112 : decode code 112 = .ok (.iconst 1, 1) := by decide +kernel
theorem de_L_law_113 : decode code 113 = .ok (.iadd, 1) := by decide +kernel
theorem de_L_law_114 : decode code 114 = .ok (.iaload, 1) := by decide +kernel
theorem de_L_law_115 : decode code 115 = .ok (.aload_n 0, 1) := by decide +kernel
theorem de_L_law_116 : decode code 116 = .ok (.iload 4, 2) := by decide +kernel
theorem de_L_law_118 : decode code 118 = .ok (.iconst 2, 1) := by decide +kernel
theorem de_L_law_119 : decode code 119 = .ok (.iadd, 1) := by decide +kernel
theorem de_L_law_120 : decode code 120 = .ok (.iaload, 1) := by decide +kernel
theorem de_L_law_121 : decode code 121 = .ok (.i2l, 1) := by decide +kernel
theorem de_L_law_122 : decode code 122 = .ok (.bipush 32, 2) := by decide +kernel
theorem de_L_law_124 : decode code 124 = .ok (.lshl, 1) := by decide +kernel
theorem de_L_law_125 : decode code 125 = .ok (.aload_n 0, 1) := by decide +kernel
theorem de_L_law_126 : decode code 126 = .ok (.iload 4, 2) := by decide +kernel
theorem de_L_law_128 : decode code 128 = .ok (.iconst 3, 1) := by decide +kernel
theorem de_L_law_129 : decode code 129 = .ok (.iadd, 1) := by decide +kernel
theorem de_L_law_130 : decode code 130 = .ok (.iaload, 1) := by decide +kernel
theorem de_L_law_131 : decode code 131 = .ok (.i2l, 1) := by decide +kernel
theorem de_L_law_132 : decode code 132 = .ok (.ldc2_w 62, 3) := by decide +kernel
theorem de_L_law_135 : decode code 135 = .ok (.land, 1) := by decide +kernel
theorem de_L_law_136 : decode code 136 = .ok (.lor, 1) := by decide +kernel
theorem de_L_law_137 : decode code 137 = .ok (.aload_n 3, 1) := by decide +kernel
theorem de_L_law_138 : decode code 138 = .ok (.invokestatic 64, 3) := by decide +kernel
theorem de_L_law_141 : decode code 141 = .ok (.istore 5, 2) := by decide +kernel
theorem de_L_law_143 : decode code 143 = .ok (.aload_n 2, 1) := by decide +kernel
theorem de_L_law_144 : decode code 144 = .ok (.aload_n 0, 1) := by decide +kernel
theorem de_L_law_145 : decode code 145 = .ok (.iload 4, 2) := by decide +kernel
theorem de_L_law_147 : decode code 147 = .ok (.iconst 1, 1) := by decide +kernel
theorem de_L_law_148 : decode code 148 = .ok (.iadd, 1) := by decide +kernel
theorem de_L_law_149 : decode code 149 = .ok (.iaload, 1) := by decide +kernel
theorem de_L_law_150 : decode code 150 = .ok (.aload_n 0, 1) := by decide +kernel
theorem de_L_law_151 : decode code 151 = .ok (.iload 4, 2) := by decide +kernel
theorem de_L_law_153 : decode code 153 = .ok (.iconst 2, 1) := by decide +kernel
theorem de_L_law_154 : decode code 154 = .ok (.iadd, 1) := by decide +kernel
theorem de_L_law_155 : decode code 155 = .ok (.iaload, 1) := by decide +kernel
theorem de_L_law_156 : decode code 156 = .ok (.i2l, 1) := by decide +kernel
theorem de_L_law_157 : decode code 157 = .ok (.bipush 32, 2) := by decide +kernel
theorem de_L_law_159 : decode code 159 = .ok (.lshl, 1) := by decide +kernel
theorem de_L_law_160 : decode code 160 = .ok (.aload_n 0, 1) := by decide +kernel
theorem de_L_law_161 : decode code 161 = .ok (.iload 4, 2) := by decide +kernel
theorem de_L_law_163 : decode code 163 = .ok (.iconst 3, 1) := by decide +kernel
theorem de_L_law_164 : decode code 164 = .ok (.iadd, 1) := by decide +kernel
theorem de_L_law_165 : decode code 165 = .ok (.iaload, 1) := by decide +kernel
theorem de_L_law_166 : decode code 166 = .ok (.i2l, 1) := by decide +kernel
theorem de_L_law_167 : decode code 167 = .ok (.ldc2_w 62, 3) := by decide +kernel
theorem de_L_law_170 : decode code 170 = .ok (.land, 1) := by decide +kernel
theorem de_L_law_171 : decode code 171 = .ok (.lor, 1) := by decide +kernel
theorem de_L_law_172 : decode code 172 = .ok (.invokevirtual 69, 3) := by decide +kernel
theorem de_L_law_175 : decode code 175 = .ok (.istore 6, 2) := by decide +kernel
theorem de_L_law_177 : decode code 177 = .ok (.aload_n 2, 1) := by decide +kernel
theorem de_L_law_178 : decode code 178 = .ok (.invokevirtual 70, 3) := by decide +kernel
theorem de_L_law_181 : decode code 181 = .ok (.iload 5, 2) := by decide +kernel
theorem de_L_law_183 : decode code 183 = .ok (.if_icmp .eq 5, 3) := by decide +kernel
theorem de_L_law_186 : decode code 186 = .ok (.iconst 0, 1) := by decide +kernel
theorem de_L_law_187 : decode code 187 = .ok (.ireturn, 1) := by decide +kernel
theorem de_L_law_188 : decode code 188 = .ok (.iload 5, 2) := by decide +kernel
theorem de_L_law_190 : decode code 190 = .ok (.ifCond .ne 15, 3) := by decide +kernel
theorem de_L_law_193 : decode code 193 = .ok (.aload_n 3, 1) := by decide +kernel
theorem de_L_law_194 : decode code 194 = .ok (.iconst 0, 1) := by decide +kernel
theorem de_L_law_195 : decode code 195 = .ok (.laload, 1) := by decide +kernel
theorem de_L_law_196 : decode code 196 = .ok (.iload 6, 2) := by decide +kernel
theorem de_L_law_198 : decode code 198 = .ok (.i2l, 1) := by decide +kernel
theorem de_L_law_199 : decode code 199 = .ok (.lcmp, 1) := by decide +kernel
theorem de_L_law_200 : decode code 200 = .ok (.ifCond .eq 5, 3) := by decide +kernel
theorem de_L_law_203 : decode code 203 = .ok (.iconst 0, 1) := by decide +kernel
theorem de_L_law_204 : decode code 204 = .ok (.ireturn, 1) := by decide +kernel
theorem de_L_law_205 : decode code 205 = .ok (.goto 625, 3) := by decide +kernel
theorem de_L_law_208 : decode code 208 = .ok (.aload_n 1, 1) := by decide +kernel
theorem de_L_law_209 : decode code 209 = .ok (.aload_n 0, 1) := by decide +kernel
theorem de_L_law_210 : decode code 210 = .ok (.iload 4, 2) := by decide +kernel
theorem de_L_law_212 : decode code 212 = .ok (.iconst 1, 1) := by decide +kernel
theorem de_L_law_213 : decode code 213 = .ok (.iadd, 1) := by decide +kernel
theorem de_L_law_214 : decode code 214 = .ok (.iaload, 1) := by decide +kernel
theorem de_L_law_215 : decode code 215 = .ok (.aload_n 3, 1) := by decide +kernel
theorem de_L_law_216 : decode code 216 = .ok (.invokestatic 73, 3) := by decide +kernel
theorem de_L_law_219 : decode code 219 = .ok (.istore 5, 2) := by decide +kernel
theorem de_L_law_221 : decode code 221 = .ok (.aload_n 2, 1) := by decide +kernel
theorem de_L_law_222 : decode code 222 = .ok (.aload_n 0, 1) := by decide +kernel
theorem de_L_law_223 : decode code 223 = .ok (.iload 4, 2) := by decide +kernel
theorem de_L_law_225 : decode code 225 = .ok (.iconst 1, 1) := by decide +kernel
theorem de_L_law_226 : decode code 226 = .ok (.iadd, 1) := by decide +kernel
theorem de_L_law_227 : decode code 227 = .ok (.iaload, 1) := by decide +kernel
theorem de_L_law_228 : decode code 228 = .ok (.invokevirtual 76, 3) := by decide +kernel
theorem de_L_law_231 : decode code 231 = .ok (.istore 6, 2) := by decide +kernel
theorem de_L_law_233 : decode code 233 = .ok (.aload_n 2, 1) := by decide +kernel
theorem de_L_law_234 : decode code 234 = .ok (.invokevirtual 70, 3) := by decide +kernel
theorem de_L_law_237 : decode code 237 = .ok (.iload 5, 2) := by decide +kernel
theorem de_L_law_239 : decode code 239 = .ok (.if_icmp .eq 5, 3) := by decide +kernel
theorem de_L_law_242 : decode code 242 = .ok (.iconst 0, 1) := by decide +kernel
theorem de_L_law_243 : decode code 243 = .ok (.ireturn, 1) := by decide +kernel
theorem de_L_law_244 : decode code 244 = .ok (.iload 5, 2) := by decide +kernel
theorem de_L_law_246 : decode code 246 = .ok (.ifCond .ne 15, 3) := by decide +kernel
theorem de_L_law_249 : decode code 249 = .ok (.aload_n 3, 1) := by decide +kernel
theorem de_L_law_250 : decode code 250 = .ok (.iconst 0, 1) := by decide +kernel
theorem de_L_law_251 : decode code 251 = .ok (.laload, 1) := by decide +kernel
theorem de_L_law_252 : decode code 252 = .ok (.iload 6, 2) := by decide +kernel
theorem de_L_law_254 : decode code 254 = .ok (.i2l, 1) := by decide +kernel
theorem de_L_law_255 : decode code 255 = .ok (.lcmp, 1) := by decide +kernel
theorem de_L_law_256 : decode code 256 = .ok (.ifCond .eq 5, 3) := by decide +kernel
theorem de_L_law_259 : decode code 259 = .ok (.iconst 0, 1) := by decide +kernel
theorem de_L_law_260 : decode code 260 = .ok (.ireturn, 1) := by decide +kernel
theorem de_L_law_261 : decode code 261 = .ok (.goto 569, 3) := by decide +kernel
theorem de_L_law_264 : decode code 264 = .ok (.aload_n 1, 1) := by decide +kernel
theorem de_L_law_265 : decode code 265 = .ok (.invokestatic 77, 3) := by decide +kernel
theorem de_L_law_268 : decode code 268 = .ok (.istore 5, 2) := by decide +kernel
theorem de_L_law_270 : decode code 270 = .ok (.aload_n 2, 1) := by decide +kernel
theorem de_L_law_271 : decode code 271 = .ok (.invokevirtual 80, 3) := by decide +kernel
theorem de_L_law_274 : decode code 274 = .ok (.aload_n 2, 1) := by decide +kernel
theorem de_L_law_275 : decode code 275 = .ok (.invokevirtual 70, 3) := by decide +kernel
theorem de_L_law_278 : decode code 278 = .ok (.iload 5, 2) := by decide +kernel
theorem de_L_law_280 : decode code 280 = .ok (.if_icmp .eq 5, 3) := by decide +kernel
theorem de_L_law_283 : decode code 283 = .ok (.iconst 0, 1) := by decide +kernel
theorem de_L_law_284 : decode code 284 = .ok (.ireturn, 1) := by decide +kernel
theorem de_L_law_285 : decode code 285 = .ok (.goto 545, 3) := by decide +kernel
theorem de_L_law_288 : decode code 288 = .ok (.aload_n 1, 1) := by decide +kernel
theorem de_L_law_289 : decode code 289 = .ok (.aload_n 0, 1) := by decide +kernel
theorem de_L_law_290 : decode code 290 = .ok (.iload 4, 2) := by decide +kernel
theorem de_L_law_292 : decode code 292 = .ok (.iconst 1, 1) := by decide +kernel
theorem de_L_law_293 : decode code 293 = .ok (.iadd, 1) := by decide +kernel
theorem de_L_law_294 : decode code 294 = .ok (.iaload, 1) := by decide +kernel
theorem de_L_law_295 : decode code 295 = .ok (.ifCond .eq 7, 3) := by decide +kernel
theorem de_L_law_298 : decode code 298 = .ok (.iconst 1, 1) := by decide +kernel
theorem de_L_law_299 : decode code 299 = .ok (.goto 4, 3) := by decide +kernel
theorem de_L_law_302 : decode code 302 = .ok (.iconst 0, 1) := by decide +kernel
theorem de_L_law_303 : decode code 303 = .ok (.aload_n 3, 1) := by decide +kernel
theorem de_L_law_304 : decode code 304 = .ok (.invokestatic 81, 3) := by decide +kernel
theorem de_L_law_307 : decode code 307 = .ok (.istore 5, 2) := by decide +kernel
theorem de_L_law_309 : decode code 309 = .ok (.aload_n 2, 1) := by decide +kernel
theorem de_L_law_310 : decode code 310 = .ok (.aload_n 0, 1) := by decide +kernel
theorem de_L_law_311 : decode code 311 = .ok (.iload 4, 2) := by decide +kernel
theorem de_L_law_313 : decode code 313 = .ok (.iconst 1, 1) := by decide +kernel
theorem de_L_law_314 : decode code 314 = .ok (.iadd, 1) := by decide +kernel
theorem de_L_law_315 : decode code 315 = .ok (.iaload, 1) := by decide +kernel
theorem de_L_law_316 : decode code 316 = .ok (.ifCond .eq 7, 3) := by decide +kernel
theorem de_L_law_319 : decode code 319 = .ok (.iconst 1, 1) := by decide +kernel
theorem de_L_law_320 : decode code 320 = .ok (.goto 4, 3) := by decide +kernel
theorem de_L_law_323 : decode code 323 = .ok (.iconst 0, 1) := by decide +kernel
theorem de_L_law_324 : decode code 324 = .ok (.invokevirtual 84, 3) := by decide +kernel
theorem de_L_law_327 : decode code 327 = .ok (.istore 6, 2) := by decide +kernel
theorem de_L_law_329 : decode code 329 = .ok (.aload_n 2, 1) := by decide +kernel
theorem de_L_law_330 : decode code 330 = .ok (.invokevirtual 70, 3) := by decide +kernel
theorem de_L_law_333 : decode code 333 = .ok (.iload 5, 2) := by decide +kernel
theorem de_L_law_335 : decode code 335 = .ok (.if_icmp .eq 5, 3) := by decide +kernel
theorem de_L_law_338 : decode code 338 = .ok (.iconst 0, 1) := by decide +kernel
theorem de_L_law_339 : decode code 339 = .ok (.ireturn, 1) := by decide +kernel
theorem de_L_law_340 : decode code 340 = .ok (.iload 5, 2) := by decide +kernel
theorem de_L_law_342 : decode code 342 = .ok (.ifCond .ne 15, 3) := by decide +kernel
theorem de_L_law_345 : decode code 345 = .ok (.aload_n 3, 1) := by decide +kernel
theorem de_L_law_346 : decode code 346 = .ok (.iconst 0, 1) := by decide +kernel
theorem de_L_law_347 : decode code 347 = .ok (.laload, 1) := by decide +kernel
theorem de_L_law_348 : decode code 348 = .ok (.iload 6, 2) := by decide +kernel
theorem de_L_law_350 : decode code 350 = .ok (.i2l, 1) := by decide +kernel
theorem de_L_law_351 : decode code 351 = .ok (.lcmp, 1) := by decide +kernel
theorem de_L_law_352 : decode code 352 = .ok (.ifCond .eq 5, 3) := by decide +kernel
theorem de_L_law_355 : decode code 355 = .ok (.iconst 0, 1) := by decide +kernel
theorem de_L_law_356 : decode code 356 = .ok (.ireturn, 1) := by decide +kernel
theorem de_L_law_357 : decode code 357 = .ok (.goto 473, 3) := by decide +kernel
theorem de_L_law_360 : decode code 360 = .ok (.aload_n 1, 1) := by decide +kernel
theorem de_L_law_361 : decode code 361 = .ok (.invokevirtual 85, 3) := by decide +kernel
theorem de_L_law_364 : decode code 364 = .ok (.aload_n 2, 1) := by decide +kernel
theorem de_L_law_365 : decode code 365 = .ok (.invokevirtual 88, 3) := by decide +kernel
theorem de_L_law_368 : decode code 368 = .ok (.if_icmp .eq 462, 3) := by decide +kernel
theorem de_L_law_371 : decode code 371 = .ok (.iconst 0, 1) := by decide +kernel
theorem de_L_law_372 : decode code 372 = .ok (.ireturn, 1) := by decide +kernel
theorem de_L_law_373 : decode code 373 = .ok (.aload_n 1, 1) := by decide +kernel
theorem de_L_law_374 : decode code 374 = .ok (.invokevirtual 89, 3) := by decide +kernel
theorem de_L_law_377 : decode code 377 = .ok (.aload_n 2, 1) := by decide +kernel
theorem de_L_law_378 : decode code 378 = .ok (.invokevirtual 92, 3) := by decide +kernel
theorem de_L_law_381 : decode code 381 = .ok (.if_icmp .eq 449, 3) := by decide +kernel
theorem de_L_law_384 : decode code 384 = .ok (.iconst 0, 1) := by decide +kernel
theorem de_L_law_385 : decode code 385 = .ok (.ireturn, 1) := by decide +kernel
theorem de_L_law_386 : decode code 386 = .ok (.aload_n 1, 1) := by decide +kernel
theorem de_L_law_387 : decode code 387 = .ok (.aload_n 0, 1) := by decide +kernel
theorem de_L_law_388 : decode code 388 = .ok (.iload 4, 2) := by decide +kernel
theorem de_L_law_390 : decode code 390 = .ok (.iconst 1, 1) := by decide +kernel
theorem de_L_law_391 : decode code 391 = .ok (.iadd, 1) := by decide +kernel
theorem de_L_law_392 : decode code 392 = .ok (.iaload, 1) := by decide +kernel
theorem de_L_law_393 : decode code 393 = .ok (.aload_n 3, 1) := by decide +kernel
theorem de_L_law_394 : decode code 394 = .ok (.invokestatic 93, 3) := by decide +kernel
theorem de_L_law_397 : decode code 397 = .ok (.istore 5, 2) := by decide +kernel
theorem de_L_law_399 : decode code 399 = .ok (.aload_n 2, 1) := by decide +kernel
theorem de_L_law_400 : decode code 400 = .ok (.aload_n 0, 1) := by decide +kernel
theorem de_L_law_401 : decode code 401 = .ok (.iload 4, 2) := by decide +kernel
theorem de_L_law_403 : decode code 403 = .ok (.iconst 1, 1) := by decide +kernel
theorem de_L_law_404 : decode code 404 = .ok (.iadd, 1) := by decide +kernel
theorem de_L_law_405 : decode code 405 = .ok (.iaload, 1) := by decide +kernel
theorem de_L_law_406 : decode code 406 = .ok (.invokevirtual 95, 3) := by decide +kernel
theorem de_L_law_409 : decode code 409 = .ok (.istore 6, 2) := by decide +kernel
theorem de_L_law_411 : decode code 411 = .ok (.aload_n 2, 1) := by decide +kernel
theorem de_L_law_412 : decode code 412 = .ok (.invokevirtual 70, 3) := by decide +kernel
theorem de_L_law_415 : decode code 415 = .ok (.iload 5, 2) := by decide +kernel
theorem de_L_law_417 : decode code 417 = .ok (.if_icmp .eq 5, 3) := by decide +kernel
theorem de_L_law_420 : decode code 420 = .ok (.iconst 0, 1) := by decide +kernel
theorem de_L_law_421 : decode code 421 = .ok (.ireturn, 1) := by decide +kernel
theorem de_L_law_422 : decode code 422 = .ok (.iload 5, 2) := by decide +kernel
theorem de_L_law_424 : decode code 424 = .ok (.ifCond .ne 15, 3) := by decide +kernel
theorem de_L_law_427 : decode code 427 = .ok (.aload_n 3, 1) := by decide +kernel
theorem de_L_law_428 : decode code 428 = .ok (.iconst 0, 1) := by decide +kernel
theorem de_L_law_429 : decode code 429 = .ok (.laload, 1) := by decide +kernel
theorem de_L_law_430 : decode code 430 = .ok (.iload 6, 2) := by decide +kernel
theorem de_L_law_432 : decode code 432 = .ok (.i2l, 1) := by decide +kernel
theorem de_L_law_433 : decode code 433 = .ok (.lcmp, 1) := by decide +kernel
theorem de_L_law_434 : decode code 434 = .ok (.ifCond .eq 5, 3) := by decide +kernel
theorem de_L_law_437 : decode code 437 = .ok (.iconst 0, 1) := by decide +kernel
theorem de_L_law_438 : decode code 438 = .ok (.ireturn, 1) := by decide +kernel
theorem de_L_law_439 : decode code 439 = .ok (.goto 391, 3) := by decide +kernel
theorem de_L_law_442 : decode code 442 = .ok (.aload_n 1, 1) := by decide +kernel
theorem de_L_law_443 : decode code 443 = .ok (.invokevirtual 96, 3) := by decide +kernel
theorem de_L_law_446 : decode code 446 = .ok (.aload_n 2, 1) := by decide +kernel
theorem de_L_law_447 : decode code 447 = .ok (.invokevirtual 99, 3) := by decide +kernel
theorem de_L_law_450 : decode code 450 = .ok (.if_icmp .eq 380, 3) := by decide +kernel
theorem de_L_law_453 : decode code 453 = .ok (.iconst 0, 1) := by decide +kernel
theorem de_L_law_454 : decode code 454 = .ok (.ireturn, 1) := by decide +kernel
theorem de_L_law_455 : decode code 455 = .ok (.aload_n 1, 1) := by decide +kernel
theorem de_L_law_456 : decode code 456 = .ok (.aload_n 3, 1) := by decide +kernel
theorem de_L_law_457 : decode code 457 = .ok (.invokestatic 100, 3) := by decide +kernel
theorem de_L_law_460 : decode code 460 = .ok (.istore 5, 2) := by decide +kernel
theorem de_L_law_462 : decode code 462 = .ok (.aload_n 2, 1) := by decide +kernel
theorem de_L_law_463 : decode code 463 = .ok (.invokevirtual 103, 3) := by decide +kernel
theorem de_L_law_466 : decode code 466 = .ok (.istore 6, 2) := by decide +kernel
theorem de_L_law_468 : decode code 468 = .ok (.aload_n 2, 1) := by decide +kernel
theorem de_L_law_469 : decode code 469 = .ok (.invokevirtual 70, 3) := by decide +kernel
theorem de_L_law_472 : decode code 472 = .ok (.iload 5, 2) := by decide +kernel
theorem de_L_law_474 : decode code 474 = .ok (.if_icmp .eq 5, 3) := by decide +kernel
theorem de_L_law_477 : decode code 477 = .ok (.iconst 0, 1) := by decide +kernel
theorem de_L_law_478 : decode code 478 = .ok (.ireturn, 1) := by decide +kernel
theorem de_L_law_479 : decode code 479 = .ok (.iload 5, 2) := by decide +kernel
theorem de_L_law_481 : decode code 481 = .ok (.ifCond .ne 15, 3) := by decide +kernel
theorem de_L_law_484 : decode code 484 = .ok (.aload_n 3, 1) := by decide +kernel
theorem de_L_law_485 : decode code 485 = .ok (.iconst 0, 1) := by decide +kernel
theorem de_L_law_486 : decode code 486 = .ok (.laload, 1) := by decide +kernel
theorem de_L_law_487 : decode code 487 = .ok (.iload 6, 2) := by decide +kernel
theorem de_L_law_489 : decode code 489 = .ok (.i2l, 1) := by decide +kernel
theorem de_L_law_490 : decode code 490 = .ok (.lcmp, 1) := by decide +kernel
theorem de_L_law_491 : decode code 491 = .ok (.ifCond .eq 5, 3) := by decide +kernel
theorem de_L_law_494 : decode code 494 = .ok (.iconst 0, 1) := by decide +kernel
theorem de_L_law_495 : decode code 495 = .ok (.ireturn, 1) := by decide +kernel
theorem de_L_law_496 : decode code 496 = .ok (.goto 334, 3) := by decide +kernel
theorem de_L_law_499 : decode code 499 = .ok (.aload_n 1, 1) := by decide +kernel
theorem de_L_law_500 : decode code 500 = .ok (.aload_n 0, 1) := by decide +kernel
theorem de_L_law_501 : decode code 501 = .ok (.iload 4, 2) := by decide +kernel
theorem de_L_law_503 : decode code 503 = .ok (.iconst 1, 1) := by decide +kernel
theorem de_L_law_504 : decode code 504 = .ok (.iadd, 1) := by decide +kernel
theorem de_L_law_505 : decode code 505 = .ok (.iaload, 1) := by decide +kernel
theorem de_L_law_506 : decode code 506 = .ok (.invokestatic 104, 3) := by decide +kernel
theorem de_L_law_509 : decode code 509 = .ok (.istore 5, 2) := by decide +kernel
theorem de_L_law_511 : decode code 511 = .ok (.aload_n 2, 1) := by decide +kernel
theorem de_L_law_512 : decode code 512 = .ok (.aload_n 0, 1) := by decide +kernel
theorem de_L_law_513 : decode code 513 = .ok (.iload 4, 2) := by decide +kernel
theorem de_L_law_515 : decode code 515 = .ok (.iconst 1, 1) := by decide +kernel
theorem de_L_law_516 : decode code 516 = .ok (.iadd, 1) := by decide +kernel
theorem de_L_law_517 : decode code 517 = .ok (.iaload, 1) := by decide +kernel
theorem de_L_law_518 : decode code 518 = .ok (.invokevirtual 107, 3) := by decide +kernel
theorem de_L_law_521 : decode code 521 = .ok (.aload_n 2, 1) := by decide +kernel
theorem de_L_law_522 : decode code 522 = .ok (.invokevirtual 70, 3) := by decide +kernel
theorem de_L_law_525 : decode code 525 = .ok (.iload 5, 2) := by decide +kernel
theorem de_L_law_527 : decode code 527 = .ok (.if_icmp .eq 5, 3) := by decide +kernel
theorem de_L_law_530 : decode code 530 = .ok (.iconst 0, 1) := by decide +kernel
theorem de_L_law_531 : decode code 531 = .ok (.ireturn, 1) := by decide +kernel
theorem de_L_law_532 : decode code 532 = .ok (.goto 298, 3) := by decide +kernel
theorem de_L_law_535 : decode code 535 = .ok (.aload_n 1, 1) := by decide +kernel
theorem de_L_law_536 : decode code 536 = .ok (.aload_n 0, 1) := by decide +kernel
theorem de_L_law_537 : decode code 537 = .ok (.iload 4, 2) := by decide +kernel
theorem de_L_law_539 : decode code 539 = .ok (.iconst 1, 1) := by decide +kernel
theorem de_L_law_540 : decode code 540 = .ok (.iadd, 1) := by decide +kernel
theorem de_L_law_541 : decode code 541 = .ok (.iaload, 1) := by decide +kernel
theorem de_L_law_542 : decode code 542 = .ok (.aload_n 0, 1) := by decide +kernel
theorem de_L_law_543 : decode code 543 = .ok (.iload 4, 2) := by decide +kernel
theorem de_L_law_545 : decode code 545 = .ok (.iconst 2, 1) := by decide +kernel
theorem de_L_law_546 : decode code 546 = .ok (.iadd, 1) := by decide +kernel
theorem de_L_law_547 : decode code 547 = .ok (.iaload, 1) := by decide +kernel
theorem de_L_law_548 : decode code 548 = .ok (.aload_n 3, 1) := by decide +kernel
theorem de_L_law_549 : decode code 549 = .ok (.invokestatic 108, 3) := by decide +kernel
theorem de_L_law_552 : decode code 552 = .ok (.istore 5, 2) := by decide +kernel
theorem de_L_law_554 : decode code 554 = .ok (.aload_n 2, 1) := by decide +kernel
theorem de_L_law_555 : decode code 555 = .ok (.aload_n 0, 1) := by decide +kernel
theorem de_L_law_556 : decode code 556 = .ok (.iload 4, 2) := by decide +kernel
theorem de_L_law_558 : decode code 558 = .ok (.iconst 1, 1) := by decide +kernel
theorem de_L_law_559 : decode code 559 = .ok (.iadd, 1) := by decide +kernel
theorem de_L_law_560 : decode code 560 = .ok (.iaload, 1) := by decide +kernel
theorem de_L_law_561 : decode code 561 = .ok (.aload_n 0, 1) := by decide +kernel
theorem de_L_law_562 : decode code 562 = .ok (.iload 4, 2) := by decide +kernel
theorem de_L_law_564 : decode code 564 = .ok (.iconst 2, 1) := by decide +kernel
theorem de_L_law_565 : decode code 565 = .ok (.iadd, 1) := by decide +kernel
theorem de_L_law_566 : decode code 566 = .ok (.iaload, 1) := by decide +kernel
theorem de_L_law_567 : decode code 567 = .ok (.invokevirtual 111, 3) := by decide +kernel
theorem de_L_law_570 : decode code 570 = .ok (.lstore 6, 2) := by decide +kernel
theorem de_L_law_572 : decode code 572 = .ok (.aload_n 2, 1) := by decide +kernel
theorem de_L_law_573 : decode code 573 = .ok (.invokevirtual 70, 3) := by decide +kernel
theorem de_L_law_576 : decode code 576 = .ok (.iload 5, 2) := by decide +kernel
theorem de_L_law_578 : decode code 578 = .ok (.if_icmp .eq 5, 3) := by decide +kernel
theorem de_L_law_581 : decode code 581 = .ok (.iconst 0, 1) := by decide +kernel
theorem de_L_law_582 : decode code 582 = .ok (.ireturn, 1) := by decide +kernel
theorem de_L_law_583 : decode code 583 = .ok (.iload 5, 2) := by decide +kernel
theorem de_L_law_585 : decode code 585 = .ok (.ifCond .ne 14, 3) := by decide +kernel
theorem de_L_law_588 : decode code 588 = .ok (.aload_n 3, 1) := by decide +kernel
theorem de_L_law_589 : decode code 589 = .ok (.iconst 0, 1) := by decide +kernel
theorem de_L_law_590 : decode code 590 = .ok (.laload, 1) := by decide +kernel
theorem de_L_law_591 : decode code 591 = .ok (.lload 6, 2) := by decide +kernel
theorem de_L_law_593 : decode code 593 = .ok (.lcmp, 1) := by decide +kernel
theorem de_L_law_594 : decode code 594 = .ok (.ifCond .eq 5, 3) := by decide +kernel
theorem de_L_law_597 : decode code 597 = .ok (.iconst 0, 1) := by decide +kernel
theorem de_L_law_598 : decode code 598 = .ok (.ireturn, 1) := by decide +kernel
theorem de_L_law_599 : decode code 599 = .ok (.goto 231, 3) := by decide +kernel
theorem de_L_law_602 : decode code 602 = .ok (.aload_n 1, 1) := by decide +kernel
theorem de_L_law_603 : decode code 603 = .ok (.aload_n 0, 1) := by decide +kernel
theorem de_L_law_604 : decode code 604 = .ok (.iload 4, 2) := by decide +kernel
theorem de_L_law_606 : decode code 606 = .ok (.iconst 1, 1) := by decide +kernel
theorem de_L_law_607 : decode code 607 = .ok (.iadd, 1) := by decide +kernel
theorem de_L_law_608 : decode code 608 = .ok (.iaload, 1) := by decide +kernel
theorem de_L_law_609 : decode code 609 = .ok (.aload_n 0, 1) := by decide +kernel
theorem de_L_law_610 : decode code 610 = .ok (.iload 4, 2) := by decide +kernel
theorem de_L_law_612 : decode code 612 = .ok (.iconst 2, 1) := by decide +kernel
theorem de_L_law_613 : decode code 613 = .ok (.iadd, 1) := by decide +kernel
theorem de_L_law_614 : decode code 614 = .ok (.iaload, 1) := by decide +kernel
theorem de_L_law_615 : decode code 615 = .ok (.aload_n 3, 1) := by decide +kernel
theorem de_L_law_616 : decode code 616 = .ok (.invokestatic 112, 3) := by decide +kernel
theorem de_L_law_619 : decode code 619 = .ok (.istore 5, 2) := by decide +kernel
theorem de_L_law_621 : decode code 621 = .ok (.aload_n 2, 1) := by decide +kernel
theorem de_L_law_622 : decode code 622 = .ok (.aload_n 0, 1) := by decide +kernel
theorem de_L_law_623 : decode code 623 = .ok (.iload 4, 2) := by decide +kernel
theorem de_L_law_625 : decode code 625 = .ok (.iconst 1, 1) := by decide +kernel
theorem de_L_law_626 : decode code 626 = .ok (.iadd, 1) := by decide +kernel
theorem de_L_law_627 : decode code 627 = .ok (.iaload, 1) := by decide +kernel
theorem de_L_law_628 : decode code 628 = .ok (.aload_n 0, 1) := by decide +kernel
theorem de_L_law_629 : decode code 629 = .ok (.iload 4, 2) := by decide +kernel
theorem de_L_law_631 : decode code 631 = .ok (.iconst 2, 1) := by decide +kernel
theorem de_L_law_632 : decode code 632 = .ok (.iadd, 1) := by decide +kernel
theorem de_L_law_633 : decode code 633 = .ok (.iaload, 1) := by decide +kernel
theorem de_L_law_634 : decode code 634 = .ok (.invokevirtual 114, 3) := by decide +kernel
theorem de_L_law_637 : decode code 637 = .ok (.istore 6, 2) := by decide +kernel
theorem de_L_law_639 : decode code 639 = .ok (.aload_n 2, 1) := by decide +kernel
theorem de_L_law_640 : decode code 640 = .ok (.invokevirtual 70, 3) := by decide +kernel
theorem de_L_law_643 : decode code 643 = .ok (.iload 5, 2) := by decide +kernel
theorem de_L_law_645 : decode code 645 = .ok (.if_icmp .eq 5, 3) := by decide +kernel
theorem de_L_law_648 : decode code 648 = .ok (.iconst 0, 1) := by decide +kernel
theorem de_L_law_649 : decode code 649 = .ok (.ireturn, 1) := by decide +kernel
theorem de_L_law_650 : decode code 650 = .ok (.iload 5, 2) := by decide +kernel
theorem de_L_law_652 : decode code 652 = .ok (.ifCond .ne 15, 3) := by decide +kernel
theorem de_L_law_655 : decode code 655 = .ok (.aload_n 3, 1) := by decide +kernel
theorem de_L_law_656 : decode code 656 = .ok (.iconst 0, 1) := by decide +kernel
theorem de_L_law_657 : decode code 657 = .ok (.laload, 1) := by decide +kernel
theorem de_L_law_658 : decode code 658 = .ok (.iload 6, 2) := by decide +kernel
theorem de_L_law_660 : decode code 660 = .ok (.i2l, 1) := by decide +kernel
theorem de_L_law_661 : decode code 661 = .ok (.lcmp, 1) := by decide +kernel
theorem de_L_law_662 : decode code 662 = .ok (.ifCond .eq 5, 3) := by decide +kernel
theorem de_L_law_665 : decode code 665 = .ok (.iconst 0, 1) := by decide +kernel
theorem de_L_law_666 : decode code 666 = .ok (.ireturn, 1) := by decide +kernel
theorem de_L_law_667 : decode code 667 = .ok (.goto 163, 3) := by decide +kernel
theorem de_L_law_670 : decode code 670 = .ok (.aload_n 1, 1) := by decide +kernel
theorem de_L_law_671 : decode code 671 = .ok (.aload_n 0, 1) := by decide +kernel
theorem de_L_law_672 : decode code 672 = .ok (.iload 4, 2) := by decide +kernel
theorem de_L_law_674 : decode code 674 = .ok (.iconst 1, 1) := by decide +kernel
theorem de_L_law_675 : decode code 675 = .ok (.iadd, 1) := by decide +kernel
theorem de_L_law_676 : decode code 676 = .ok (.iaload, 1) := by decide +kernel
theorem de_L_law_677 : decode code 677 = .ok (.aload_n 0, 1) := by decide +kernel
theorem de_L_law_678 : decode code 678 = .ok (.iload 4, 2) := by decide +kernel
theorem de_L_law_680 : decode code 680 = .ok (.iconst 2, 1) := by decide +kernel
theorem de_L_law_681 : decode code 681 = .ok (.iadd, 1) := by decide +kernel
theorem de_L_law_682 : decode code 682 = .ok (.iaload, 1) := by decide +kernel
theorem de_L_law_683 : decode code 683 = .ok (.aload_n 0, 1) := by decide +kernel
theorem de_L_law_684 : decode code 684 = .ok (.iload 4, 2) := by decide +kernel
theorem de_L_law_686 : decode code 686 = .ok (.iconst 3, 1) := by decide +kernel
theorem de_L_law_687 : decode code 687 = .ok (.iadd, 1) := by decide +kernel
theorem de_L_law_688 : decode code 688 = .ok (.iaload, 1) := by decide +kernel
theorem de_L_law_689 : decode code 689 = .ok (.aload_n 0, 1) := by decide +kernel
theorem de_L_law_690 : decode code 690 = .ok (.iload 4, 2) := by decide +kernel
theorem de_L_law_692 : decode code 692 = .ok (.iconst 4, 1) := by decide +kernel
theorem de_L_law_693 : decode code 693 = .ok (.iadd, 1) := by decide +kernel
theorem de_L_law_694 : decode code 694 = .ok (.iaload, 1) := by decide +kernel
theorem de_L_law_695 : decode code 695 = .ok (.aload_n 3, 1) := by decide +kernel
theorem de_L_law_696 : decode code 696 = .ok (.invokestatic 115, 3) := by decide +kernel
theorem de_L_law_699 : decode code 699 = .ok (.istore 5, 2) := by decide +kernel
theorem de_L_law_701 : decode code 701 = .ok (.aload_n 2, 1) := by decide +kernel
theorem de_L_law_702 : decode code 702 = .ok (.aload_n 0, 1) := by decide +kernel
theorem de_L_law_703 : decode code 703 = .ok (.iload 4, 2) := by decide +kernel
theorem de_L_law_705 : decode code 705 = .ok (.iconst 1, 1) := by decide +kernel
theorem de_L_law_706 : decode code 706 = .ok (.iadd, 1) := by decide +kernel
theorem de_L_law_707 : decode code 707 = .ok (.iaload, 1) := by decide +kernel
theorem de_L_law_708 : decode code 708 = .ok (.aload_n 0, 1) := by decide +kernel
theorem de_L_law_709 : decode code 709 = .ok (.iload 4, 2) := by decide +kernel
theorem de_L_law_711 : decode code 711 = .ok (.iconst 2, 1) := by decide +kernel
theorem de_L_law_712 : decode code 712 = .ok (.iadd, 1) := by decide +kernel
theorem de_L_law_713 : decode code 713 = .ok (.iaload, 1) := by decide +kernel
theorem de_L_law_714 : decode code 714 = .ok (.aload_n 0, 1) := by decide +kernel
theorem de_L_law_715 : decode code 715 = .ok (.iload 4, 2) := by decide +kernel
theorem de_L_law_717 : decode code 717 = .ok (.iconst 3, 1) := by decide +kernel
theorem de_L_law_718 : decode code 718 = .ok (.iadd, 1) := by decide +kernel
theorem de_L_law_719 : decode code 719 = .ok (.iaload, 1) := by decide +kernel
theorem de_L_law_720 : decode code 720 = .ok (.aload_n 0, 1) := by decide +kernel
theorem de_L_law_721 : decode code 721 = .ok (.iload 4, 2) := by decide +kernel
theorem de_L_law_723 : decode code 723 = .ok (.iconst 4, 1) := by decide +kernel
theorem de_L_law_724 : decode code 724 = .ok (.iadd, 1) := by decide +kernel
theorem de_L_law_725 : decode code 725 = .ok (.iaload, 1) := by decide +kernel
theorem de_L_law_726 : decode code 726 = .ok (.invokevirtual 118, 3) := by decide +kernel
theorem de_L_law_729 : decode code 729 = .ok (.istore 6, 2) := by decide +kernel
theorem de_L_law_731 : decode code 731 = .ok (.aload_n 2, 1) := by decide +kernel
theorem de_L_law_732 : decode code 732 = .ok (.invokevirtual 70, 3) := by decide +kernel
theorem de_L_law_735 : decode code 735 = .ok (.iload 5, 2) := by decide +kernel
theorem de_L_law_737 : decode code 737 = .ok (.if_icmp .eq 5, 3) := by decide +kernel
theorem de_L_law_740 : decode code 740 = .ok (.iconst 0, 1) := by decide +kernel
theorem de_L_law_741 : decode code 741 = .ok (.ireturn, 1) := by decide +kernel
theorem de_L_law_742 : decode code 742 = .ok (.iload 5, 2) := by decide +kernel
theorem de_L_law_744 : decode code 744 = .ok (.ifCond .ne 15, 3) := by decide +kernel
theorem de_L_law_747 : decode code 747 = .ok (.aload_n 3, 1) := by decide +kernel
theorem de_L_law_748 : decode code 748 = .ok (.iconst 0, 1) := by decide +kernel
theorem de_L_law_749 : decode code 749 = .ok (.laload, 1) := by decide +kernel
theorem de_L_law_750 : decode code 750 = .ok (.iload 6, 2) := by decide +kernel
theorem de_L_law_752 : decode code 752 = .ok (.i2l, 1) := by decide +kernel
theorem de_L_law_753 : decode code 753 = .ok (.lcmp, 1) := by decide +kernel
theorem de_L_law_754 : decode code 754 = .ok (.ifCond .eq 5, 3) := by decide +kernel
theorem de_L_law_757 : decode code 757 = .ok (.iconst 0, 1) := by decide +kernel
theorem de_L_law_758 : decode code 758 = .ok (.ireturn, 1) := by decide +kernel
theorem de_L_law_759 : decode code 759 = .ok (.goto 71, 3) := by decide +kernel
theorem de_L_law_762 : decode code 762 = .ok (.aload_n 1, 1) := by decide +kernel
theorem de_L_law_763 : decode code 763 = .ok (.aload_n 0, 1) := by decide +kernel
theorem de_L_law_764 : decode code 764 = .ok (.iload 4, 2) := by decide +kernel
theorem de_L_law_766 : decode code 766 = .ok (.iconst 1, 1) := by decide +kernel
theorem de_L_law_767 : decode code 767 = .ok (.iadd, 1) := by decide +kernel
theorem de_L_law_768 : decode code 768 = .ok (.iaload, 1) := by decide +kernel
theorem de_L_law_769 : decode code 769 = .ok (.aload_n 0, 1) := by decide +kernel
theorem de_L_law_770 : decode code 770 = .ok (.iload 4, 2) := by decide +kernel
theorem de_L_law_772 : decode code 772 = .ok (.iconst 2, 1) := by decide +kernel
theorem de_L_law_773 : decode code 773 = .ok (.iadd, 1) := by decide +kernel
theorem de_L_law_774 : decode code 774 = .ok (.iaload, 1) := by decide +kernel
theorem de_L_law_775 : decode code 775 = .ok (.aload_n 3, 1) := by decide +kernel
theorem de_L_law_776 : decode code 776 = .ok (.invokestatic 119, 3) := by decide +kernel
theorem de_L_law_779 : decode code 779 = .ok (.istore 5, 2) := by decide +kernel
theorem de_L_law_781 : decode code 781 = .ok (.aload_n 2, 1) := by decide +kernel
theorem de_L_law_782 : decode code 782 = .ok (.aload_n 0, 1) := by decide +kernel
theorem de_L_law_783 : decode code 783 = .ok (.iload 4, 2) := by decide +kernel
theorem de_L_law_785 : decode code 785 = .ok (.iconst 1, 1) := by decide +kernel
theorem de_L_law_786 : decode code 786 = .ok (.iadd, 1) := by decide +kernel
theorem de_L_law_787 : decode code 787 = .ok (.iaload, 1) := by decide +kernel
theorem de_L_law_788 : decode code 788 = .ok (.aload_n 0, 1) := by decide +kernel
theorem de_L_law_789 : decode code 789 = .ok (.iload 4, 2) := by decide +kernel
theorem de_L_law_791 : decode code 791 = .ok (.iconst 2, 1) := by decide +kernel
theorem de_L_law_792 : decode code 792 = .ok (.iadd, 1) := by decide +kernel
theorem de_L_law_793 : decode code 793 = .ok (.iaload, 1) := by decide +kernel
theorem de_L_law_794 : decode code 794 = .ok (.invokevirtual 121, 3) := by decide +kernel
theorem de_L_law_797 : decode code 797 = .ok (.istore 6, 2) := by decide +kernel
theorem de_L_law_799 : decode code 799 = .ok (.aload_n 2, 1) := by decide +kernel
theorem de_L_law_800 : decode code 800 = .ok (.invokevirtual 70, 3) := by decide +kernel
theorem de_L_law_803 : decode code 803 = .ok (.iload 5, 2) := by decide +kernel
theorem de_L_law_805 : decode code 805 = .ok (.if_icmp .eq 5, 3) := by decide +kernel
theorem de_L_law_808 : decode code 808 = .ok (.iconst 0, 1) := by decide +kernel
theorem de_L_law_809 : decode code 809 = .ok (.ireturn, 1) := by decide +kernel
theorem de_L_law_810 : decode code 810 = .ok (.iload 5, 2) := by decide +kernel
theorem de_L_law_812 : decode code 812 = .ok (.ifCond .ne 15, 3) := by decide +kernel
theorem de_L_law_815 : decode code 815 = .ok (.aload_n 3, 1) := by decide +kernel
theorem de_L_law_816 : decode code 816 = .ok (.iconst 0, 1) := by decide +kernel
theorem de_L_law_817 : decode code 817 = .ok (.laload, 1) := by decide +kernel
theorem de_L_law_818 : decode code 818 = .ok (.iload 6, 2) := by decide +kernel
theorem de_L_law_820 : decode code 820 = .ok (.i2l, 1) := by decide +kernel
theorem de_L_law_821 : decode code 821 = .ok (.lcmp, 1) := by decide +kernel
theorem de_L_law_822 : decode code 822 = .ok (.ifCond .eq 5, 3) := by decide +kernel
theorem de_L_law_825 : decode code 825 = .ok (.iconst 0, 1) := by decide +kernel
theorem de_L_law_826 : decode code 826 = .ok (.ireturn, 1) := by decide +kernel
theorem de_L_law_827 : decode code 827 = .ok (.goto 3, 3) := by decide +kernel
theorem de_L_law_830 : decode code 830 = .ok (.iinc 4 5, 3) := by decide +kernel
theorem de_L_law_833 : decode code 833 = .ok (.goto (-810), 3) := by decide +kernel
theorem de_L_law_836 : decode code 836 = .ok (.iconst 1, 1) := by decide +kernel
theorem de_L_law_837 : decode code 837 = .ok (.ireturn, 1) := by decide +kernel
