/-! decode rows (printed by gen/mk_names.py) -/
theorem de_M_init_0 : decode mb_M_init 0 = .ok (.aload_n 0, 1) := by decide +kernel
theorem de_M_init_1 : decode mb_M_init 1 = .ok (.invokespecial 1, 3) := by decide +kernel
theorem de_M_init_4 : decode mb_M_init 4 = .ok (.aload_n 0, 1) := by decide +kernel
theorem de_M_init_5 : decode mb_M_init 5 = .ok (.iconst (-1), 1) := by decide +kernel
theorem de_M_init_6 : decode mb_M_init 6 = .ok (.putfield 7, 3) := by decide +kernel
theorem de_M_init_9 : decode mb_M_init 9 = .ok (.aload_n 0, 1) := by decide +kernel
theorem de_M_init_10 : decode mb_M_init 10 = .ok (.sipush 700, 3) := by decide +kernel
theorem de_M_init_13 : decode mb_M_init 13 = .ok (.newarray .int, 2) := by decide +kernel
theorem de_M_init_15 : decode mb_M_init 15 = .ok (.putfield 13, 3) := by decide +kernel
theorem de_M_init_18 : decode mb_M_init 18 = .ok (.aload_n 0, 1) := by decide +kernel
theorem de_M_init_19 : decode mb_M_init 19 = .ok (.sipush 700, 3) := by decide +kernel
theorem de_M_init_22 : decode mb_M_init 22 = .ok (.newarray .int, 2) := by decide +kernel
theorem de_M_init_24 : decode mb_M_init 24 = .ok (.putfield 17, 3) := by decide +kernel
theorem de_M_init_27 : decode mb_M_init 27 = .ok (.aload_n 0, 1) := by decide +kernel
theorem de_M_init_28 : decode mb_M_init 28 = .ok (.sipush 700, 3) := by decide +kernel
theorem de_M_init_31 : decode mb_M_init 31 = .ok (.newarray .int, 2) := by decide +kernel
theorem de_M_init_33 : decode mb_M_init 33 = .ok (.putfield 20, 3) := by decide +kernel
theorem de_M_init_36 : decode mb_M_init 36 = .ok (.aload_n 0, 1) := by decide +kernel
theorem de_M_init_37 : decode mb_M_init 37 = .ok (.sipush 5000, 3) := by decide +kernel
theorem de_M_init_40 : decode mb_M_init 40 = .ok (.newarray .int, 2) := by decide +kernel
theorem de_M_init_42 : decode mb_M_init 42 = .ok (.putfield 23, 3) := by decide +kernel
theorem de_M_init_45 : decode mb_M_init 45 = .ok (.aload_n 0, 1) := by decide +kernel
theorem de_M_init_46 : decode mb_M_init 46 = .ok (.bipush 6, 2) := by decide +kernel
theorem de_M_init_48 : decode mb_M_init 48 = .ok (.newarray .int, 2) := by decide +kernel
theorem de_M_init_50 : decode mb_M_init 50 = .ok (.putfield 26, 3) := by decide +kernel
theorem de_M_init_53 : decode mb_M_init 53 = .ok (.aload_n 0, 1) := by decide +kernel
theorem de_M_init_54 : decode mb_M_init 54 = .ok (.bipush 16, 2) := by decide +kernel
theorem de_M_init_56 : decode mb_M_init 56 = .ok (.newarray .int, 2) := by decide +kernel
theorem de_M_init_58 : decode mb_M_init 58 = .ok (.putfield 29, 3) := by decide +kernel
theorem de_M_init_61 : decode mb_M_init 61 = .ok (.aload_n 0, 1) := by decide +kernel
theorem de_M_init_62 : decode mb_M_init 62 = .ok (.sipush 700, 3) := by decide +kernel
theorem de_M_init_65 : decode mb_M_init 65 = .ok (.newarray .int, 2) := by decide +kernel
theorem de_M_init_67 : decode mb_M_init 67 = .ok (.putfield 32, 3) := by decide +kernel
theorem de_M_init_70 : decode mb_M_init 70 = .ok (.aload_n 0, 1) := by decide +kernel
theorem de_M_init_71 : decode mb_M_init 71 = .ok (.sipush 700, 3) := by decide +kernel
theorem de_M_init_74 : decode mb_M_init 74 = .ok (.newarray .long, 2) := by decide +kernel
theorem de_M_init_76 : decode mb_M_init 76 = .ok (.putfield 35, 3) := by decide +kernel
theorem de_M_init_79 : decode mb_M_init 79 = .ok (.aload_n 0, 1) := by decide +kernel
theorem de_M_init_80 : decode mb_M_init 80 = .ok (.bipush 16, 2) := by decide +kernel
theorem de_M_init_82 : decode mb_M_init 82 = .ok (.newarray .long, 2) := by decide +kernel
theorem de_M_init_84 : decode mb_M_init 84 = .ok (.putfield 39, 3) := by decide +kernel
theorem de_M_init_87 : decode mb_M_init 87 = .ok (.aload_n 0, 1) := by decide +kernel
theorem de_M_init_88 : decode mb_M_init 88 = .ok (.sipush 700, 3) := by decide +kernel
theorem de_M_init_91 : decode mb_M_init 91 = .ok (.newarray .boolean, 2) := by decide +kernel
theorem de_M_init_93 : decode mb_M_init 93 = .ok (.putfield 42, 3) := by decide +kernel
theorem de_M_init_96 : decode mb_M_init 96 = .ok (.aload_n 0, 1) := by decide +kernel
theorem de_M_init_97 : decode mb_M_init 97 = .ok (.bipush 6, 2) := by decide +kernel
theorem de_M_init_99 : decode mb_M_init 99 = .ok (.newarray .boolean, 2) := by decide +kernel
theorem de_M_init_101 : decode mb_M_init 101 = .ok (.putfield 46, 3) := by decide +kernel
theorem de_M_init_104 : decode mb_M_init 104 = .ok (.aload_n 0, 1) := by decide +kernel
theorem de_M_init_105 : decode mb_M_init 105 = .ok (.bipush 16, 2) := by decide +kernel
theorem de_M_init_107 : decode mb_M_init 107 = .ok (.newarray .boolean, 2) := by decide +kernel
theorem de_M_init_109 : decode mb_M_init 109 = .ok (.putfield 49, 3) := by decide +kernel
theorem de_M_init_112 : decode mb_M_init 112 = .ok (.aload_n 0, 1) := by decide +kernel
theorem de_M_init_113 : decode mb_M_init 113 = .ok (.sipush 700, 3) := by decide +kernel
theorem de_M_init_116 : decode mb_M_init 116 = .ok (.newarray .boolean, 2) := by decide +kernel
theorem de_M_init_118 : decode mb_M_init 118 = .ok (.putfield 52, 3) := by decide +kernel
theorem de_M_init_121 : decode mb_M_init 121 = .ok (.aload_n 0, 1) := by decide +kernel
theorem de_M_init_122 : decode mb_M_init 122 = .ok (.sipush 6000, 3) := by decide +kernel
theorem de_M_init_125 : decode mb_M_init 125 = .ok (.newarray .boolean, 2) := by decide +kernel
theorem de_M_init_127 : decode mb_M_init 127 = .ok (.putfield 55, 3) := by decide +kernel
theorem de_M_init_130 : decode mb_M_init 130 = .ok (.return_, 1) := by decide +kernel
theorem de_M_thrown_0 : decode mb_M_thrown 0 = .ok (.aload_n 0, 1) := by decide +kernel
theorem de_M_thrown_1 : decode mb_M_thrown 1 = .ok (.getfield 58, 3) := by decide +kernel
theorem de_M_thrown_4 : decode mb_M_thrown 4 = .ok (.ireturn, 1) := by decide +kernel
theorem de_M_put_0 : decode mb_M_put 0 = .ok (.aload_n 0, 1) := by decide +kernel
theorem de_M_put_1 : decode mb_M_put 1 = .ok (.iload_n 1, 1) := by decide +kernel
theorem de_M_put_2 : decode mb_M_put 2 = .ok (.lload_n 2, 1) := by decide +kernel
theorem de_M_put_3 : decode mb_M_put 3 = .ok (.iconst 0, 1) := by decide +kernel
theorem de_M_put_4 : decode mb_M_put 4 = .ok (.invokevirtual 87, 3) := by decide +kernel
theorem de_M_put_7 : decode mb_M_put 7 = .ok (.ireturn, 1) := by decide +kernel
theorem de_M_written_0 : decode mb_M_written 0 = .ok (.aload_n 0, 1) := by decide +kernel
theorem de_M_written_1 : decode mb_M_written 1 = .ok (.iconst 0, 1) := by decide +kernel
theorem de_M_written_2 : decode mb_M_written 2 = .ok (.putfield 58, 3) := by decide +kernel
theorem de_M_written_5 : decode mb_M_written 5 = .ok (.aload_n 0, 1) := by decide +kernel
theorem de_M_written_6 : decode mb_M_written 6 = .ok (.iload_n 1, 1) := by decide +kernel
theorem de_M_written_7 : decode mb_M_written 7 = .ok (.iconst 0, 1) := by decide +kernel
theorem de_M_written_8 : decode mb_M_written 8 = .ok (.sipush 1023, 3) := by decide +kernel
theorem de_M_written_11 : decode mb_M_written 11 = .ok (.invokestatic 67, 3) := by decide +kernel
theorem de_M_written_14 : decode mb_M_written 14 = .ok (.ifCond .ne 7, 3) := by decide +kernel
theorem de_M_written_17 : decode mb_M_written 17 = .ok (.iconst 1, 1) := by decide +kernel
theorem de_M_written_18 : decode mb_M_written 18 = .ok (.goto 4, 3) := by decide +kernel
theorem de_M_written_21 : decode mb_M_written 21 = .ok (.iconst 0, 1) := by decide +kernel
theorem de_M_written_22 : decode mb_M_written 22 = .ok (.iconst 1, 1) := by decide +kernel
theorem de_M_written_23 : decode mb_M_written 23 = .ok (.invokevirtual 71, 3) := by decide +kernel
theorem de_M_written_26 : decode mb_M_written 26 = .ok (.ifCond .ne 50, 3) := by decide +kernel
theorem de_M_written_29 : decode mb_M_written 29 = .ok (.aload_n 0, 1) := by decide +kernel
theorem de_M_written_30 : decode mb_M_written 30 = .ok (.aload_n 0, 1) := by decide +kernel
theorem de_M_written_31 : decode mb_M_written 31 = .ok (.getfield 7, 3) := by decide +kernel
theorem de_M_written_34 : decode mb_M_written 34 = .ok (.ifCond .lt 20, 3) := by decide +kernel
theorem de_M_written_37 : decode mb_M_written 37 = .ok (.aload_n 0, 1) := by decide +kernel
theorem de_M_written_38 : decode mb_M_written 38 = .ok (.getfield 7, 3) := by decide +kernel
theorem de_M_written_41 : decode mb_M_written 41 = .ok (.bipush 16, 2) := by decide +kernel
theorem de_M_written_43 : decode mb_M_written 43 = .ok (.if_icmp .ne 7, 3) := by decide +kernel
theorem de_M_written_46 : decode mb_M_written 46 = .ok (.iconst 1, 1) := by decide +kernel
theorem de_M_written_47 : decode mb_M_written 47 = .ok (.goto 22, 3) := by decide +kernel
theorem de_M_written_50 : decode mb_M_written 50 = .ok (.iconst 0, 1) := by decide +kernel
theorem de_M_written_51 : decode mb_M_written 51 = .ok (.goto 18, 3) := by decide +kernel
theorem de_M_written_54 : decode mb_M_written 54 = .ok (.aload_n 0, 1) := by decide +kernel
theorem de_M_written_55 : decode mb_M_written 55 = .ok (.getfield 61, 3) := by decide +kernel
theorem de_M_written_58 : decode mb_M_written 58 = .ok (.sipush 600, 3) := by decide +kernel
theorem de_M_written_61 : decode mb_M_written 61 = .ok (.if_icmp .lt 7, 3) := by decide +kernel
theorem de_M_written_64 : decode mb_M_written 64 = .ok (.iconst 1, 1) := by decide +kernel
theorem de_M_written_65 : decode mb_M_written 65 = .ok (.goto 4, 3) := by decide +kernel
theorem de_M_written_68 : decode mb_M_written 68 = .ok (.iconst 0, 1) := by decide +kernel
theorem de_M_written_69 : decode mb_M_written 69 = .ok (.iconst 2, 1) := by decide +kernel
theorem de_M_written_70 : decode mb_M_written 70 = .ok (.invokevirtual 71, 3) := by decide +kernel
theorem de_M_written_73 : decode mb_M_written 73 = .ok (.ifCond .eq 5, 3) := by decide +kernel
theorem de_M_written_76 : decode mb_M_written 76 = .ok (.iconst 0, 1) := by decide +kernel
theorem de_M_written_77 : decode mb_M_written 77 = .ok (.ireturn, 1) := by decide +kernel
theorem de_M_written_78 : decode mb_M_written 78 = .ok (.aload_n 0, 1) := by decide +kernel
theorem de_M_written_79 : decode mb_M_written 79 = .ok (.getfield 7, 3) := by decide +kernel
theorem de_M_written_82 : decode mb_M_written 82 = .ok (.ifCond .lt 46, 3) := by decide +kernel
theorem de_M_written_85 : decode mb_M_written 85 = .ok (.aload_n 0, 1) := by decide +kernel
theorem de_M_written_86 : decode mb_M_written 86 = .ok (.getfield 29, 3) := by decide +kernel
theorem de_M_written_89 : decode mb_M_written 89 = .ok (.aload_n 0, 1) := by decide +kernel
theorem de_M_written_90 : decode mb_M_written 90 = .ok (.getfield 7, 3) := by decide +kernel
theorem de_M_written_93 : decode mb_M_written 93 = .ok (.iload_n 1, 1) := by decide +kernel
theorem de_M_written_94 : decode mb_M_written 94 = .ok (.iastore, 1) := by decide +kernel
theorem de_M_written_95 : decode mb_M_written 95 = .ok (.aload_n 0, 1) := by decide +kernel
theorem de_M_written_96 : decode mb_M_written 96 = .ok (.getfield 39, 3) := by decide +kernel
theorem de_M_written_99 : decode mb_M_written 99 = .ok (.aload_n 0, 1) := by decide +kernel
theorem de_M_written_100 : decode mb_M_written 100 = .ok (.getfield 7, 3) := by decide +kernel
theorem de_M_written_103 : decode mb_M_written 103 = .ok (.lload_n 2, 1) := by decide +kernel
theorem de_M_written_104 : decode mb_M_written 104 = .ok (.lastore, 1) := by decide +kernel
theorem de_M_written_105 : decode mb_M_written 105 = .ok (.aload_n 0, 1) := by decide +kernel
theorem de_M_written_106 : decode mb_M_written 106 = .ok (.getfield 49, 3) := by decide +kernel
theorem de_M_written_109 : decode mb_M_written 109 = .ok (.aload_n 0, 1) := by decide +kernel
theorem de_M_written_110 : decode mb_M_written 110 = .ok (.getfield 7, 3) := by decide +kernel
theorem de_M_written_113 : decode mb_M_written 113 = .ok (.iload 4, 2) := by decide +kernel
theorem de_M_written_115 : decode mb_M_written 115 = .ok (.bastore, 1) := by decide +kernel
theorem de_M_written_116 : decode mb_M_written 116 = .ok (.aload_n 0, 1) := by decide +kernel
theorem de_M_written_117 : decode mb_M_written 117 = .ok (.dup, 1) := by decide +kernel
theorem de_M_written_118 : decode mb_M_written 118 = .ok (.getfield 7, 3) := by decide +kernel
theorem de_M_written_121 : decode mb_M_written 121 = .ok (.iconst 1, 1) := by decide +kernel
theorem de_M_written_122 : decode mb_M_written 122 = .ok (.iadd, 1) := by decide +kernel
theorem de_M_written_123 : decode mb_M_written 123 = .ok (.dup_x1, 1) := by decide +kernel
theorem de_M_written_124 : decode mb_M_written 124 = .ok (.putfield 7, 3) := by decide +kernel
theorem de_M_written_127 : decode mb_M_written 127 = .ok (.ireturn, 1) := by decide +kernel
theorem de_M_written_128 : decode mb_M_written 128 = .ok (.aload_n 0, 1) := by decide +kernel
theorem de_M_written_129 : decode mb_M_written 129 = .ok (.iload_n 1, 1) := by decide +kernel
theorem de_M_written_130 : decode mb_M_written 130 = .ok (.lload_n 2, 1) := by decide +kernel
theorem de_M_written_131 : decode mb_M_written 131 = .ok (.iload 4, 2) := by decide +kernel
theorem de_M_written_133 : decode mb_M_written 133 = .ok (.invokevirtual 75, 3) := by decide +kernel
theorem de_M_written_136 : decode mb_M_written 136 = .ok (.aload_n 0, 1) := by decide +kernel
theorem de_M_written_137 : decode mb_M_written 137 = .ok (.iconst (-1), 1) := by decide +kernel
theorem de_M_written_138 : decode mb_M_written 138 = .ok (.invokevirtual 79, 3) := by decide +kernel
theorem de_M_written_141 : decode mb_M_written 141 = .ok (.bipush 24, 2) := by decide +kernel
theorem de_M_written_143 : decode mb_M_written 143 = .ok (.if_icmp .lt 8, 3) := by decide +kernel
theorem de_M_written_146 : decode mb_M_written 146 = .ok (.aload_n 0, 1) := by decide +kernel
theorem de_M_written_147 : decode mb_M_written 147 = .ok (.invokevirtual 83, 3) := by decide +kernel
theorem de_M_written_150 : decode mb_M_written 150 = .ok (.pop, 1) := by decide +kernel
theorem de_M_written_151 : decode mb_M_written 151 = .ok (.aload_n 0, 1) := by decide +kernel
theorem de_M_written_152 : decode mb_M_written 152 = .ok (.getfield 64, 3) := by decide +kernel
theorem de_M_written_155 : decode mb_M_written 155 = .ok (.ireturn, 1) := by decide +kernel
theorem de_M_in_0 : decode mb_M_in 0 = .ok (.iload_n 0, 1) := by decide +kernel
theorem de_M_in_1 : decode mb_M_in 1 = .ok (.iload_n 1, 1) := by decide +kernel
theorem de_M_in_2 : decode mb_M_in 2 = .ok (.if_icmp .lt 12, 3) := by decide +kernel
theorem de_M_in_5 : decode mb_M_in 5 = .ok (.iload_n 0, 1) := by decide +kernel
theorem de_M_in_6 : decode mb_M_in 6 = .ok (.iload_n 2, 1) := by decide +kernel
theorem de_M_in_7 : decode mb_M_in 7 = .ok (.if_icmp .gt 7, 3) := by decide +kernel
theorem de_M_in_10 : decode mb_M_in 10 = .ok (.iconst 1, 1) := by decide +kernel
theorem de_M_in_11 : decode mb_M_in 11 = .ok (.goto 4, 3) := by decide +kernel
theorem de_M_in_14 : decode mb_M_in 14 = .ok (.iconst 0, 1) := by decide +kernel
theorem de_M_in_15 : decode mb_M_in 15 = .ok (.ireturn, 1) := by decide +kernel
theorem de_M_fails_0 : decode mb_M_fails 0 = .ok (.iload_n 1, 1) := by decide +kernel
theorem de_M_fails_1 : decode mb_M_fails 1 = .ok (.ifCond .eq 15, 3) := by decide +kernel
theorem de_M_fails_4 : decode mb_M_fails 4 = .ok (.aload_n 0, 1) := by decide +kernel
theorem de_M_fails_5 : decode mb_M_fails 5 = .ok (.getfield 58, 3) := by decide +kernel
theorem de_M_fails_8 : decode mb_M_fails 8 = .ok (.ifCond .ne 8, 3) := by decide +kernel
theorem de_M_fails_11 : decode mb_M_fails 11 = .ok (.aload_n 0, 1) := by decide +kernel
theorem de_M_fails_12 : decode mb_M_fails 12 = .ok (.iload_n 2, 1) := by decide +kernel
theorem de_M_fails_13 : decode mb_M_fails 13 = .ok (.putfield 58, 3) := by decide +kernel
theorem de_M_fails_16 : decode mb_M_fails 16 = .ok (.aload_n 0, 1) := by decide +kernel
theorem de_M_fails_17 : decode mb_M_fails 17 = .ok (.getfield 58, 3) := by decide +kernel
theorem de_M_fails_20 : decode mb_M_fails 20 = .ok (.ifCond .eq 7, 3) := by decide +kernel
theorem de_M_fails_23 : decode mb_M_fails 23 = .ok (.iconst 1, 1) := by decide +kernel
theorem de_M_fails_24 : decode mb_M_fails 24 = .ok (.goto 4, 3) := by decide +kernel
theorem de_M_fails_27 : decode mb_M_fails 27 = .ok (.iconst 0, 1) := by decide +kernel
theorem de_M_fails_28 : decode mb_M_fails 28 = .ok (.ireturn, 1) := by decide +kernel
theorem de_M_write_0 : decode mb_M_write 0 = .ok (.aload_n 0, 1) := by decide +kernel
theorem de_M_write_1 : decode mb_M_write 1 = .ok (.getfield 13, 3) := by decide +kernel
theorem de_M_write_4 : decode mb_M_write 4 = .ok (.aload_n 0, 1) := by decide +kernel
theorem de_M_write_5 : decode mb_M_write 5 = .ok (.getfield 61, 3) := by decide +kernel
theorem de_M_write_8 : decode mb_M_write 8 = .ok (.iload_n 1, 1) := by decide +kernel
theorem de_M_write_9 : decode mb_M_write 9 = .ok (.iastore, 1) := by decide +kernel
theorem de_M_write_10 : decode mb_M_write 10 = .ok (.aload_n 0, 1) := by decide +kernel
theorem de_M_write_11 : decode mb_M_write 11 = .ok (.getfield 17, 3) := by decide +kernel
theorem de_M_write_14 : decode mb_M_write 14 = .ok (.aload_n 0, 1) := by decide +kernel
theorem de_M_write_15 : decode mb_M_write 15 = .ok (.getfield 61, 3) := by decide +kernel
theorem de_M_write_18 : decode mb_M_write 18 = .ok (.aload_n 0, 1) := by decide +kernel
theorem de_M_write_19 : decode mb_M_write 19 = .ok (.dup, 1) := by decide +kernel
theorem de_M_write_20 : decode mb_M_write 20 = .ok (.getfield 64, 3) := by decide +kernel
theorem de_M_write_23 : decode mb_M_write 23 = .ok (.iconst 1, 1) := by decide +kernel
theorem de_M_write_24 : decode mb_M_write 24 = .ok (.iadd, 1) := by decide +kernel
theorem de_M_write_25 : decode mb_M_write 25 = .ok (.dup_x1, 1) := by decide +kernel
theorem de_M_write_26 : decode mb_M_write 26 = .ok (.putfield 64, 3) := by decide +kernel
theorem de_M_write_29 : decode mb_M_write 29 = .ok (.iastore, 1) := by decide +kernel
theorem de_M_write_30 : decode mb_M_write 30 = .ok (.aload_n 0, 1) := by decide +kernel
theorem de_M_write_31 : decode mb_M_write 31 = .ok (.getfield 35, 3) := by decide +kernel
theorem de_M_write_34 : decode mb_M_write 34 = .ok (.aload_n 0, 1) := by decide +kernel
theorem de_M_write_35 : decode mb_M_write 35 = .ok (.getfield 61, 3) := by decide +kernel
theorem de_M_write_38 : decode mb_M_write 38 = .ok (.lload_n 2, 1) := by decide +kernel
theorem de_M_write_39 : decode mb_M_write 39 = .ok (.lastore, 1) := by decide +kernel
theorem de_M_write_40 : decode mb_M_write 40 = .ok (.aload_n 0, 1) := by decide +kernel
theorem de_M_write_41 : decode mb_M_write 41 = .ok (.getfield 42, 3) := by decide +kernel
theorem de_M_write_44 : decode mb_M_write 44 = .ok (.aload_n 0, 1) := by decide +kernel
theorem de_M_write_45 : decode mb_M_write 45 = .ok (.getfield 61, 3) := by decide +kernel
theorem de_M_write_48 : decode mb_M_write 48 = .ok (.iload 4, 2) := by decide +kernel
theorem de_M_write_50 : decode mb_M_write 50 = .ok (.bastore, 1) := by decide +kernel
theorem de_M_write_51 : decode mb_M_write 51 = .ok (.aload_n 0, 1) := by decide +kernel
theorem de_M_write_52 : decode mb_M_write 52 = .ok (.getfield 20, 3) := by decide +kernel
theorem de_M_write_55 : decode mb_M_write 55 = .ok (.aload_n 0, 1) := by decide +kernel
theorem de_M_write_56 : decode mb_M_write 56 = .ok (.dup, 1) := by decide +kernel
theorem de_M_write_57 : decode mb_M_write 57 = .ok (.getfield 61, 3) := by decide +kernel
theorem de_M_write_60 : decode mb_M_write 60 = .ok (.dup_x1, 1) := by decide +kernel
theorem de_M_write_61 : decode mb_M_write 61 = .ok (.iconst 1, 1) := by decide +kernel
theorem de_M_write_62 : decode mb_M_write 62 = .ok (.iadd, 1) := by decide +kernel
theorem de_M_write_63 : decode mb_M_write 63 = .ok (.putfield 61, 3) := by decide +kernel
theorem de_M_write_66 : decode mb_M_write 66 = .ok (.iconst (-1), 1) := by decide +kernel
theorem de_M_write_67 : decode mb_M_write 67 = .ok (.iastore, 1) := by decide +kernel
theorem de_M_write_68 : decode mb_M_write 68 = .ok (.return_, 1) := by decide +kernel
theorem de_M_inRun_0 : decode mb_M_inRun 0 = .ok (.iconst 0, 1) := by decide +kernel
theorem de_M_inRun_1 : decode mb_M_inRun 1 = .ok (.istore_n 2, 1) := by decide +kernel
theorem de_M_inRun_2 : decode mb_M_inRun 2 = .ok (.iconst 0, 1) := by decide +kernel
theorem de_M_inRun_3 : decode mb_M_inRun 3 = .ok (.istore_n 3, 1) := by decide +kernel
theorem de_M_inRun_4 : decode mb_M_inRun 4 = .ok (.iload_n 3, 1) := by decide +kernel
theorem de_M_inRun_5 : decode mb_M_inRun 5 = .ok (.aload_n 0, 1) := by decide +kernel
theorem de_M_inRun_6 : decode mb_M_inRun 6 = .ok (.getfield 61, 3) := by decide +kernel
theorem de_M_inRun_9 : decode mb_M_inRun 9 = .ok (.if_icmp .ge 22, 3) := by decide +kernel
theorem de_M_inRun_12 : decode mb_M_inRun 12 = .ok (.aload_n 0, 1) := by decide +kernel
theorem de_M_inRun_13 : decode mb_M_inRun 13 = .ok (.getfield 20, 3) := by decide +kernel
theorem de_M_inRun_16 : decode mb_M_inRun 16 = .ok (.iload_n 3, 1) := by decide +kernel
theorem de_M_inRun_17 : decode mb_M_inRun 17 = .ok (.iaload, 1) := by decide +kernel
theorem de_M_inRun_18 : decode mb_M_inRun 18 = .ok (.iload_n 1, 1) := by decide +kernel
theorem de_M_inRun_19 : decode mb_M_inRun 19 = .ok (.if_icmp .ne 6, 3) := by decide +kernel
theorem de_M_inRun_22 : decode mb_M_inRun 22 = .ok (.iinc 2 1, 3) := by decide +kernel
theorem de_M_inRun_25 : decode mb_M_inRun 25 = .ok (.iinc 3 1, 3) := by decide +kernel
theorem de_M_inRun_28 : decode mb_M_inRun 28 = .ok (.goto (-24), 3) := by decide +kernel
theorem de_M_inRun_31 : decode mb_M_inRun 31 = .ok (.iload_n 2, 1) := by decide +kernel
theorem de_M_inRun_32 : decode mb_M_inRun 32 = .ok (.ireturn, 1) := by decide +kernel
theorem de_M_flushed_0 : decode mb_M_flushed 0 = .ok (.iconst 0, 1) := by decide +kernel
theorem de_M_flushed_1 : decode mb_M_flushed 1 = .ok (.istore_n 1, 1) := by decide +kernel
theorem de_M_flushed_2 : decode mb_M_flushed 2 = .ok (.iconst 0, 1) := by decide +kernel
theorem de_M_flushed_3 : decode mb_M_flushed 3 = .ok (.istore_n 2, 1) := by decide +kernel
theorem de_M_flushed_4 : decode mb_M_flushed 4 = .ok (.iload_n 2, 1) := by decide +kernel
theorem de_M_flushed_5 : decode mb_M_flushed 5 = .ok (.aload_n 0, 1) := by decide +kernel
theorem de_M_flushed_6 : decode mb_M_flushed 6 = .ok (.getfield 61, 3) := by decide +kernel
theorem de_M_flushed_9 : decode mb_M_flushed 9 = .ok (.if_icmp .ge 31, 3) := by decide +kernel
theorem de_M_flushed_12 : decode mb_M_flushed 12 = .ok (.aload_n 0, 1) := by decide +kernel
theorem de_M_flushed_13 : decode mb_M_flushed 13 = .ok (.getfield 20, 3) := by decide +kernel
theorem de_M_flushed_16 : decode mb_M_flushed 16 = .ok (.iload_n 2, 1) := by decide +kernel
theorem de_M_flushed_17 : decode mb_M_flushed 17 = .ok (.iaload, 1) := by decide +kernel
theorem de_M_flushed_18 : decode mb_M_flushed 18 = .ok (.ifCond .ge 16, 3) := by decide +kernel
theorem de_M_flushed_21 : decode mb_M_flushed 21 = .ok (.aload_n 0, 1) := by decide +kernel
theorem de_M_flushed_22 : decode mb_M_flushed 22 = .ok (.getfield 20, 3) := by decide +kernel
theorem de_M_flushed_25 : decode mb_M_flushed 25 = .ok (.iload_n 2, 1) := by decide +kernel
theorem de_M_flushed_26 : decode mb_M_flushed 26 = .ok (.aload_n 0, 1) := by decide +kernel
theorem de_M_flushed_27 : decode mb_M_flushed 27 = .ok (.getfield 91, 3) := by decide +kernel
theorem de_M_flushed_30 : decode mb_M_flushed 30 = .ok (.iastore, 1) := by decide +kernel
theorem de_M_flushed_31 : decode mb_M_flushed 31 = .ok (.iinc 1 1, 3) := by decide +kernel
theorem de_M_flushed_34 : decode mb_M_flushed 34 = .ok (.iinc 2 1, 3) := by decide +kernel
theorem de_M_flushed_37 : decode mb_M_flushed 37 = .ok (.goto (-33), 3) := by decide +kernel
theorem de_M_flushed_40 : decode mb_M_flushed 40 = .ok (.iload_n 1, 1) := by decide +kernel
theorem de_M_flushed_41 : decode mb_M_flushed 41 = .ok (.ifCond .le 20, 3) := by decide +kernel
theorem de_M_flushed_44 : decode mb_M_flushed 44 = .ok (.aload_n 0, 1) := by decide +kernel
theorem de_M_flushed_45 : decode mb_M_flushed 45 = .ok (.getfield 23, 3) := by decide +kernel
theorem de_M_flushed_48 : decode mb_M_flushed 48 = .ok (.aload_n 0, 1) := by decide +kernel
theorem de_M_flushed_49 : decode mb_M_flushed 49 = .ok (.dup, 1) := by decide +kernel
theorem de_M_flushed_50 : decode mb_M_flushed 50 = .ok (.getfield 91, 3) := by decide +kernel
theorem de_M_flushed_53 : decode mb_M_flushed 53 = .ok (.dup_x1, 1) := by decide +kernel
theorem de_M_flushed_54 : decode mb_M_flushed 54 = .ok (.iconst 1, 1) := by decide +kernel
theorem de_M_flushed_55 : decode mb_M_flushed 55 = .ok (.iadd, 1) := by decide +kernel
theorem de_M_flushed_56 : decode mb_M_flushed 56 = .ok (.putfield 91, 3) := by decide +kernel
theorem de_M_flushed_59 : decode mb_M_flushed 59 = .ok (.iconst 0, 1) := by decide +kernel
theorem de_M_flushed_60 : decode mb_M_flushed 60 = .ok (.iastore, 1) := by decide +kernel
theorem de_M_flushed_61 : decode mb_M_flushed 61 = .ok (.aload_n 0, 1) := by decide +kernel
theorem de_M_flushed_62 : decode mb_M_flushed 62 = .ok (.iconst 0, 1) := by decide +kernel
theorem de_M_flushed_63 : decode mb_M_flushed 63 = .ok (.putfield 94, 3) := by decide +kernel
theorem de_M_flushed_66 : decode mb_M_flushed 66 = .ok (.iload_n 1, 1) := by decide +kernel
theorem de_M_flushed_67 : decode mb_M_flushed 67 = .ok (.ireturn, 1) := by decide +kernel
theorem de_M_delete_0 : decode mb_M_delete 0 = .ok (.aload_n 0, 1) := by decide +kernel
theorem de_M_delete_1 : decode mb_M_delete 1 = .ok (.iload_n 1, 1) := by decide +kernel
theorem de_M_delete_2 : decode mb_M_delete 2 = .ok (.lconst 0, 1) := by decide +kernel
theorem de_M_delete_3 : decode mb_M_delete 3 = .ok (.iconst 1, 1) := by decide +kernel
theorem de_M_delete_4 : decode mb_M_delete 4 = .ok (.invokevirtual 87, 3) := by decide +kernel
theorem de_M_delete_7 : decode mb_M_delete 7 = .ok (.ireturn, 1) := by decide +kernel
theorem de_M_batch_0 : decode mb_M_batch 0 = .ok (.aload_n 0, 1) := by decide +kernel
theorem de_M_batch_1 : decode mb_M_batch 1 = .ok (.iconst 0, 1) := by decide +kernel
theorem de_M_batch_2 : decode mb_M_batch 2 = .ok (.putfield 58, 3) := by decide +kernel
theorem de_M_batch_5 : decode mb_M_batch 5 = .ok (.aload_n 0, 1) := by decide +kernel
theorem de_M_batch_6 : decode mb_M_batch 6 = .ok (.aload_n 0, 1) := by decide +kernel
theorem de_M_batch_7 : decode mb_M_batch 7 = .ok (.getfield 7, 3) := by decide +kernel
theorem de_M_batch_10 : decode mb_M_batch 10 = .ok (.ifCond .lt 7, 3) := by decide +kernel
theorem de_M_batch_13 : decode mb_M_batch 13 = .ok (.iconst 1, 1) := by decide +kernel
theorem de_M_batch_14 : decode mb_M_batch 14 = .ok (.goto 4, 3) := by decide +kernel
theorem de_M_batch_17 : decode mb_M_batch 17 = .ok (.iconst 0, 1) := by decide +kernel
theorem de_M_batch_18 : decode mb_M_batch 18 = .ok (.iconst 1, 1) := by decide +kernel
theorem de_M_batch_19 : decode mb_M_batch 19 = .ok (.invokevirtual 71, 3) := by decide +kernel
theorem de_M_batch_22 : decode mb_M_batch 22 = .ok (.ifCond .ne 8, 3) := by decide +kernel
theorem de_M_batch_25 : decode mb_M_batch 25 = .ok (.aload_n 0, 1) := by decide +kernel
theorem de_M_batch_26 : decode mb_M_batch 26 = .ok (.iconst 0, 1) := by decide +kernel
theorem de_M_batch_27 : decode mb_M_batch 27 = .ok (.putfield 7, 3) := by decide +kernel
theorem de_M_batch_30 : decode mb_M_batch 30 = .ok (.return_, 1) := by decide +kernel
theorem de_M_end_0 : decode mb_M_end 0 = .ok (.aload_n 0, 1) := by decide +kernel
theorem de_M_end_1 : decode mb_M_end 1 = .ok (.iconst 0, 1) := by decide +kernel
theorem de_M_end_2 : decode mb_M_end 2 = .ok (.putfield 58, 3) := by decide +kernel
theorem de_M_end_5 : decode mb_M_end 5 = .ok (.aload_n 0, 1) := by decide +kernel
theorem de_M_end_6 : decode mb_M_end 6 = .ok (.aload_n 0, 1) := by decide +kernel
theorem de_M_end_7 : decode mb_M_end 7 = .ok (.getfield 7, 3) := by decide +kernel
theorem de_M_end_10 : decode mb_M_end 10 = .ok (.ifCond .ge 7, 3) := by decide +kernel
theorem de_M_end_13 : decode mb_M_end 13 = .ok (.iconst 1, 1) := by decide +kernel
theorem de_M_end_14 : decode mb_M_end 14 = .ok (.goto 4, 3) := by decide +kernel
theorem de_M_end_17 : decode mb_M_end 17 = .ok (.iconst 0, 1) := by decide +kernel
theorem de_M_end_18 : decode mb_M_end 18 = .ok (.iconst 1, 1) := by decide +kernel
theorem de_M_end_19 : decode mb_M_end 19 = .ok (.invokevirtual 71, 3) := by decide +kernel
theorem de_M_end_22 : decode mb_M_end 22 = .ok (.ifCond .ne 35, 3) := by decide +kernel
theorem de_M_end_25 : decode mb_M_end 25 = .ok (.aload_n 0, 1) := by decide +kernel
theorem de_M_end_26 : decode mb_M_end 26 = .ok (.iload_n 1, 1) := by decide +kernel
theorem de_M_end_27 : decode mb_M_end 27 = .ok (.ifCond .eq 22, 3) := by decide +kernel
theorem de_M_end_30 : decode mb_M_end 30 = .ok (.aload_n 0, 1) := by decide +kernel
theorem de_M_end_31 : decode mb_M_end 31 = .ok (.getfield 61, 3) := by decide +kernel
theorem de_M_end_34 : decode mb_M_end 34 = .ok (.aload_n 0, 1) := by decide +kernel
theorem de_M_end_35 : decode mb_M_end 35 = .ok (.getfield 7, 3) := by decide +kernel
theorem de_M_end_38 : decode mb_M_end 38 = .ok (.iadd, 1) := by decide +kernel
theorem de_M_end_39 : decode mb_M_end 39 = .ok (.sipush 600, 3) := by decide +kernel
theorem de_M_end_42 : decode mb_M_end 42 = .ok (.if_icmp .le 7, 3) := by decide +kernel
theorem de_M_end_45 : decode mb_M_end 45 = .ok (.iconst 1, 1) := by decide +kernel
theorem de_M_end_46 : decode mb_M_end 46 = .ok (.goto 4, 3) := by decide +kernel
theorem de_M_end_49 : decode mb_M_end 49 = .ok (.iconst 0, 1) := by decide +kernel
theorem de_M_end_50 : decode mb_M_end 50 = .ok (.iconst 2, 1) := by decide +kernel
theorem de_M_end_51 : decode mb_M_end 51 = .ok (.invokevirtual 71, 3) := by decide +kernel
theorem de_M_end_54 : decode mb_M_end 54 = .ok (.ifCond .eq 5, 3) := by decide +kernel
theorem de_M_end_57 : decode mb_M_end 57 = .ok (.iconst 0, 1) := by decide +kernel
theorem de_M_end_58 : decode mb_M_end 58 = .ok (.ireturn, 1) := by decide +kernel
theorem de_M_end_59 : decode mb_M_end 59 = .ok (.iload_n 1, 1) := by decide +kernel
theorem de_M_end_60 : decode mb_M_end 60 = .ok (.ifCond .eq 10, 3) := by decide +kernel
theorem de_M_end_63 : decode mb_M_end 63 = .ok (.aload_n 0, 1) := by decide +kernel
theorem de_M_end_64 : decode mb_M_end 64 = .ok (.getfield 7, 3) := by decide +kernel
theorem de_M_end_67 : decode mb_M_end 67 = .ok (.goto 4, 3) := by decide +kernel
theorem de_M_end_70 : decode mb_M_end 70 = .ok (.iconst 0, 1) := by decide +kernel
theorem de_M_end_71 : decode mb_M_end 71 = .ok (.istore_n 2, 1) := by decide +kernel
theorem de_M_end_72 : decode mb_M_end 72 = .ok (.iconst 0, 1) := by decide +kernel
theorem de_M_end_73 : decode mb_M_end 73 = .ok (.istore_n 3, 1) := by decide +kernel
theorem de_M_end_74 : decode mb_M_end 74 = .ok (.iload_n 3, 1) := by decide +kernel
theorem de_M_end_75 : decode mb_M_end 75 = .ok (.iload_n 2, 1) := by decide +kernel
theorem de_M_end_76 : decode mb_M_end 76 = .ok (.if_icmp .ge 31, 3) := by decide +kernel
theorem de_M_end_79 : decode mb_M_end 79 = .ok (.aload_n 0, 1) := by decide +kernel
theorem de_M_end_80 : decode mb_M_end 80 = .ok (.aload_n 0, 1) := by decide +kernel
theorem de_M_end_81 : decode mb_M_end 81 = .ok (.getfield 29, 3) := by decide +kernel
theorem de_M_end_84 : decode mb_M_end 84 = .ok (.iload_n 3, 1) := by decide +kernel
theorem de_M_end_85 : decode mb_M_end 85 = .ok (.iaload, 1) := by decide +kernel
theorem de_M_end_86 : decode mb_M_end 86 = .ok (.aload_n 0, 1) := by decide +kernel
theorem de_M_end_87 : decode mb_M_end 87 = .ok (.getfield 39, 3) := by decide +kernel
theorem de_M_end_90 : decode mb_M_end 90 = .ok (.iload_n 3, 1) := by decide +kernel
theorem de_M_end_91 : decode mb_M_end 91 = .ok (.laload, 1) := by decide +kernel
theorem de_M_end_92 : decode mb_M_end 92 = .ok (.aload_n 0, 1) := by decide +kernel
theorem de_M_end_93 : decode mb_M_end 93 = .ok (.getfield 49, 3) := by decide +kernel
theorem de_M_end_96 : decode mb_M_end 96 = .ok (.iload_n 3, 1) := by decide +kernel
theorem de_M_end_97 : decode mb_M_end 97 = .ok (.baload, 1) := by decide +kernel
theorem de_M_end_98 : decode mb_M_end 98 = .ok (.invokevirtual 75, 3) := by decide +kernel
theorem de_M_end_101 : decode mb_M_end 101 = .ok (.iinc 3 1, 3) := by decide +kernel
theorem de_M_end_104 : decode mb_M_end 104 = .ok (.goto (-30), 3) := by decide +kernel
theorem de_M_end_107 : decode mb_M_end 107 = .ok (.aload_n 0, 1) := by decide +kernel
theorem de_M_end_108 : decode mb_M_end 108 = .ok (.iconst (-1), 1) := by decide +kernel
theorem de_M_end_109 : decode mb_M_end 109 = .ok (.putfield 7, 3) := by decide +kernel
theorem de_M_end_112 : decode mb_M_end 112 = .ok (.aload_n 0, 1) := by decide +kernel
theorem de_M_end_113 : decode mb_M_end 113 = .ok (.iconst (-1), 1) := by decide +kernel
theorem de_M_end_114 : decode mb_M_end 114 = .ok (.invokevirtual 79, 3) := by decide +kernel
theorem de_M_end_117 : decode mb_M_end 117 = .ok (.bipush 24, 2) := by decide +kernel
theorem de_M_end_119 : decode mb_M_end 119 = .ok (.if_icmp .lt 8, 3) := by decide +kernel
theorem de_M_end_122 : decode mb_M_end 122 = .ok (.aload_n 0, 1) := by decide +kernel
theorem de_M_end_123 : decode mb_M_end 123 = .ok (.invokevirtual 83, 3) := by decide +kernel
theorem de_M_end_126 : decode mb_M_end 126 = .ok (.pop, 1) := by decide +kernel
theorem de_M_end_127 : decode mb_M_end 127 = .ok (.iload_n 2, 1) := by decide +kernel
theorem de_M_end_128 : decode mb_M_end 128 = .ok (.ireturn, 1) := by decide +kernel
theorem de_M_sync_0 : decode mb_M_sync 0 = .ok (.aload_n 0, 1) := by decide +kernel
theorem de_M_sync_1 : decode mb_M_sync 1 = .ok (.iconst 0, 1) := by decide +kernel
theorem de_M_sync_2 : decode mb_M_sync 2 = .ok (.putfield 58, 3) := by decide +kernel
theorem de_M_sync_5 : decode mb_M_sync 5 = .ok (.aload_n 0, 1) := by decide +kernel
theorem de_M_sync_6 : decode mb_M_sync 6 = .ok (.aload_n 0, 1) := by decide +kernel
theorem de_M_sync_7 : decode mb_M_sync 7 = .ok (.iconst (-1), 1) := by decide +kernel
theorem de_M_sync_8 : decode mb_M_sync 8 = .ok (.invokevirtual 79, 3) := by decide +kernel
theorem de_M_sync_11 : decode mb_M_sync 11 = .ok (.putfield 94, 3) := by decide +kernel
theorem de_M_sync_14 : decode mb_M_sync 14 = .ok (.aload_n 0, 1) := by decide +kernel
theorem de_M_sync_15 : decode mb_M_sync 15 = .ok (.getfield 94, 3) := by decide +kernel
theorem de_M_sync_18 : decode mb_M_sync 18 = .ok (.ireturn, 1) := by decide +kernel
theorem de_M_flush_0 : decode mb_M_flush 0 = .ok (.aload_n 0, 1) := by decide +kernel
theorem de_M_flush_1 : decode mb_M_flush 1 = .ok (.iconst 0, 1) := by decide +kernel
theorem de_M_flush_2 : decode mb_M_flush 2 = .ok (.putfield 58, 3) := by decide +kernel
theorem de_M_flush_5 : decode mb_M_flush 5 = .ok (.aload_n 0, 1) := by decide +kernel
theorem de_M_flush_6 : decode mb_M_flush 6 = .ok (.invokevirtual 83, 3) := by decide +kernel
theorem de_M_flush_9 : decode mb_M_flush 9 = .ok (.ireturn, 1) := by decide +kernel
theorem de_M_merge_0 : decode mb_M_merge 0 = .ok (.aload_n 0, 1) := by decide +kernel
theorem de_M_merge_1 : decode mb_M_merge 1 = .ok (.iconst 0, 1) := by decide +kernel
theorem de_M_merge_2 : decode mb_M_merge 2 = .ok (.putfield 58, 3) := by decide +kernel
theorem de_M_merge_5 : decode mb_M_merge 5 = .ok (.aload_n 0, 1) := by decide +kernel
theorem de_M_merge_6 : decode mb_M_merge 6 = .ok (.iload_n 1, 1) := by decide +kernel
theorem de_M_merge_7 : decode mb_M_merge 7 = .ok (.iconst 0, 1) := by decide +kernel
theorem de_M_merge_8 : decode mb_M_merge 8 = .ok (.bipush 100, 2) := by decide +kernel
theorem de_M_merge_10 : decode mb_M_merge 10 = .ok (.invokestatic 67, 3) := by decide +kernel
theorem de_M_merge_13 : decode mb_M_merge 13 = .ok (.ifCond .ne 7, 3) := by decide +kernel
theorem de_M_merge_16 : decode mb_M_merge 16 = .ok (.iconst 1, 1) := by decide +kernel
theorem de_M_merge_17 : decode mb_M_merge 17 = .ok (.goto 4, 3) := by decide +kernel
theorem de_M_merge_20 : decode mb_M_merge 20 = .ok (.iconst 0, 1) := by decide +kernel
theorem de_M_merge_21 : decode mb_M_merge 21 = .ok (.iconst 1, 1) := by decide +kernel
theorem de_M_merge_22 : decode mb_M_merge 22 = .ok (.invokevirtual 71, 3) := by decide +kernel
theorem de_M_merge_25 : decode mb_M_merge 25 = .ok (.ifCond .eq 5, 3) := by decide +kernel
theorem de_M_merge_28 : decode mb_M_merge 28 = .ok (.iconst 0, 1) := by decide +kernel
theorem de_M_merge_29 : decode mb_M_merge 29 = .ok (.ireturn, 1) := by decide +kernel
theorem de_M_merge_30 : decode mb_M_merge 30 = .ok (.iconst 0, 1) := by decide +kernel
theorem de_M_merge_31 : decode mb_M_merge 31 = .ok (.istore_n 2, 1) := by decide +kernel
theorem de_M_merge_32 : decode mb_M_merge 32 = .ok (.iload_n 2, 1) := by decide +kernel
theorem de_M_merge_33 : decode mb_M_merge 33 = .ok (.iload_n 1, 1) := by decide +kernel
theorem de_M_merge_34 : decode mb_M_merge 34 = .ok (.if_icmp .ge 16, 3) := by decide +kernel
theorem de_M_merge_37 : decode mb_M_merge 37 = .ok (.aload_n 0, 1) := by decide +kernel
theorem de_M_merge_38 : decode mb_M_merge 38 = .ok (.invokevirtual 114, 3) := by decide +kernel
theorem de_M_merge_41 : decode mb_M_merge 41 = .ok (.ifCond .eq 9, 3) := by decide +kernel
theorem de_M_merge_44 : decode mb_M_merge 44 = .ok (.iinc 2 1, 3) := by decide +kernel
theorem de_M_merge_47 : decode mb_M_merge 47 = .ok (.goto (-15), 3) := by decide +kernel
theorem de_M_merge_50 : decode mb_M_merge 50 = .ok (.iload_n 2, 1) := by decide +kernel
theorem de_M_merge_51 : decode mb_M_merge 51 = .ok (.ireturn, 1) := by decide +kernel
theorem de_M_step_0 : decode mb_M_step 0 = .ok (.iconst 0, 1) := by decide +kernel
theorem de_M_step_1 : decode mb_M_step 1 = .ok (.istore_n 1, 1) := by decide +kernel
theorem de_M_step_2 : decode mb_M_step 2 = .ok (.iload_n 1, 1) := by decide +kernel
theorem de_M_step_3 : decode mb_M_step 3 = .ok (.iconst 5, 1) := by decide +kernel
theorem de_M_step_4 : decode mb_M_step 4 = .ok (.if_icmp .ge 18, 3) := by decide +kernel
theorem de_M_step_7 : decode mb_M_step 7 = .ok (.aload_n 0, 1) := by decide +kernel
theorem de_M_step_8 : decode mb_M_step 8 = .ok (.iload_n 1, 1) := by decide +kernel
theorem de_M_step_9 : decode mb_M_step 9 = .ok (.invokevirtual 97, 3) := by decide +kernel
theorem de_M_step_12 : decode mb_M_step 12 = .ok (.iconst 4, 1) := by decide +kernel
theorem de_M_step_13 : decode mb_M_step 13 = .ok (.if_icmp .ge 9, 3) := by decide +kernel
theorem de_M_step_16 : decode mb_M_step 16 = .ok (.iinc 1 1, 3) := by decide +kernel
theorem de_M_step_19 : decode mb_M_step 19 = .ok (.goto (-17), 3) := by decide +kernel
theorem de_M_step_22 : decode mb_M_step 22 = .ok (.iload_n 1, 1) := by decide +kernel
theorem de_M_step_23 : decode mb_M_step 23 = .ok (.iconst 5, 1) := by decide +kernel
theorem de_M_step_24 : decode mb_M_step 24 = .ok (.if_icmp .ne 5, 3) := by decide +kernel
theorem de_M_step_27 : decode mb_M_step 27 = .ok (.iconst 0, 1) := by decide +kernel
theorem de_M_step_28 : decode mb_M_step 28 = .ok (.ireturn, 1) := by decide +kernel
theorem de_M_step_29 : decode mb_M_step 29 = .ok (.iconst 1, 1) := by decide +kernel
theorem de_M_step_30 : decode mb_M_step 30 = .ok (.istore_n 2, 1) := by decide +kernel
theorem de_M_step_31 : decode mb_M_step 31 = .ok (.iload_n 1, 1) := by decide +kernel
theorem de_M_step_32 : decode mb_M_step 32 = .ok (.iconst 1, 1) := by decide +kernel
theorem de_M_step_33 : decode mb_M_step 33 = .ok (.iadd, 1) := by decide +kernel
theorem de_M_step_34 : decode mb_M_step 34 = .ok (.istore_n 3, 1) := by decide +kernel
theorem de_M_step_35 : decode mb_M_step 35 = .ok (.iload_n 3, 1) := by decide +kernel
theorem de_M_step_36 : decode mb_M_step 36 = .ok (.bipush 6, 2) := by decide +kernel
theorem de_M_step_38 : decode mb_M_step 38 = .ok (.if_icmp .ge 19, 3) := by decide +kernel
theorem de_M_step_41 : decode mb_M_step 41 = .ok (.aload_n 0, 1) := by decide +kernel
theorem de_M_step_42 : decode mb_M_step 42 = .ok (.iload_n 3, 1) := by decide +kernel
theorem de_M_step_43 : decode mb_M_step 43 = .ok (.invokevirtual 97, 3) := by decide +kernel
theorem de_M_step_46 : decode mb_M_step 46 = .ok (.ifCond .le 5, 3) := by decide +kernel
theorem de_M_step_49 : decode mb_M_step 49 = .ok (.iconst 0, 1) := by decide +kernel
theorem de_M_step_50 : decode mb_M_step 50 = .ok (.istore_n 2, 1) := by decide +kernel
theorem de_M_step_51 : decode mb_M_step 51 = .ok (.iinc 3 1, 3) := by decide +kernel
theorem de_M_step_54 : decode mb_M_step 54 = .ok (.goto (-19), 3) := by decide +kernel
theorem de_M_step_57 : decode mb_M_step 57 = .ok (.iconst 0, 1) := by decide +kernel
theorem de_M_step_58 : decode mb_M_step 58 = .ok (.istore_n 3, 1) := by decide +kernel
theorem de_M_step_59 : decode mb_M_step 59 = .ok (.iload_n 3, 1) := by decide +kernel
theorem de_M_step_60 : decode mb_M_step 60 = .ok (.aload_n 0, 1) := by decide +kernel
theorem de_M_step_61 : decode mb_M_step 61 = .ok (.getfield 61, 3) := by decide +kernel
theorem de_M_step_64 : decode mb_M_step 64 = .ok (.if_icmp .ge 53, 3) := by decide +kernel
theorem de_M_step_67 : decode mb_M_step 67 = .ok (.aload_n 0, 1) := by decide +kernel
theorem de_M_step_68 : decode mb_M_step 68 = .ok (.getfield 52, 3) := by decide +kernel
theorem de_M_step_71 : decode mb_M_step 71 = .ok (.iload_n 3, 1) := by decide +kernel
theorem de_M_step_72 : decode mb_M_step 72 = .ok (.aload_n 0, 1) := by decide +kernel
theorem de_M_step_73 : decode mb_M_step 73 = .ok (.getfield 20, 3) := by decide +kernel
theorem de_M_step_76 : decode mb_M_step 76 = .ok (.iload_n 3, 1) := by decide +kernel
theorem de_M_step_77 : decode mb_M_step 77 = .ok (.iaload, 1) := by decide +kernel
theorem de_M_step_78 : decode mb_M_step 78 = .ok (.ifCond .lt 31, 3) := by decide +kernel
theorem de_M_step_81 : decode mb_M_step 81 = .ok (.aload_n 0, 1) := by decide +kernel
theorem de_M_step_82 : decode mb_M_step 82 = .ok (.getfield 23, 3) := by decide +kernel
theorem de_M_step_85 : decode mb_M_step 85 = .ok (.aload_n 0, 1) := by decide +kernel
theorem de_M_step_86 : decode mb_M_step 86 = .ok (.getfield 20, 3) := by decide +kernel
theorem de_M_step_89 : decode mb_M_step 89 = .ok (.iload_n 3, 1) := by decide +kernel
theorem de_M_step_90 : decode mb_M_step 90 = .ok (.iaload, 1) := by decide +kernel
theorem de_M_step_91 : decode mb_M_step 91 = .ok (.iaload, 1) := by decide +kernel
theorem de_M_step_92 : decode mb_M_step 92 = .ok (.iload_n 1, 1) := by decide +kernel
theorem de_M_step_93 : decode mb_M_step 93 = .ok (.if_icmp .ne 16, 3) := by decide +kernel
theorem de_M_step_96 : decode mb_M_step 96 = .ok (.aload_n 0, 1) := by decide +kernel
theorem de_M_step_97 : decode mb_M_step 97 = .ok (.iload_n 3, 1) := by decide +kernel
theorem de_M_step_98 : decode mb_M_step 98 = .ok (.iload_n 1, 1) := by decide +kernel
theorem de_M_step_99 : decode mb_M_step 99 = .ok (.invokevirtual 100, 3) := by decide +kernel
theorem de_M_step_102 : decode mb_M_step 102 = .ok (.ifCond .eq 7, 3) := by decide +kernel
theorem de_M_step_105 : decode mb_M_step 105 = .ok (.iconst 1, 1) := by decide +kernel
theorem de_M_step_106 : decode mb_M_step 106 = .ok (.goto 4, 3) := by decide +kernel
theorem de_M_step_109 : decode mb_M_step 109 = .ok (.iconst 0, 1) := by decide +kernel
theorem de_M_step_110 : decode mb_M_step 110 = .ok (.bastore, 1) := by decide +kernel
theorem de_M_step_111 : decode mb_M_step 111 = .ok (.iinc 3 1, 3) := by decide +kernel
theorem de_M_step_114 : decode mb_M_step 114 = .ok (.goto (-55), 3) := by decide +kernel
theorem de_M_step_117 : decode mb_M_step 117 = .ok (.iload_n 2, 1) := by decide +kernel
theorem de_M_step_118 : decode mb_M_step 118 = .ok (.ifCond .eq 71, 3) := by decide +kernel
theorem de_M_step_121 : decode mb_M_step 121 = .ok (.iconst 1, 1) := by decide +kernel
theorem de_M_step_122 : decode mb_M_step 122 = .ok (.istore_n 3, 1) := by decide +kernel
theorem de_M_step_123 : decode mb_M_step 123 = .ok (.iload_n 3, 1) := by decide +kernel
theorem de_M_step_124 : decode mb_M_step 124 = .ok (.ifCond .eq 65, 3) := by decide +kernel
theorem de_M_step_127 : decode mb_M_step 127 = .ok (.iconst 0, 1) := by decide +kernel
theorem de_M_step_128 : decode mb_M_step 128 = .ok (.istore_n 3, 1) := by decide +kernel
theorem de_M_step_129 : decode mb_M_step 129 = .ok (.iconst 0, 1) := by decide +kernel
theorem de_M_step_130 : decode mb_M_step 130 = .ok (.istore 4, 2) := by decide +kernel
theorem de_M_step_132 : decode mb_M_step 132 = .ok (.iload 4, 2) := by decide +kernel
theorem de_M_step_134 : decode mb_M_step 134 = .ok (.aload_n 0, 1) := by decide +kernel
theorem de_M_step_135 : decode mb_M_step 135 = .ok (.getfield 61, 3) := by decide +kernel
theorem de_M_step_138 : decode mb_M_step 138 = .ok (.if_icmp .ge 48, 3) := by decide +kernel
theorem de_M_step_141 : decode mb_M_step 141 = .ok (.aload_n 0, 1) := by decide +kernel
theorem de_M_step_142 : decode mb_M_step 142 = .ok (.getfield 52, 3) := by decide +kernel
theorem de_M_step_145 : decode mb_M_step 145 = .ok (.iload 4, 2) := by decide +kernel
theorem de_M_step_147 : decode mb_M_step 147 = .ok (.baload, 1) := by decide +kernel
theorem de_M_step_148 : decode mb_M_step 148 = .ok (.ifCond .eq 32, 3) := by decide +kernel
theorem de_M_step_151 : decode mb_M_step 151 = .ok (.aload_n 0, 1) := by decide +kernel
theorem de_M_step_152 : decode mb_M_step 152 = .ok (.getfield 42, 3) := by decide +kernel
theorem de_M_step_155 : decode mb_M_step 155 = .ok (.iload 4, 2) := by decide +kernel
theorem de_M_step_157 : decode mb_M_step 157 = .ok (.baload, 1) := by decide +kernel
theorem de_M_step_158 : decode mb_M_step 158 = .ok (.ifCond .eq 22, 3) := by decide +kernel
theorem de_M_step_161 : decode mb_M_step 161 = .ok (.aload_n 0, 1) := by decide +kernel
theorem de_M_step_162 : decode mb_M_step 162 = .ok (.iload 4, 2) := by decide +kernel
theorem de_M_step_164 : decode mb_M_step 164 = .ok (.invokevirtual 104, 3) := by decide +kernel
theorem de_M_step_167 : decode mb_M_step 167 = .ok (.ifCond .eq 13, 3) := by decide +kernel
theorem de_M_step_170 : decode mb_M_step 170 = .ok (.aload_n 0, 1) := by decide +kernel
theorem de_M_step_171 : decode mb_M_step 171 = .ok (.getfield 52, 3) := by decide +kernel
theorem de_M_step_174 : decode mb_M_step 174 = .ok (.iload 4, 2) := by decide +kernel
theorem de_M_step_176 : decode mb_M_step 176 = .ok (.iconst 0, 1) := by decide +kernel
theorem de_M_step_177 : decode mb_M_step 177 = .ok (.bastore, 1) := by decide +kernel
theorem de_M_step_178 : decode mb_M_step 178 = .ok (.iconst 1, 1) := by decide +kernel
theorem de_M_step_179 : decode mb_M_step 179 = .ok (.istore_n 3, 1) := by decide +kernel
theorem de_M_step_180 : decode mb_M_step 180 = .ok (.iinc 4 1, 3) := by decide +kernel
theorem de_M_step_183 : decode mb_M_step 183 = .ok (.goto (-51), 3) := by decide +kernel
theorem de_M_step_186 : decode mb_M_step 186 = .ok (.goto (-63), 3) := by decide +kernel
theorem de_M_step_189 : decode mb_M_step 189 = .ok (.aload_n 0, 1) := by decide +kernel
theorem de_M_step_190 : decode mb_M_step 190 = .ok (.dup, 1) := by decide +kernel
theorem de_M_step_191 : decode mb_M_step 191 = .ok (.getfield 91, 3) := by decide +kernel
theorem de_M_step_194 : decode mb_M_step 194 = .ok (.dup_x1, 1) := by decide +kernel
theorem de_M_step_195 : decode mb_M_step 195 = .ok (.iconst 1, 1) := by decide +kernel
theorem de_M_step_196 : decode mb_M_step 196 = .ok (.iadd, 1) := by decide +kernel
theorem de_M_step_197 : decode mb_M_step 197 = .ok (.putfield 91, 3) := by decide +kernel
theorem de_M_step_200 : decode mb_M_step 200 = .ok (.istore_n 3, 1) := by decide +kernel
theorem de_M_step_201 : decode mb_M_step 201 = .ok (.iconst 0, 1) := by decide +kernel
theorem de_M_step_202 : decode mb_M_step 202 = .ok (.istore 4, 2) := by decide +kernel
theorem de_M_step_204 : decode mb_M_step 204 = .ok (.iconst 0, 1) := by decide +kernel
theorem de_M_step_205 : decode mb_M_step 205 = .ok (.istore 5, 2) := by decide +kernel
theorem de_M_step_207 : decode mb_M_step 207 = .ok (.iconst 0, 1) := by decide +kernel
theorem de_M_step_208 : decode mb_M_step 208 = .ok (.istore 6, 2) := by decide +kernel
theorem de_M_step_210 : decode mb_M_step 210 = .ok (.iload 6, 2) := by decide +kernel
theorem de_M_step_212 : decode mb_M_step 212 = .ok (.aload_n 0, 1) := by decide +kernel
theorem de_M_step_213 : decode mb_M_step 213 = .ok (.getfield 61, 3) := by decide +kernel
theorem de_M_step_216 : decode mb_M_step 216 = .ok (.if_icmp .ge 150, 3) := by decide +kernel
theorem de_M_step_219 : decode mb_M_step 219 = .ok (.aload_n 0, 1) := by decide +kernel
theorem de_M_step_220 : decode mb_M_step 220 = .ok (.getfield 20, 3) := by decide +kernel
theorem de_M_step_223 : decode mb_M_step 223 = .ok (.iload 6, 2) := by decide +kernel
theorem de_M_step_225 : decode mb_M_step 225 = .ok (.iaload, 1) := by decide +kernel
theorem de_M_step_226 : decode mb_M_step 226 = .ok (.ifCond .lt 23, 3) := by decide +kernel
theorem de_M_step_229 : decode mb_M_step 229 = .ok (.aload_n 0, 1) := by decide +kernel
theorem de_M_step_230 : decode mb_M_step 230 = .ok (.getfield 23, 3) := by decide +kernel
theorem de_M_step_233 : decode mb_M_step 233 = .ok (.aload_n 0, 1) := by decide +kernel
theorem de_M_step_234 : decode mb_M_step 234 = .ok (.getfield 20, 3) := by decide +kernel
theorem de_M_step_237 : decode mb_M_step 237 = .ok (.iload 6, 2) := by decide +kernel
theorem de_M_step_239 : decode mb_M_step 239 = .ok (.iaload, 1) := by decide +kernel
theorem de_M_step_240 : decode mb_M_step 240 = .ok (.iaload, 1) := by decide +kernel
theorem de_M_step_241 : decode mb_M_step 241 = .ok (.iload_n 1, 1) := by decide +kernel
theorem de_M_step_242 : decode mb_M_step 242 = .ok (.if_icmp .ne 7, 3) := by decide +kernel
theorem de_M_step_245 : decode mb_M_step 245 = .ok (.iconst 1, 1) := by decide +kernel
theorem de_M_step_246 : decode mb_M_step 246 = .ok (.goto 4, 3) := by decide +kernel
theorem de_M_step_249 : decode mb_M_step 249 = .ok (.iconst 0, 1) := by decide +kernel
theorem de_M_step_250 : decode mb_M_step 250 = .ok (.istore 7, 2) := by decide +kernel
theorem de_M_step_252 : decode mb_M_step 252 = .ok (.iload 7, 2) := by decide +kernel
theorem de_M_step_254 : decode mb_M_step 254 = .ok (.ifCond .eq 16, 3) := by decide +kernel
theorem de_M_step_257 : decode mb_M_step 257 = .ok (.aload_n 0, 1) := by decide +kernel
theorem de_M_step_258 : decode mb_M_step 258 = .ok (.getfield 52, 3) := by decide +kernel
theorem de_M_step_261 : decode mb_M_step 261 = .ok (.iload 6, 2) := by decide +kernel
theorem de_M_step_263 : decode mb_M_step 263 = .ok (.baload, 1) := by decide +kernel
theorem de_M_step_264 : decode mb_M_step 264 = .ok (.ifCond .ne 6, 3) := by decide +kernel
theorem de_M_step_267 : decode mb_M_step 267 = .ok (.goto 93, 3) := by decide +kernel
theorem de_M_step_270 : decode mb_M_step 270 = .ok (.iload 7, 2) := by decide +kernel
theorem de_M_step_272 : decode mb_M_step 272 = .ok (.ifCond .eq 6, 3) := by decide +kernel
theorem de_M_step_275 : decode mb_M_step 275 = .ok (.iinc 5 1, 3) := by decide +kernel
theorem de_M_step_278 : decode mb_M_step 278 = .ok (.aload_n 0, 1) := by decide +kernel
theorem de_M_step_279 : decode mb_M_step 279 = .ok (.getfield 13, 3) := by decide +kernel
theorem de_M_step_282 : decode mb_M_step 282 = .ok (.iload 4, 2) := by decide +kernel
theorem de_M_step_284 : decode mb_M_step 284 = .ok (.aload_n 0, 1) := by decide +kernel
theorem de_M_step_285 : decode mb_M_step 285 = .ok (.getfield 13, 3) := by decide +kernel
theorem de_M_step_288 : decode mb_M_step 288 = .ok (.iload 6, 2) := by decide +kernel
theorem de_M_step_290 : decode mb_M_step 290 = .ok (.iaload, 1) := by decide +kernel
theorem de_M_step_291 : decode mb_M_step 291 = .ok (.iastore, 1) := by decide +kernel
theorem de_M_step_292 : decode mb_M_step 292 = .ok (.aload_n 0, 1) := by decide +kernel
theorem de_M_step_293 : decode mb_M_step 293 = .ok (.getfield 17, 3) := by decide +kernel
theorem de_M_step_296 : decode mb_M_step 296 = .ok (.iload 4, 2) := by decide +kernel
theorem de_M_step_298 : decode mb_M_step 298 = .ok (.aload_n 0, 1) := by decide +kernel
theorem de_M_step_299 : decode mb_M_step 299 = .ok (.getfield 17, 3) := by decide +kernel
theorem de_M_step_302 : decode mb_M_step 302 = .ok (.iload 6, 2) := by decide +kernel
theorem de_M_step_304 : decode mb_M_step 304 = .ok (.iaload, 1) := by decide +kernel
theorem de_M_step_305 : decode mb_M_step 305 = .ok (.iastore, 1) := by decide +kernel
theorem de_M_step_306 : decode mb_M_step 306 = .ok (.aload_n 0, 1) := by decide +kernel
theorem de_M_step_307 : decode mb_M_step 307 = .ok (.getfield 35, 3) := by decide +kernel
theorem de_M_step_310 : decode mb_M_step 310 = .ok (.iload 4, 2) := by decide +kernel
theorem de_M_step_312 : decode mb_M_step 312 = .ok (.aload_n 0, 1) := by decide +kernel
theorem de_M_step_313 : decode mb_M_step 313 = .ok (.getfield 35, 3) := by decide +kernel
theorem de_M_step_316 : decode mb_M_step 316 = .ok (.iload 6, 2) := by decide +kernel
theorem de_M_step_318 : decode mb_M_step 318 = .ok (.laload, 1) := by decide +kernel
theorem de_M_step_319 : decode mb_M_step 319 = .ok (.lastore, 1) := by decide +kernel
theorem de_M_step_320 : decode mb_M_step 320 = .ok (.aload_n 0, 1) := by decide +kernel
theorem de_M_step_321 : decode mb_M_step 321 = .ok (.getfield 42, 3) := by decide +kernel
theorem de_M_step_324 : decode mb_M_step 324 = .ok (.iload 4, 2) := by decide +kernel
theorem de_M_step_326 : decode mb_M_step 326 = .ok (.aload_n 0, 1) := by decide +kernel
theorem de_M_step_327 : decode mb_M_step 327 = .ok (.getfield 42, 3) := by decide +kernel
theorem de_M_step_330 : decode mb_M_step 330 = .ok (.iload 6, 2) := by decide +kernel
theorem de_M_step_332 : decode mb_M_step 332 = .ok (.baload, 1) := by decide +kernel
theorem de_M_step_333 : decode mb_M_step 333 = .ok (.bastore, 1) := by decide +kernel
theorem de_M_step_334 : decode mb_M_step 334 = .ok (.aload_n 0, 1) := by decide +kernel
theorem de_M_step_335 : decode mb_M_step 335 = .ok (.getfield 20, 3) := by decide +kernel
theorem de_M_step_338 : decode mb_M_step 338 = .ok (.iload 4, 2) := by decide +kernel
theorem de_M_step_340 : decode mb_M_step 340 = .ok (.iinc 4 1, 3) := by decide +kernel
theorem de_M_step_343 : decode mb_M_step 343 = .ok (.iload 7, 2) := by decide +kernel
theorem de_M_step_345 : decode mb_M_step 345 = .ok (.ifCond .eq 7, 3) := by decide +kernel
theorem de_M_step_348 : decode mb_M_step 348 = .ok (.iload_n 3, 1) := by decide +kernel
theorem de_M_step_349 : decode mb_M_step 349 = .ok (.goto 10, 3) := by decide +kernel
theorem de_M_step_352 : decode mb_M_step 352 = .ok (.aload_n 0, 1) := by decide +kernel
theorem de_M_step_353 : decode mb_M_step 353 = .ok (.getfield 20, 3) := by decide +kernel
theorem de_M_step_356 : decode mb_M_step 356 = .ok (.iload 6, 2) := by decide +kernel
theorem de_M_step_358 : decode mb_M_step 358 = .ok (.iaload, 1) := by decide +kernel
theorem de_M_step_359 : decode mb_M_step 359 = .ok (.iastore, 1) := by decide +kernel
theorem de_M_step_360 : decode mb_M_step 360 = .ok (.iinc 6 1, 3) := by decide +kernel
theorem de_M_step_363 : decode mb_M_step 363 = .ok (.goto (-153), 3) := by decide +kernel
theorem de_M_step_366 : decode mb_M_step 366 = .ok (.aload_n 0, 1) := by decide +kernel
theorem de_M_step_367 : decode mb_M_step 367 = .ok (.iload 4, 2) := by decide +kernel
theorem de_M_step_369 : decode mb_M_step 369 = .ok (.putfield 61, 3) := by decide +kernel
theorem de_M_step_372 : decode mb_M_step 372 = .ok (.iconst 0, 1) := by decide +kernel
theorem de_M_step_373 : decode mb_M_step 373 = .ok (.istore 6, 2) := by decide +kernel
theorem de_M_step_375 : decode mb_M_step 375 = .ok (.iload 6, 2) := by decide +kernel
theorem de_M_step_377 : decode mb_M_step 377 = .ok (.iload_n 3, 1) := by decide +kernel
theorem de_M_step_378 : decode mb_M_step 378 = .ok (.if_icmp .ge 28, 3) := by decide +kernel
theorem de_M_step_381 : decode mb_M_step 381 = .ok (.aload_n 0, 1) := by decide +kernel
theorem de_M_step_382 : decode mb_M_step 382 = .ok (.getfield 23, 3) := by decide +kernel
theorem de_M_step_385 : decode mb_M_step 385 = .ok (.iload 6, 2) := by decide +kernel
theorem de_M_step_387 : decode mb_M_step 387 = .ok (.iaload, 1) := by decide +kernel
theorem de_M_step_388 : decode mb_M_step 388 = .ok (.iload_n 1, 1) := by decide +kernel
theorem de_M_step_389 : decode mb_M_step 389 = .ok (.if_icmp .ne 11, 3) := by decide +kernel
theorem de_M_step_392 : decode mb_M_step 392 = .ok (.aload_n 0, 1) := by decide +kernel
theorem de_M_step_393 : decode mb_M_step 393 = .ok (.getfield 23, 3) := by decide +kernel
theorem de_M_step_396 : decode mb_M_step 396 = .ok (.iload 6, 2) := by decide +kernel
theorem de_M_step_398 : decode mb_M_step 398 = .ok (.iconst (-1), 1) := by decide +kernel
theorem de_M_step_399 : decode mb_M_step 399 = .ok (.iastore, 1) := by decide +kernel
theorem de_M_step_400 : decode mb_M_step 400 = .ok (.iinc 6 1, 3) := by decide +kernel
theorem de_M_step_403 : decode mb_M_step 403 = .ok (.goto (-28), 3) := by decide +kernel
theorem de_M_step_406 : decode mb_M_step 406 = .ok (.aload_n 0, 1) := by decide +kernel
theorem de_M_step_407 : decode mb_M_step 407 = .ok (.getfield 23, 3) := by decide +kernel
theorem de_M_step_410 : decode mb_M_step 410 = .ok (.iload_n 3, 1) := by decide +kernel
theorem de_M_step_411 : decode mb_M_step 411 = .ok (.iload 5, 2) := by decide +kernel
theorem de_M_step_413 : decode mb_M_step 413 = .ok (.ifCond .le 9, 3) := by decide +kernel
theorem de_M_step_416 : decode mb_M_step 416 = .ok (.iload_n 1, 1) := by decide +kernel
theorem de_M_step_417 : decode mb_M_step 417 = .ok (.iconst 1, 1) := by decide +kernel
theorem de_M_step_418 : decode mb_M_step 418 = .ok (.iadd, 1) := by decide +kernel
theorem de_M_step_419 : decode mb_M_step 419 = .ok (.goto 4, 3) := by decide +kernel
theorem de_M_step_422 : decode mb_M_step 422 = .ok (.iconst (-1), 1) := by decide +kernel
theorem de_M_step_423 : decode mb_M_step 423 = .ok (.iastore, 1) := by decide +kernel
theorem de_M_step_424 : decode mb_M_step 424 = .ok (.iconst 1, 1) := by decide +kernel
theorem de_M_step_425 : decode mb_M_step 425 = .ok (.ireturn, 1) := by decide +kernel
theorem de_M_runsOf_0 : decode mb_M_runsOf 0 = .ok (.iconst 0, 1) := by decide +kernel
theorem de_M_runsOf_1 : decode mb_M_runsOf 1 = .ok (.istore_n 2, 1) := by decide +kernel
theorem de_M_runsOf_2 : decode mb_M_runsOf 2 = .ok (.iconst 0, 1) := by decide +kernel
theorem de_M_runsOf_3 : decode mb_M_runsOf 3 = .ok (.istore_n 3, 1) := by decide +kernel
theorem de_M_runsOf_4 : decode mb_M_runsOf 4 = .ok (.iload_n 3, 1) := by decide +kernel
theorem de_M_runsOf_5 : decode mb_M_runsOf 5 = .ok (.aload_n 0, 1) := by decide +kernel
theorem de_M_runsOf_6 : decode mb_M_runsOf 6 = .ok (.getfield 91, 3) := by decide +kernel
theorem de_M_runsOf_9 : decode mb_M_runsOf 9 = .ok (.if_icmp .ge 22, 3) := by decide +kernel
theorem de_M_runsOf_12 : decode mb_M_runsOf 12 = .ok (.aload_n 0, 1) := by decide +kernel
theorem de_M_runsOf_13 : decode mb_M_runsOf 13 = .ok (.getfield 23, 3) := by decide +kernel
theorem de_M_runsOf_16 : decode mb_M_runsOf 16 = .ok (.iload_n 3, 1) := by decide +kernel
theorem de_M_runsOf_17 : decode mb_M_runsOf 17 = .ok (.iaload, 1) := by decide +kernel
theorem de_M_runsOf_18 : decode mb_M_runsOf 18 = .ok (.iload_n 1, 1) := by decide +kernel
theorem de_M_runsOf_19 : decode mb_M_runsOf 19 = .ok (.if_icmp .ne 6, 3) := by decide +kernel
theorem de_M_runsOf_22 : decode mb_M_runsOf 22 = .ok (.iinc 2 1, 3) := by decide +kernel
theorem de_M_runsOf_25 : decode mb_M_runsOf 25 = .ok (.iinc 3 1, 3) := by decide +kernel
theorem de_M_runsOf_28 : decode mb_M_runsOf 28 = .ok (.goto (-24), 3) := by decide +kernel
theorem de_M_runsOf_31 : decode mb_M_runsOf 31 = .ok (.iload_n 2, 1) := by decide +kernel
theorem de_M_runsOf_32 : decode mb_M_runsOf 32 = .ok (.ireturn, 1) := by decide +kernel
theorem de_M_isKept_0 : decode mb_M_isKept 0 = .ok (.aload_n 0, 1) := by decide +kernel
theorem de_M_isKept_1 : decode mb_M_isKept 1 = .ok (.iload_n 1, 1) := by decide +kernel
theorem de_M_isKept_2 : decode mb_M_isKept 2 = .ok (.iload_n 2, 1) := by decide +kernel
theorem de_M_isKept_3 : decode mb_M_isKept 3 = .ok (.ldc 110, 2) := by decide +kernel
theorem de_M_isKept_5 : decode mb_M_isKept 5 = .ok (.invokevirtual 111, 3) := by decide +kernel
theorem de_M_isKept_8 : decode mb_M_isKept 8 = .ok (.ifCond .eq 5, 3) := by decide +kernel
theorem de_M_isKept_11 : decode mb_M_isKept 11 = .ok (.iconst 1, 1) := by decide +kernel
theorem de_M_isKept_12 : decode mb_M_isKept 12 = .ok (.ireturn, 1) := by decide +kernel
theorem de_M_isKept_13 : decode mb_M_isKept 13 = .ok (.iconst 0, 1) := by decide +kernel
theorem de_M_isKept_14 : decode mb_M_isKept 14 = .ok (.istore_n 3, 1) := by decide +kernel
theorem de_M_isKept_15 : decode mb_M_isKept 15 = .ok (.iload_n 3, 1) := by decide +kernel
theorem de_M_isKept_16 : decode mb_M_isKept 16 = .ok (.bipush 6, 2) := by decide +kernel
theorem de_M_isKept_18 : decode mb_M_isKept 18 = .ok (.if_icmp .ge 35, 3) := by decide +kernel
theorem de_M_isKept_21 : decode mb_M_isKept 21 = .ok (.aload_n 0, 1) := by decide +kernel
theorem de_M_isKept_22 : decode mb_M_isKept 22 = .ok (.getfield 46, 3) := by decide +kernel
theorem de_M_isKept_25 : decode mb_M_isKept 25 = .ok (.iload_n 3, 1) := by decide +kernel
theorem de_M_isKept_26 : decode mb_M_isKept 26 = .ok (.baload, 1) := by decide +kernel
theorem de_M_isKept_27 : decode mb_M_isKept 27 = .ok (.ifCond .eq 20, 3) := by decide +kernel
theorem de_M_isKept_30 : decode mb_M_isKept 30 = .ok (.aload_n 0, 1) := by decide +kernel
theorem de_M_isKept_31 : decode mb_M_isKept 31 = .ok (.iload_n 1, 1) := by decide +kernel
theorem de_M_isKept_32 : decode mb_M_isKept 32 = .ok (.iload_n 2, 1) := by decide +kernel
theorem de_M_isKept_33 : decode mb_M_isKept 33 = .ok (.aload_n 0, 1) := by decide +kernel
theorem de_M_isKept_34 : decode mb_M_isKept 34 = .ok (.getfield 26, 3) := by decide +kernel
theorem de_M_isKept_37 : decode mb_M_isKept 37 = .ok (.iload_n 3, 1) := by decide +kernel
theorem de_M_isKept_38 : decode mb_M_isKept 38 = .ok (.iaload, 1) := by decide +kernel
theorem de_M_isKept_39 : decode mb_M_isKept 39 = .ok (.invokevirtual 111, 3) := by decide +kernel
theorem de_M_isKept_42 : decode mb_M_isKept 42 = .ok (.ifCond .eq 5, 3) := by decide +kernel
theorem de_M_isKept_45 : decode mb_M_isKept 45 = .ok (.iconst 1, 1) := by decide +kernel
theorem de_M_isKept_46 : decode mb_M_isKept 46 = .ok (.ireturn, 1) := by decide +kernel
theorem de_M_isKept_47 : decode mb_M_isKept 47 = .ok (.iinc 3 1, 3) := by decide +kernel
theorem de_M_isKept_50 : decode mb_M_isKept 50 = .ok (.goto (-35), 3) := by decide +kernel
theorem de_M_isKept_53 : decode mb_M_isKept 53 = .ok (.iconst 0, 1) := by decide +kernel
theorem de_M_isKept_54 : decode mb_M_isKept 54 = .ok (.ireturn, 1) := by decide +kernel
theorem de_M_isTop_0 : decode mb_M_isTop 0 = .ok (.aload_n 0, 1) := by decide +kernel
theorem de_M_isTop_1 : decode mb_M_isTop 1 = .ok (.getfield 17, 3) := by decide +kernel
theorem de_M_isTop_4 : decode mb_M_isTop 4 = .ok (.iload_n 1, 1) := by decide +kernel
theorem de_M_isTop_5 : decode mb_M_isTop 5 = .ok (.iaload, 1) := by decide +kernel
theorem de_M_isTop_6 : decode mb_M_isTop 6 = .ok (.iload_n 3, 1) := by decide +kernel
theorem de_M_isTop_7 : decode mb_M_isTop 7 = .ok (.if_icmp .le 5, 3) := by decide +kernel
theorem de_M_isTop_10 : decode mb_M_isTop 10 = .ok (.iconst 0, 1) := by decide +kernel
theorem de_M_isTop_11 : decode mb_M_isTop 11 = .ok (.ireturn, 1) := by decide +kernel
theorem de_M_isTop_12 : decode mb_M_isTop 12 = .ok (.iconst 0, 1) := by decide +kernel
theorem de_M_isTop_13 : decode mb_M_isTop 13 = .ok (.istore 4, 2) := by decide +kernel
theorem de_M_isTop_15 : decode mb_M_isTop 15 = .ok (.iload 4, 2) := by decide +kernel
theorem de_M_isTop_17 : decode mb_M_isTop 17 = .ok (.aload_n 0, 1) := by decide +kernel
theorem de_M_isTop_18 : decode mb_M_isTop 18 = .ok (.getfield 61, 3) := by decide +kernel
theorem de_M_isTop_21 : decode mb_M_isTop 21 = .ok (.if_icmp .ge 80, 3) := by decide +kernel
theorem de_M_isTop_24 : decode mb_M_isTop 24 = .ok (.aload_n 0, 1) := by decide +kernel
theorem de_M_isTop_25 : decode mb_M_isTop 25 = .ok (.getfield 13, 3) := by decide +kernel
theorem de_M_isTop_28 : decode mb_M_isTop 28 = .ok (.iload 4, 2) := by decide +kernel
theorem de_M_isTop_30 : decode mb_M_isTop 30 = .ok (.iaload, 1) := by decide +kernel
theorem de_M_isTop_31 : decode mb_M_isTop 31 = .ok (.aload_n 0, 1) := by decide +kernel
theorem de_M_isTop_32 : decode mb_M_isTop 32 = .ok (.getfield 13, 3) := by decide +kernel
theorem de_M_isTop_35 : decode mb_M_isTop 35 = .ok (.iload_n 1, 1) := by decide +kernel
theorem de_M_isTop_36 : decode mb_M_isTop 36 = .ok (.iaload, 1) := by decide +kernel
theorem de_M_isTop_37 : decode mb_M_isTop 37 = .ok (.if_icmp .ne 58, 3) := by decide +kernel
theorem de_M_isTop_40 : decode mb_M_isTop 40 = .ok (.aload_n 0, 1) := by decide +kernel
theorem de_M_isTop_41 : decode mb_M_isTop 41 = .ok (.getfield 20, 3) := by decide +kernel
theorem de_M_isTop_44 : decode mb_M_isTop 44 = .ok (.iload 4, 2) := by decide +kernel
theorem de_M_isTop_46 : decode mb_M_isTop 46 = .ok (.iaload, 1) := by decide +kernel
theorem de_M_isTop_47 : decode mb_M_isTop 47 = .ok (.ifCond .lt 48, 3) := by decide +kernel
theorem de_M_isTop_50 : decode mb_M_isTop 50 = .ok (.aload_n 0, 1) := by decide +kernel
theorem de_M_isTop_51 : decode mb_M_isTop 51 = .ok (.getfield 23, 3) := by decide +kernel
theorem de_M_isTop_54 : decode mb_M_isTop 54 = .ok (.aload_n 0, 1) := by decide +kernel
theorem de_M_isTop_55 : decode mb_M_isTop 55 = .ok (.getfield 20, 3) := by decide +kernel
theorem de_M_isTop_58 : decode mb_M_isTop 58 = .ok (.iload 4, 2) := by decide +kernel
theorem de_M_isTop_60 : decode mb_M_isTop 60 = .ok (.iaload, 1) := by decide +kernel
theorem de_M_isTop_61 : decode mb_M_isTop 61 = .ok (.iaload, 1) := by decide +kernel
theorem de_M_isTop_62 : decode mb_M_isTop 62 = .ok (.iload_n 2, 1) := by decide +kernel
theorem de_M_isTop_63 : decode mb_M_isTop 63 = .ok (.if_icmp .ne 32, 3) := by decide +kernel
theorem de_M_isTop_66 : decode mb_M_isTop 66 = .ok (.aload_n 0, 1) := by decide +kernel
theorem de_M_isTop_67 : decode mb_M_isTop 67 = .ok (.getfield 17, 3) := by decide +kernel
theorem de_M_isTop_70 : decode mb_M_isTop 70 = .ok (.iload 4, 2) := by decide +kernel
theorem de_M_isTop_72 : decode mb_M_isTop 72 = .ok (.iaload, 1) := by decide +kernel
theorem de_M_isTop_73 : decode mb_M_isTop 73 = .ok (.aload_n 0, 1) := by decide +kernel
theorem de_M_isTop_74 : decode mb_M_isTop 74 = .ok (.getfield 17, 3) := by decide +kernel
theorem de_M_isTop_77 : decode mb_M_isTop 77 = .ok (.iload_n 1, 1) := by decide +kernel
theorem de_M_isTop_78 : decode mb_M_isTop 78 = .ok (.iaload, 1) := by decide +kernel
theorem de_M_isTop_79 : decode mb_M_isTop 79 = .ok (.if_icmp .le 16, 3) := by decide +kernel
theorem de_M_isTop_82 : decode mb_M_isTop 82 = .ok (.aload_n 0, 1) := by decide +kernel
theorem de_M_isTop_83 : decode mb_M_isTop 83 = .ok (.getfield 17, 3) := by decide +kernel
theorem de_M_isTop_86 : decode mb_M_isTop 86 = .ok (.iload 4, 2) := by decide +kernel
theorem de_M_isTop_88 : decode mb_M_isTop 88 = .ok (.iaload, 1) := by decide +kernel
theorem de_M_isTop_89 : decode mb_M_isTop 89 = .ok (.iload_n 3, 1) := by decide +kernel
theorem de_M_isTop_90 : decode mb_M_isTop 90 = .ok (.if_icmp .gt 5, 3) := by decide +kernel
theorem de_M_isTop_93 : decode mb_M_isTop 93 = .ok (.iconst 0, 1) := by decide +kernel
theorem de_M_isTop_94 : decode mb_M_isTop 94 = .ok (.ireturn, 1) := by decide +kernel
theorem de_M_isTop_95 : decode mb_M_isTop 95 = .ok (.iinc 4 1, 3) := by decide +kernel
theorem de_M_isTop_98 : decode mb_M_isTop 98 = .ok (.goto (-83), 3) := by decide +kernel
theorem de_M_isTop_101 : decode mb_M_isTop 101 = .ok (.iconst 1, 1) := by decide +kernel
theorem de_M_isTop_102 : decode mb_M_isTop 102 = .ok (.ireturn, 1) := by decide +kernel
theorem de_M_isLast_0 : decode mb_M_isLast 0 = .ok (.iconst 0, 1) := by decide +kernel
theorem de_M_isLast_1 : decode mb_M_isLast 1 = .ok (.istore_n 2, 1) := by decide +kernel
theorem de_M_isLast_2 : decode mb_M_isLast 2 = .ok (.iload_n 2, 1) := by decide +kernel
theorem de_M_isLast_3 : decode mb_M_isLast 3 = .ok (.aload_n 0, 1) := by decide +kernel
theorem de_M_isLast_4 : decode mb_M_isLast 4 = .ok (.getfield 61, 3) := by decide +kernel
theorem de_M_isLast_7 : decode mb_M_isLast 7 = .ok (.if_icmp .ge 50, 3) := by decide +kernel
theorem de_M_isLast_10 : decode mb_M_isLast 10 = .ok (.aload_n 0, 1) := by decide +kernel
theorem de_M_isLast_11 : decode mb_M_isLast 11 = .ok (.getfield 52, 3) := by decide +kernel
theorem de_M_isLast_14 : decode mb_M_isLast 14 = .ok (.iload_n 2, 1) := by decide +kernel
theorem de_M_isLast_15 : decode mb_M_isLast 15 = .ok (.baload, 1) := by decide +kernel
theorem de_M_isLast_16 : decode mb_M_isLast 16 = .ok (.ifCond .eq 35, 3) := by decide +kernel
theorem de_M_isLast_19 : decode mb_M_isLast 19 = .ok (.aload_n 0, 1) := by decide +kernel
theorem de_M_isLast_20 : decode mb_M_isLast 20 = .ok (.getfield 13, 3) := by decide +kernel
theorem de_M_isLast_23 : decode mb_M_isLast 23 = .ok (.iload_n 2, 1) := by decide +kernel
theorem de_M_isLast_24 : decode mb_M_isLast 24 = .ok (.iaload, 1) := by decide +kernel
theorem de_M_isLast_25 : decode mb_M_isLast 25 = .ok (.aload_n 0, 1) := by decide +kernel
theorem de_M_isLast_26 : decode mb_M_isLast 26 = .ok (.getfield 13, 3) := by decide +kernel
theorem de_M_isLast_29 : decode mb_M_isLast 29 = .ok (.iload_n 1, 1) := by decide +kernel
theorem de_M_isLast_30 : decode mb_M_isLast 30 = .ok (.iaload, 1) := by decide +kernel
theorem de_M_isLast_31 : decode mb_M_isLast 31 = .ok (.if_icmp .ne 20, 3) := by decide +kernel
theorem de_M_isLast_34 : decode mb_M_isLast 34 = .ok (.aload_n 0, 1) := by decide +kernel
theorem de_M_isLast_35 : decode mb_M_isLast 35 = .ok (.getfield 17, 3) := by decide +kernel
theorem de_M_isLast_38 : decode mb_M_isLast 38 = .ok (.iload_n 2, 1) := by decide +kernel
theorem de_M_isLast_39 : decode mb_M_isLast 39 = .ok (.iaload, 1) := by decide +kernel
theorem de_M_isLast_40 : decode mb_M_isLast 40 = .ok (.aload_n 0, 1) := by decide +kernel
theorem de_M_isLast_41 : decode mb_M_isLast 41 = .ok (.getfield 17, 3) := by decide +kernel
theorem de_M_isLast_44 : decode mb_M_isLast 44 = .ok (.iload_n 1, 1) := by decide +kernel
theorem de_M_isLast_45 : decode mb_M_isLast 45 = .ok (.iaload, 1) := by decide +kernel
theorem de_M_isLast_46 : decode mb_M_isLast 46 = .ok (.if_icmp .ge 5, 3) := by decide +kernel
theorem de_M_isLast_49 : decode mb_M_isLast 49 = .ok (.iconst 0, 1) := by decide +kernel
theorem de_M_isLast_50 : decode mb_M_isLast 50 = .ok (.ireturn, 1) := by decide +kernel
theorem de_M_isLast_51 : decode mb_M_isLast 51 = .ok (.iinc 2 1, 3) := by decide +kernel
theorem de_M_isLast_54 : decode mb_M_isLast 54 = .ok (.goto (-52), 3) := by decide +kernel
theorem de_M_isLast_57 : decode mb_M_isLast 57 = .ok (.iconst 1, 1) := by decide +kernel
theorem de_M_isLast_58 : decode mb_M_isLast 58 = .ok (.ireturn, 1) := by decide +kernel
theorem de_M_crash_0 : decode mb_M_crash 0 = .ok (.aload_n 0, 1) := by decide +kernel
theorem de_M_crash_1 : decode mb_M_crash 1 = .ok (.iconst 0, 1) := by decide +kernel
theorem de_M_crash_2 : decode mb_M_crash 2 = .ok (.putfield 58, 3) := by decide +kernel
theorem de_M_crash_5 : decode mb_M_crash 5 = .ok (.iconst 0, 1) := by decide +kernel
theorem de_M_crash_6 : decode mb_M_crash 6 = .ok (.istore_n 1, 1) := by decide +kernel
theorem de_M_crash_7 : decode mb_M_crash 7 = .ok (.iconst 0, 1) := by decide +kernel
theorem de_M_crash_8 : decode mb_M_crash 8 = .ok (.istore_n 2, 1) := by decide +kernel
theorem de_M_crash_9 : decode mb_M_crash 9 = .ok (.iconst 0, 1) := by decide +kernel
theorem de_M_crash_10 : decode mb_M_crash 10 = .ok (.istore_n 3, 1) := by decide +kernel
theorem de_M_crash_11 : decode mb_M_crash 11 = .ok (.iconst 0, 1) := by decide +kernel
theorem de_M_crash_12 : decode mb_M_crash 12 = .ok (.istore 4, 2) := by decide +kernel
theorem de_M_crash_14 : decode mb_M_crash 14 = .ok (.iload 4, 2) := by decide +kernel
theorem de_M_crash_16 : decode mb_M_crash 16 = .ok (.aload_n 0, 1) := by decide +kernel
theorem de_M_crash_17 : decode mb_M_crash 17 = .ok (.getfield 61, 3) := by decide +kernel
theorem de_M_crash_20 : decode mb_M_crash 20 = .ok (.if_icmp .ge 118, 3) := by decide +kernel
theorem de_M_crash_23 : decode mb_M_crash 23 = .ok (.aload_n 0, 1) := by decide +kernel
theorem de_M_crash_24 : decode mb_M_crash 24 = .ok (.getfield 20, 3) := by decide +kernel
theorem de_M_crash_27 : decode mb_M_crash 27 = .ok (.iload 4, 2) := by decide +kernel
theorem de_M_crash_29 : decode mb_M_crash 29 = .ok (.iaload, 1) := by decide +kernel
theorem de_M_crash_30 : decode mb_M_crash 30 = .ok (.ifCond .ge 17, 3) := by decide +kernel
theorem de_M_crash_33 : decode mb_M_crash 33 = .ok (.iload_n 2, 1) := by decide +kernel
theorem de_M_crash_34 : decode mb_M_crash 34 = .ok (.iinc 2 1, 3) := by decide +kernel
theorem de_M_crash_37 : decode mb_M_crash 37 = .ok (.aload_n 0, 1) := by decide +kernel
theorem de_M_crash_38 : decode mb_M_crash 38 = .ok (.getfield 94, 3) := by decide +kernel
theorem de_M_crash_41 : decode mb_M_crash 41 = .ok (.if_icmp .lt 6, 3) := by decide +kernel
theorem de_M_crash_44 : decode mb_M_crash 44 = .ok (.goto 88, 3) := by decide +kernel
theorem de_M_crash_47 : decode mb_M_crash 47 = .ok (.aload_n 0, 1) := by decide +kernel
theorem de_M_crash_48 : decode mb_M_crash 48 = .ok (.getfield 13, 3) := by decide +kernel
theorem de_M_crash_51 : decode mb_M_crash 51 = .ok (.iload_n 1, 1) := by decide +kernel
theorem de_M_crash_52 : decode mb_M_crash 52 = .ok (.aload_n 0, 1) := by decide +kernel
theorem de_M_crash_53 : decode mb_M_crash 53 = .ok (.getfield 13, 3) := by decide +kernel
theorem de_M_crash_56 : decode mb_M_crash 56 = .ok (.iload 4, 2) := by decide +kernel
theorem de_M_crash_58 : decode mb_M_crash 58 = .ok (.iaload, 1) := by decide +kernel
theorem de_M_crash_59 : decode mb_M_crash 59 = .ok (.iastore, 1) := by decide +kernel
theorem de_M_crash_60 : decode mb_M_crash 60 = .ok (.aload_n 0, 1) := by decide +kernel
theorem de_M_crash_61 : decode mb_M_crash 61 = .ok (.getfield 17, 3) := by decide +kernel
theorem de_M_crash_64 : decode mb_M_crash 64 = .ok (.iload_n 1, 1) := by decide +kernel
theorem de_M_crash_65 : decode mb_M_crash 65 = .ok (.aload_n 0, 1) := by decide +kernel
theorem de_M_crash_66 : decode mb_M_crash 66 = .ok (.getfield 17, 3) := by decide +kernel
theorem de_M_crash_69 : decode mb_M_crash 69 = .ok (.iload 4, 2) := by decide +kernel
theorem de_M_crash_71 : decode mb_M_crash 71 = .ok (.iaload, 1) := by decide +kernel
theorem de_M_crash_72 : decode mb_M_crash 72 = .ok (.iastore, 1) := by decide +kernel
theorem de_M_crash_73 : decode mb_M_crash 73 = .ok (.aload_n 0, 1) := by decide +kernel
theorem de_M_crash_74 : decode mb_M_crash 74 = .ok (.getfield 35, 3) := by decide +kernel
theorem de_M_crash_77 : decode mb_M_crash 77 = .ok (.iload_n 1, 1) := by decide +kernel
theorem de_M_crash_78 : decode mb_M_crash 78 = .ok (.aload_n 0, 1) := by decide +kernel
theorem de_M_crash_79 : decode mb_M_crash 79 = .ok (.getfield 35, 3) := by decide +kernel
theorem de_M_crash_82 : decode mb_M_crash 82 = .ok (.iload 4, 2) := by decide +kernel
theorem de_M_crash_84 : decode mb_M_crash 84 = .ok (.laload, 1) := by decide +kernel
theorem de_M_crash_85 : decode mb_M_crash 85 = .ok (.lastore, 1) := by decide +kernel
theorem de_M_crash_86 : decode mb_M_crash 86 = .ok (.aload_n 0, 1) := by decide +kernel
theorem de_M_crash_87 : decode mb_M_crash 87 = .ok (.getfield 42, 3) := by decide +kernel
theorem de_M_crash_90 : decode mb_M_crash 90 = .ok (.iload_n 1, 1) := by decide +kernel
theorem de_M_crash_91 : decode mb_M_crash 91 = .ok (.aload_n 0, 1) := by decide +kernel
theorem de_M_crash_92 : decode mb_M_crash 92 = .ok (.getfield 42, 3) := by decide +kernel
theorem de_M_crash_95 : decode mb_M_crash 95 = .ok (.iload 4, 2) := by decide +kernel
theorem de_M_crash_97 : decode mb_M_crash 97 = .ok (.baload, 1) := by decide +kernel
theorem de_M_crash_98 : decode mb_M_crash 98 = .ok (.bastore, 1) := by decide +kernel
theorem de_M_crash_99 : decode mb_M_crash 99 = .ok (.aload_n 0, 1) := by decide +kernel
theorem de_M_crash_100 : decode mb_M_crash 100 = .ok (.getfield 20, 3) := by decide +kernel
theorem de_M_crash_103 : decode mb_M_crash 103 = .ok (.iload_n 1, 1) := by decide +kernel
theorem de_M_crash_104 : decode mb_M_crash 104 = .ok (.aload_n 0, 1) := by decide +kernel
theorem de_M_crash_105 : decode mb_M_crash 105 = .ok (.getfield 20, 3) := by decide +kernel
theorem de_M_crash_108 : decode mb_M_crash 108 = .ok (.iload 4, 2) := by decide +kernel
theorem de_M_crash_110 : decode mb_M_crash 110 = .ok (.iaload, 1) := by decide +kernel
theorem de_M_crash_111 : decode mb_M_crash 111 = .ok (.iastore, 1) := by decide +kernel
theorem de_M_crash_112 : decode mb_M_crash 112 = .ok (.aload_n 0, 1) := by decide +kernel
theorem de_M_crash_113 : decode mb_M_crash 113 = .ok (.getfield 17, 3) := by decide +kernel
theorem de_M_crash_116 : decode mb_M_crash 116 = .ok (.iload_n 1, 1) := by decide +kernel
theorem de_M_crash_117 : decode mb_M_crash 117 = .ok (.iaload, 1) := by decide +kernel
theorem de_M_crash_118 : decode mb_M_crash 118 = .ok (.iload_n 3, 1) := by decide +kernel
theorem de_M_crash_119 : decode mb_M_crash 119 = .ok (.if_icmp .le 10, 3) := by decide +kernel
theorem de_M_crash_122 : decode mb_M_crash 122 = .ok (.aload_n 0, 1) := by decide +kernel
theorem de_M_crash_123 : decode mb_M_crash 123 = .ok (.getfield 17, 3) := by decide +kernel
theorem de_M_crash_126 : decode mb_M_crash 126 = .ok (.iload_n 1, 1) := by decide +kernel
theorem de_M_crash_127 : decode mb_M_crash 127 = .ok (.iaload, 1) := by decide +kernel
theorem de_M_crash_128 : decode mb_M_crash 128 = .ok (.istore_n 3, 1) := by decide +kernel
theorem de_M_crash_129 : decode mb_M_crash 129 = .ok (.iinc 1 1, 3) := by decide +kernel
theorem de_M_crash_132 : decode mb_M_crash 132 = .ok (.iinc 4 1, 3) := by decide +kernel
theorem de_M_crash_135 : decode mb_M_crash 135 = .ok (.goto (-121), 3) := by decide +kernel
theorem de_M_crash_138 : decode mb_M_crash 138 = .ok (.aload_n 0, 1) := by decide +kernel
theorem de_M_crash_139 : decode mb_M_crash 139 = .ok (.iload_n 1, 1) := by decide +kernel
theorem de_M_crash_140 : decode mb_M_crash 140 = .ok (.putfield 61, 3) := by decide +kernel
theorem de_M_crash_143 : decode mb_M_crash 143 = .ok (.aload_n 0, 1) := by decide +kernel
theorem de_M_crash_144 : decode mb_M_crash 144 = .ok (.iload_n 3, 1) := by decide +kernel
theorem de_M_crash_145 : decode mb_M_crash 145 = .ok (.putfield 64, 3) := by decide +kernel
theorem de_M_crash_148 : decode mb_M_crash 148 = .ok (.aload_n 0, 1) := by decide +kernel
theorem de_M_crash_149 : decode mb_M_crash 149 = .ok (.iconst (-1), 1) := by decide +kernel
theorem de_M_crash_150 : decode mb_M_crash 150 = .ok (.putfield 7, 3) := by decide +kernel
theorem de_M_crash_153 : decode mb_M_crash 153 = .ok (.iconst 0, 1) := by decide +kernel
theorem de_M_crash_154 : decode mb_M_crash 154 = .ok (.istore 4, 2) := by decide +kernel
theorem de_M_crash_156 : decode mb_M_crash 156 = .ok (.iload 4, 2) := by decide +kernel
theorem de_M_crash_158 : decode mb_M_crash 158 = .ok (.bipush 6, 2) := by decide +kernel
theorem de_M_crash_160 : decode mb_M_crash 160 = .ok (.if_icmp .ge 17, 3) := by decide +kernel
theorem de_M_crash_163 : decode mb_M_crash 163 = .ok (.aload_n 0, 1) := by decide +kernel
theorem de_M_crash_164 : decode mb_M_crash 164 = .ok (.getfield 46, 3) := by decide +kernel
theorem de_M_crash_167 : decode mb_M_crash 167 = .ok (.iload 4, 2) := by decide +kernel
theorem de_M_crash_169 : decode mb_M_crash 169 = .ok (.iconst 0, 1) := by decide +kernel
theorem de_M_crash_170 : decode mb_M_crash 170 = .ok (.bastore, 1) := by decide +kernel
theorem de_M_crash_171 : decode mb_M_crash 171 = .ok (.iinc 4 1, 3) := by decide +kernel
theorem de_M_crash_174 : decode mb_M_crash 174 = .ok (.goto (-18), 3) := by decide +kernel
theorem de_M_crash_177 : decode mb_M_crash 177 = .ok (.aload_n 0, 1) := by decide +kernel
theorem de_M_crash_178 : decode mb_M_crash 178 = .ok (.iconst (-1), 1) := by decide +kernel
theorem de_M_crash_179 : decode mb_M_crash 179 = .ok (.invokevirtual 79, 3) := by decide +kernel
theorem de_M_crash_182 : decode mb_M_crash 182 = .ok (.ireturn, 1) := by decide +kernel
theorem de_M_snapshot_0 : decode mb_M_snapshot 0 = .ok (.aload_n 0, 1) := by decide +kernel
theorem de_M_snapshot_1 : decode mb_M_snapshot 1 = .ok (.iconst 0, 1) := by decide +kernel
theorem de_M_snapshot_2 : decode mb_M_snapshot 2 = .ok (.putfield 58, 3) := by decide +kernel
theorem de_M_snapshot_5 : decode mb_M_snapshot 5 = .ok (.iconst 0, 1) := by decide +kernel
theorem de_M_snapshot_6 : decode mb_M_snapshot 6 = .ok (.istore_n 1, 1) := by decide +kernel
theorem de_M_snapshot_7 : decode mb_M_snapshot 7 = .ok (.iload_n 1, 1) := by decide +kernel
theorem de_M_snapshot_8 : decode mb_M_snapshot 8 = .ok (.bipush 6, 2) := by decide +kernel
theorem de_M_snapshot_10 : decode mb_M_snapshot 10 = .ok (.if_icmp .ge 18, 3) := by decide +kernel
theorem de_M_snapshot_13 : decode mb_M_snapshot 13 = .ok (.aload_n 0, 1) := by decide +kernel
theorem de_M_snapshot_14 : decode mb_M_snapshot 14 = .ok (.getfield 46, 3) := by decide +kernel
theorem de_M_snapshot_17 : decode mb_M_snapshot 17 = .ok (.iload_n 1, 1) := by decide +kernel
theorem de_M_snapshot_18 : decode mb_M_snapshot 18 = .ok (.baload, 1) := by decide +kernel
theorem de_M_snapshot_19 : decode mb_M_snapshot 19 = .ok (.ifCond .eq 9, 3) := by decide +kernel
theorem de_M_snapshot_22 : decode mb_M_snapshot 22 = .ok (.iinc 1 1, 3) := by decide +kernel
theorem de_M_snapshot_25 : decode mb_M_snapshot 25 = .ok (.goto (-18), 3) := by decide +kernel
theorem de_M_snapshot_28 : decode mb_M_snapshot 28 = .ok (.aload_n 0, 1) := by decide +kernel
theorem de_M_snapshot_29 : decode mb_M_snapshot 29 = .ok (.iload_n 1, 1) := by decide +kernel
theorem de_M_snapshot_30 : decode mb_M_snapshot 30 = .ok (.bipush 6, 2) := by decide +kernel
theorem de_M_snapshot_32 : decode mb_M_snapshot 32 = .ok (.if_icmp .ne 7, 3) := by decide +kernel
theorem de_M_snapshot_35 : decode mb_M_snapshot 35 = .ok (.iconst 1, 1) := by decide +kernel
theorem de_M_snapshot_36 : decode mb_M_snapshot 36 = .ok (.goto 4, 3) := by decide +kernel
theorem de_M_snapshot_39 : decode mb_M_snapshot 39 = .ok (.iconst 0, 1) := by decide +kernel
theorem de_M_snapshot_40 : decode mb_M_snapshot 40 = .ok (.iconst 1, 1) := by decide +kernel
theorem de_M_snapshot_41 : decode mb_M_snapshot 41 = .ok (.invokevirtual 71, 3) := by decide +kernel
theorem de_M_snapshot_44 : decode mb_M_snapshot 44 = .ok (.ifCond .eq 5, 3) := by decide +kernel
theorem de_M_snapshot_47 : decode mb_M_snapshot 47 = .ok (.iconst 0, 1) := by decide +kernel
theorem de_M_snapshot_48 : decode mb_M_snapshot 48 = .ok (.ireturn, 1) := by decide +kernel
theorem de_M_snapshot_49 : decode mb_M_snapshot 49 = .ok (.aload_n 0, 1) := by decide +kernel
theorem de_M_snapshot_50 : decode mb_M_snapshot 50 = .ok (.getfield 46, 3) := by decide +kernel
theorem de_M_snapshot_53 : decode mb_M_snapshot 53 = .ok (.iload_n 1, 1) := by decide +kernel
theorem de_M_snapshot_54 : decode mb_M_snapshot 54 = .ok (.iconst 1, 1) := by decide +kernel
theorem de_M_snapshot_55 : decode mb_M_snapshot 55 = .ok (.bastore, 1) := by decide +kernel
theorem de_M_snapshot_56 : decode mb_M_snapshot 56 = .ok (.aload_n 0, 1) := by decide +kernel
theorem de_M_snapshot_57 : decode mb_M_snapshot 57 = .ok (.getfield 26, 3) := by decide +kernel
theorem de_M_snapshot_60 : decode mb_M_snapshot 60 = .ok (.iload_n 1, 1) := by decide +kernel
theorem de_M_snapshot_61 : decode mb_M_snapshot 61 = .ok (.aload_n 0, 1) := by decide +kernel
theorem de_M_snapshot_62 : decode mb_M_snapshot 62 = .ok (.getfield 64, 3) := by decide +kernel
theorem de_M_snapshot_65 : decode mb_M_snapshot 65 = .ok (.iastore, 1) := by decide +kernel
theorem de_M_snapshot_66 : decode mb_M_snapshot 66 = .ok (.iload_n 1, 1) := by decide +kernel
theorem de_M_snapshot_67 : decode mb_M_snapshot 67 = .ok (.ireturn, 1) := by decide +kernel
theorem de_M_release_0 : decode mb_M_release 0 = .ok (.aload_n 0, 1) := by decide +kernel
theorem de_M_release_1 : decode mb_M_release 1 = .ok (.iconst 0, 1) := by decide +kernel
theorem de_M_release_2 : decode mb_M_release 2 = .ok (.putfield 58, 3) := by decide +kernel
theorem de_M_release_5 : decode mb_M_release 5 = .ok (.aload_n 0, 1) := by decide +kernel
theorem de_M_release_6 : decode mb_M_release 6 = .ok (.aload_n 0, 1) := by decide +kernel
theorem de_M_release_7 : decode mb_M_release 7 = .ok (.iload_n 1, 1) := by decide +kernel
theorem de_M_release_8 : decode mb_M_release 8 = .ok (.invokevirtual 118, 3) := by decide +kernel
theorem de_M_release_11 : decode mb_M_release 11 = .ok (.iconst 1, 1) := by decide +kernel
theorem de_M_release_12 : decode mb_M_release 12 = .ok (.invokevirtual 71, 3) := by decide +kernel
theorem de_M_release_15 : decode mb_M_release 15 = .ok (.ifCond .ne 10, 3) := by decide +kernel
theorem de_M_release_18 : decode mb_M_release 18 = .ok (.aload_n 0, 1) := by decide +kernel
theorem de_M_release_19 : decode mb_M_release 19 = .ok (.getfield 46, 3) := by decide +kernel
theorem de_M_release_22 : decode mb_M_release 22 = .ok (.iload_n 1, 1) := by decide +kernel
theorem de_M_release_23 : decode mb_M_release 23 = .ok (.iconst 0, 1) := by decide +kernel
theorem de_M_release_24 : decode mb_M_release 24 = .ok (.bastore, 1) := by decide +kernel
theorem de_M_release_25 : decode mb_M_release 25 = .ok (.return_, 1) := by decide +kernel
theorem de_M_isNone_0 : decode mb_M_isNone 0 = .ok (.iload_n 1, 1) := by decide +kernel
theorem de_M_isNone_1 : decode mb_M_isNone 1 = .ok (.iconst 0, 1) := by decide +kernel
theorem de_M_isNone_2 : decode mb_M_isNone 2 = .ok (.iconst 5, 1) := by decide +kernel
theorem de_M_isNone_3 : decode mb_M_isNone 3 = .ok (.invokestatic 67, 3) := by decide +kernel
theorem de_M_isNone_6 : decode mb_M_isNone 6 = .ok (.ifCond .eq 12, 3) := by decide +kernel
theorem de_M_isNone_9 : decode mb_M_isNone 9 = .ok (.aload_n 0, 1) := by decide +kernel
theorem de_M_isNone_10 : decode mb_M_isNone 10 = .ok (.getfield 46, 3) := by decide +kernel
theorem de_M_isNone_13 : decode mb_M_isNone 13 = .ok (.iload_n 1, 1) := by decide +kernel
theorem de_M_isNone_14 : decode mb_M_isNone 14 = .ok (.baload, 1) := by decide +kernel
theorem de_M_isNone_15 : decode mb_M_isNone 15 = .ok (.ifCond .ne 7, 3) := by decide +kernel
theorem de_M_isNone_18 : decode mb_M_isNone 18 = .ok (.iconst 1, 1) := by decide +kernel
theorem de_M_isNone_19 : decode mb_M_isNone 19 = .ok (.goto 4, 3) := by decide +kernel
theorem de_M_isNone_22 : decode mb_M_isNone 22 = .ok (.iconst 0, 1) := by decide +kernel
theorem de_M_isNone_23 : decode mb_M_isNone 23 = .ok (.ireturn, 1) := by decide +kernel
theorem de_M_get_0 : decode mb_M_get 0 = .ok (.aload_n 0, 1) := by decide +kernel
theorem de_M_get_1 : decode mb_M_get 1 = .ok (.iconst 0, 1) := by decide +kernel
theorem de_M_get_2 : decode mb_M_get 2 = .ok (.putfield 58, 3) := by decide +kernel
theorem de_M_get_5 : decode mb_M_get 5 = .ok (.aload_n 0, 1) := by decide +kernel
theorem de_M_get_6 : decode mb_M_get 6 = .ok (.iload_n 2, 1) := by decide +kernel
theorem de_M_get_7 : decode mb_M_get 7 = .ok (.iconst 0, 1) := by decide +kernel
theorem de_M_get_8 : decode mb_M_get 8 = .ok (.sipush 1023, 3) := by decide +kernel
theorem de_M_get_11 : decode mb_M_get 11 = .ok (.invokestatic 67, 3) := by decide +kernel
theorem de_M_get_14 : decode mb_M_get 14 = .ok (.ifCond .eq 16, 3) := by decide +kernel
theorem de_M_get_17 : decode mb_M_get 17 = .ok (.iload_n 1, 1) := by decide +kernel
theorem de_M_get_18 : decode mb_M_get 18 = .ok (.iconst (-1), 1) := by decide +kernel
theorem de_M_get_19 : decode mb_M_get 19 = .ok (.if_icmp .eq 15, 3) := by decide +kernel
theorem de_M_get_22 : decode mb_M_get 22 = .ok (.aload_n 0, 1) := by decide +kernel
theorem de_M_get_23 : decode mb_M_get 23 = .ok (.iload_n 1, 1) := by decide +kernel
theorem de_M_get_24 : decode mb_M_get 24 = .ok (.invokevirtual 118, 3) := by decide +kernel
theorem de_M_get_27 : decode mb_M_get 27 = .ok (.ifCond .eq 7, 3) := by decide +kernel
theorem de_M_get_30 : decode mb_M_get 30 = .ok (.iconst 1, 1) := by decide +kernel
theorem de_M_get_31 : decode mb_M_get 31 = .ok (.goto 4, 3) := by decide +kernel
theorem de_M_get_34 : decode mb_M_get 34 = .ok (.iconst 0, 1) := by decide +kernel
theorem de_M_get_35 : decode mb_M_get 35 = .ok (.iconst 1, 1) := by decide +kernel
theorem de_M_get_36 : decode mb_M_get 36 = .ok (.invokevirtual 71, 3) := by decide +kernel
theorem de_M_get_39 : decode mb_M_get 39 = .ok (.ifCond .eq 5, 3) := by decide +kernel
theorem de_M_get_42 : decode mb_M_get 42 = .ok (.lconst 0, 1) := by decide +kernel
theorem de_M_get_43 : decode mb_M_get 43 = .ok (.lreturn, 1) := by decide +kernel
theorem de_M_get_44 : decode mb_M_get 44 = .ok (.aload_n 0, 1) := by decide +kernel
theorem de_M_get_45 : decode mb_M_get 45 = .ok (.iload_n 2, 1) := by decide +kernel
theorem de_M_get_46 : decode mb_M_get 46 = .ok (.aload_n 0, 1) := by decide +kernel
theorem de_M_get_47 : decode mb_M_get 47 = .ok (.iload_n 1, 1) := by decide +kernel
theorem de_M_get_48 : decode mb_M_get 48 = .ok (.invokevirtual 121, 3) := by decide +kernel
theorem de_M_get_51 : decode mb_M_get 51 = .ok (.invokevirtual 124, 3) := by decide +kernel
theorem de_M_get_54 : decode mb_M_get 54 = .ok (.istore_n 3, 1) := by decide +kernel
theorem de_M_get_55 : decode mb_M_get 55 = .ok (.aload_n 0, 1) := by decide +kernel
theorem de_M_get_56 : decode mb_M_get 56 = .ok (.iload_n 2, 1) := by decide +kernel
theorem de_M_get_57 : decode mb_M_get 57 = .ok (.iload_n 3, 1) := by decide +kernel
theorem de_M_get_58 : decode mb_M_get 58 = .ok (.invokevirtual 128, 3) := by decide +kernel
theorem de_M_get_61 : decode mb_M_get 61 = .ok (.aload_n 0, 1) := by decide +kernel
theorem de_M_get_62 : decode mb_M_get 62 = .ok (.iload_n 3, 1) := by decide +kernel
theorem de_M_get_63 : decode mb_M_get 63 = .ok (.ifCond .lt 12, 3) := by decide +kernel
theorem de_M_get_66 : decode mb_M_get 66 = .ok (.aload_n 0, 1) := by decide +kernel
theorem de_M_get_67 : decode mb_M_get 67 = .ok (.getfield 42, 3) := by decide +kernel
theorem de_M_get_70 : decode mb_M_get 70 = .ok (.iload_n 3, 1) := by decide +kernel
theorem de_M_get_71 : decode mb_M_get 71 = .ok (.baload, 1) := by decide +kernel
theorem de_M_get_72 : decode mb_M_get 72 = .ok (.ifCond .eq 7, 3) := by decide +kernel
theorem de_M_get_75 : decode mb_M_get 75 = .ok (.iconst 1, 1) := by decide +kernel
theorem de_M_get_76 : decode mb_M_get 76 = .ok (.goto 4, 3) := by decide +kernel
theorem de_M_get_79 : decode mb_M_get 79 = .ok (.iconst 0, 1) := by decide +kernel
theorem de_M_get_80 : decode mb_M_get 80 = .ok (.iconst 2, 1) := by decide +kernel
theorem de_M_get_81 : decode mb_M_get 81 = .ok (.invokevirtual 71, 3) := by decide +kernel
theorem de_M_get_84 : decode mb_M_get 84 = .ok (.ifCond .eq 7, 3) := by decide +kernel
theorem de_M_get_87 : decode mb_M_get 87 = .ok (.lconst 0, 1) := by decide +kernel
theorem de_M_get_88 : decode mb_M_get 88 = .ok (.goto 9, 3) := by decide +kernel
theorem de_M_get_91 : decode mb_M_get 91 = .ok (.aload_n 0, 1) := by decide +kernel
theorem de_M_get_92 : decode mb_M_get 92 = .ok (.getfield 35, 3) := by decide +kernel
theorem de_M_get_95 : decode mb_M_get 95 = .ok (.iload_n 3, 1) := by decide +kernel
theorem de_M_get_96 : decode mb_M_get 96 = .ok (.laload, 1) := by decide +kernel
theorem de_M_get_97 : decode mb_M_get 97 = .ok (.lreturn, 1) := by decide +kernel
theorem de_M_upTo_0 : decode mb_M_upTo 0 = .ok (.iload_n 1, 1) := by decide +kernel
theorem de_M_upTo_1 : decode mb_M_upTo 1 = .ok (.iconst (-1), 1) := by decide +kernel
theorem de_M_upTo_2 : decode mb_M_upTo 2 = .ok (.if_icmp .ne 8, 3) := by decide +kernel
theorem de_M_upTo_5 : decode mb_M_upTo 5 = .ok (.ldc 110, 2) := by decide +kernel
theorem de_M_upTo_7 : decode mb_M_upTo 7 = .ok (.goto 9, 3) := by decide +kernel
theorem de_M_upTo_10 : decode mb_M_upTo 10 = .ok (.aload_n 0, 1) := by decide +kernel
theorem de_M_upTo_11 : decode mb_M_upTo 11 = .ok (.getfield 26, 3) := by decide +kernel
theorem de_M_upTo_14 : decode mb_M_upTo 14 = .ok (.iload_n 1, 1) := by decide +kernel
theorem de_M_upTo_15 : decode mb_M_upTo 15 = .ok (.iaload, 1) := by decide +kernel
theorem de_M_upTo_16 : decode mb_M_upTo 16 = .ok (.ireturn, 1) := by decide +kernel
theorem de_M_best_0 : decode mb_M_best 0 = .ok (.iconst (-1), 1) := by decide +kernel
theorem de_M_best_1 : decode mb_M_best 1 = .ok (.istore_n 3, 1) := by decide +kernel
theorem de_M_best_2 : decode mb_M_best 2 = .ok (.iconst 0, 1) := by decide +kernel
theorem de_M_best_3 : decode mb_M_best 3 = .ok (.istore 4, 2) := by decide +kernel
theorem de_M_best_5 : decode mb_M_best 5 = .ok (.iload 4, 2) := by decide +kernel
theorem de_M_best_7 : decode mb_M_best 7 = .ok (.aload_n 0, 1) := by decide +kernel
theorem de_M_best_8 : decode mb_M_best 8 = .ok (.getfield 61, 3) := by decide +kernel
theorem de_M_best_11 : decode mb_M_best 11 = .ok (.if_icmp .ge 54, 3) := by decide +kernel
theorem de_M_best_14 : decode mb_M_best 14 = .ok (.aload_n 0, 1) := by decide +kernel
theorem de_M_best_15 : decode mb_M_best 15 = .ok (.getfield 13, 3) := by decide +kernel
theorem de_M_best_18 : decode mb_M_best 18 = .ok (.iload 4, 2) := by decide +kernel
theorem de_M_best_20 : decode mb_M_best 20 = .ok (.iaload, 1) := by decide +kernel
theorem de_M_best_21 : decode mb_M_best 21 = .ok (.iload_n 1, 1) := by decide +kernel
theorem de_M_best_22 : decode mb_M_best 22 = .ok (.if_icmp .ne 37, 3) := by decide +kernel
theorem de_M_best_25 : decode mb_M_best 25 = .ok (.aload_n 0, 1) := by decide +kernel
theorem de_M_best_26 : decode mb_M_best 26 = .ok (.getfield 17, 3) := by decide +kernel
theorem de_M_best_29 : decode mb_M_best 29 = .ok (.iload 4, 2) := by decide +kernel
theorem de_M_best_31 : decode mb_M_best 31 = .ok (.iaload, 1) := by decide +kernel
theorem de_M_best_32 : decode mb_M_best 32 = .ok (.iload_n 2, 1) := by decide +kernel
theorem de_M_best_33 : decode mb_M_best 33 = .ok (.if_icmp .gt 26, 3) := by decide +kernel
theorem de_M_best_36 : decode mb_M_best 36 = .ok (.iload_n 3, 1) := by decide +kernel
theorem de_M_best_37 : decode mb_M_best 37 = .ok (.ifCond .lt 19, 3) := by decide +kernel
theorem de_M_best_40 : decode mb_M_best 40 = .ok (.aload_n 0, 1) := by decide +kernel
theorem de_M_best_41 : decode mb_M_best 41 = .ok (.getfield 17, 3) := by decide +kernel
theorem de_M_best_44 : decode mb_M_best 44 = .ok (.iload 4, 2) := by decide +kernel
theorem de_M_best_46 : decode mb_M_best 46 = .ok (.iaload, 1) := by decide +kernel
theorem de_M_best_47 : decode mb_M_best 47 = .ok (.aload_n 0, 1) := by decide +kernel
theorem de_M_best_48 : decode mb_M_best 48 = .ok (.getfield 17, 3) := by decide +kernel
theorem de_M_best_51 : decode mb_M_best 51 = .ok (.iload_n 3, 1) := by decide +kernel
theorem de_M_best_52 : decode mb_M_best 52 = .ok (.iaload, 1) := by decide +kernel
theorem de_M_best_53 : decode mb_M_best 53 = .ok (.if_icmp .le 6, 3) := by decide +kernel
theorem de_M_best_56 : decode mb_M_best 56 = .ok (.iload 4, 2) := by decide +kernel
theorem de_M_best_58 : decode mb_M_best 58 = .ok (.istore_n 3, 1) := by decide +kernel
theorem de_M_best_59 : decode mb_M_best 59 = .ok (.iinc 4 1, 3) := by decide +kernel
theorem de_M_best_62 : decode mb_M_best 62 = .ok (.goto (-57), 3) := by decide +kernel
theorem de_M_best_65 : decode mb_M_best 65 = .ok (.iload_n 3, 1) := by decide +kernel
theorem de_M_best_66 : decode mb_M_best 66 = .ok (.ireturn, 1) := by decide +kernel
theorem de_M_probe_0 : decode mb_M_probe 0 = .ok (.aload_n 0, 1) := by decide +kernel
theorem de_M_probe_1 : decode mb_M_probe 1 = .ok (.iconst 0, 1) := by decide +kernel
theorem de_M_probe_2 : decode mb_M_probe 2 = .ok (.putfield 132, 3) := by decide +kernel
theorem de_M_probe_5 : decode mb_M_probe 5 = .ok (.aload_n 0, 1) := by decide +kernel
theorem de_M_probe_6 : decode mb_M_probe 6 = .ok (.iconst 0, 1) := by decide +kernel
theorem de_M_probe_7 : decode mb_M_probe 7 = .ok (.putfield 135, 3) := by decide +kernel
theorem de_M_probe_10 : decode mb_M_probe 10 = .ok (.iload_n 2, 1) := by decide +kernel
theorem de_M_probe_11 : decode mb_M_probe 11 = .ok (.ifCond .lt 13, 3) := by decide +kernel
theorem de_M_probe_14 : decode mb_M_probe 14 = .ok (.aload_n 0, 1) := by decide +kernel
theorem de_M_probe_15 : decode mb_M_probe 15 = .ok (.getfield 20, 3) := by decide +kernel
theorem de_M_probe_18 : decode mb_M_probe 18 = .ok (.iload_n 2, 1) := by decide +kernel
theorem de_M_probe_19 : decode mb_M_probe 19 = .ok (.iaload, 1) := by decide +kernel
theorem de_M_probe_20 : decode mb_M_probe 20 = .ok (.ifCond .ge 4, 3) := by decide +kernel
theorem de_M_probe_23 : decode mb_M_probe 23 = .ok (.return_, 1) := by decide +kernel
theorem de_M_probe_24 : decode mb_M_probe 24 = .ok (.iconst 0, 1) := by decide +kernel
theorem de_M_probe_25 : decode mb_M_probe 25 = .ok (.istore_n 3, 1) := by decide +kernel
theorem de_M_probe_26 : decode mb_M_probe 26 = .ok (.iload_n 3, 1) := by decide +kernel
theorem de_M_probe_27 : decode mb_M_probe 27 = .ok (.bipush 6, 2) := by decide +kernel
theorem de_M_probe_29 : decode mb_M_probe 29 = .ok (.if_icmp .ge 147, 3) := by decide +kernel
theorem de_M_probe_32 : decode mb_M_probe 32 = .ok (.aload_n 0, 1) := by decide +kernel
theorem de_M_probe_33 : decode mb_M_probe 33 = .ok (.getfield 91, 3) := by decide +kernel
theorem de_M_probe_36 : decode mb_M_probe 36 = .ok (.iconst 1, 1) := by decide +kernel
theorem de_M_probe_37 : decode mb_M_probe 37 = .ok (.isub, 1) := by decide +kernel
theorem de_M_probe_38 : decode mb_M_probe 38 = .ok (.istore 4, 2) := by decide +kernel
theorem de_M_probe_40 : decode mb_M_probe 40 = .ok (.iload 4, 2) := by decide +kernel
theorem de_M_probe_42 : decode mb_M_probe 42 = .ok (.ifCond .lt 128, 3) := by decide +kernel
theorem de_M_probe_45 : decode mb_M_probe 45 = .ok (.aload_n 0, 1) := by decide +kernel
theorem de_M_probe_46 : decode mb_M_probe 46 = .ok (.getfield 23, 3) := by decide +kernel
theorem de_M_probe_49 : decode mb_M_probe 49 = .ok (.iload 4, 2) := by decide +kernel
theorem de_M_probe_51 : decode mb_M_probe 51 = .ok (.iaload, 1) := by decide +kernel
theorem de_M_probe_52 : decode mb_M_probe 52 = .ok (.iload_n 3, 1) := by decide +kernel
theorem de_M_probe_53 : decode mb_M_probe 53 = .ok (.if_icmp .eq 6, 3) := by decide +kernel
theorem de_M_probe_56 : decode mb_M_probe 56 = .ok (.goto 108, 3) := by decide +kernel
theorem de_M_probe_59 : decode mb_M_probe 59 = .ok (.aload_n 0, 1) := by decide +kernel
theorem de_M_probe_60 : decode mb_M_probe 60 = .ok (.iload 4, 2) := by decide +kernel
theorem de_M_probe_62 : decode mb_M_probe 62 = .ok (.iload_n 1, 1) := by decide +kernel
theorem de_M_probe_63 : decode mb_M_probe 63 = .ok (.invokevirtual 138, 3) := by decide +kernel
theorem de_M_probe_66 : decode mb_M_probe 66 = .ok (.ifCond .eq 82, 3) := by decide +kernel
theorem de_M_probe_69 : decode mb_M_probe 69 = .ok (.aload_n 0, 1) := by decide +kernel
theorem de_M_probe_70 : decode mb_M_probe 70 = .ok (.dup, 1) := by decide +kernel
theorem de_M_probe_71 : decode mb_M_probe 71 = .ok (.getfield 132, 3) := by decide +kernel
theorem de_M_probe_74 : decode mb_M_probe 74 = .ok (.iconst 1, 1) := by decide +kernel
theorem de_M_probe_75 : decode mb_M_probe 75 = .ok (.iadd, 1) := by decide +kernel
theorem de_M_probe_76 : decode mb_M_probe 76 = .ok (.putfield 132, 3) := by decide +kernel
theorem de_M_probe_79 : decode mb_M_probe 79 = .ok (.iconst 0, 1) := by decide +kernel
theorem de_M_probe_80 : decode mb_M_probe 80 = .ok (.istore 5, 2) := by decide +kernel
theorem de_M_probe_82 : decode mb_M_probe 82 = .ok (.iconst 0, 1) := by decide +kernel
theorem de_M_probe_83 : decode mb_M_probe 83 = .ok (.istore 6, 2) := by decide +kernel
theorem de_M_probe_85 : decode mb_M_probe 85 = .ok (.iload 6, 2) := by decide +kernel
theorem de_M_probe_87 : decode mb_M_probe 87 = .ok (.aload_n 0, 1) := by decide +kernel
theorem de_M_probe_88 : decode mb_M_probe 88 = .ok (.getfield 61, 3) := by decide +kernel
theorem de_M_probe_91 : decode mb_M_probe 91 = .ok (.if_icmp .ge 42, 3) := by decide +kernel
theorem de_M_probe_94 : decode mb_M_probe 94 = .ok (.iload 5, 2) := by decide +kernel
theorem de_M_probe_96 : decode mb_M_probe 96 = .ok (.aload_n 0, 1) := by decide +kernel
theorem de_M_probe_97 : decode mb_M_probe 97 = .ok (.getfield 20, 3) := by decide +kernel
theorem de_M_probe_100 : decode mb_M_probe 100 = .ok (.iload 6, 2) := by decide +kernel
theorem de_M_probe_102 : decode mb_M_probe 102 = .ok (.iaload, 1) := by decide +kernel
theorem de_M_probe_103 : decode mb_M_probe 103 = .ok (.iload 4, 2) := by decide +kernel
theorem de_M_probe_105 : decode mb_M_probe 105 = .ok (.if_icmp .ne 18, 3) := by decide +kernel
theorem de_M_probe_108 : decode mb_M_probe 108 = .ok (.aload_n 0, 1) := by decide +kernel
theorem de_M_probe_109 : decode mb_M_probe 109 = .ok (.getfield 13, 3) := by decide +kernel
theorem de_M_probe_112 : decode mb_M_probe 112 = .ok (.iload 6, 2) := by decide +kernel
theorem de_M_probe_114 : decode mb_M_probe 114 = .ok (.iaload, 1) := by decide +kernel
theorem de_M_probe_115 : decode mb_M_probe 115 = .ok (.iload_n 1, 1) := by decide +kernel
theorem de_M_probe_116 : decode mb_M_probe 116 = .ok (.if_icmp .ne 7, 3) := by decide +kernel
theorem de_M_probe_119 : decode mb_M_probe 119 = .ok (.iconst 1, 1) := by decide +kernel
theorem de_M_probe_120 : decode mb_M_probe 120 = .ok (.goto 4, 3) := by decide +kernel
theorem de_M_probe_123 : decode mb_M_probe 123 = .ok (.iconst 0, 1) := by decide +kernel
theorem de_M_probe_124 : decode mb_M_probe 124 = .ok (.ior, 1) := by decide +kernel
theorem de_M_probe_125 : decode mb_M_probe 125 = .ok (.istore 5, 2) := by decide +kernel
theorem de_M_probe_127 : decode mb_M_probe 127 = .ok (.iinc 6 1, 3) := by decide +kernel
theorem de_M_probe_130 : decode mb_M_probe 130 = .ok (.goto (-45), 3) := by decide +kernel
theorem de_M_probe_133 : decode mb_M_probe 133 = .ok (.iload 5, 2) := by decide +kernel
theorem de_M_probe_135 : decode mb_M_probe 135 = .ok (.ifCond .ne 13, 3) := by decide +kernel
theorem de_M_probe_138 : decode mb_M_probe 138 = .ok (.aload_n 0, 1) := by decide +kernel
theorem de_M_probe_139 : decode mb_M_probe 139 = .ok (.dup, 1) := by decide +kernel
theorem de_M_probe_140 : decode mb_M_probe 140 = .ok (.getfield 135, 3) := by decide +kernel
theorem de_M_probe_143 : decode mb_M_probe 143 = .ok (.iconst 1, 1) := by decide +kernel
theorem de_M_probe_144 : decode mb_M_probe 144 = .ok (.iadd, 1) := by decide +kernel
theorem de_M_probe_145 : decode mb_M_probe 145 = .ok (.putfield 135, 3) := by decide +kernel
theorem de_M_probe_148 : decode mb_M_probe 148 = .ok (.iload_n 2, 1) := by decide +kernel
theorem de_M_probe_149 : decode mb_M_probe 149 = .ok (.ifCond .lt 15, 3) := by decide +kernel
theorem de_M_probe_152 : decode mb_M_probe 152 = .ok (.aload_n 0, 1) := by decide +kernel
theorem de_M_probe_153 : decode mb_M_probe 153 = .ok (.getfield 20, 3) := by decide +kernel
theorem de_M_probe_156 : decode mb_M_probe 156 = .ok (.iload_n 2, 1) := by decide +kernel
theorem de_M_probe_157 : decode mb_M_probe 157 = .ok (.iaload, 1) := by decide +kernel
theorem de_M_probe_158 : decode mb_M_probe 158 = .ok (.iload 4, 2) := by decide +kernel
theorem de_M_probe_160 : decode mb_M_probe 160 = .ok (.if_icmp .ne 4, 3) := by decide +kernel
theorem de_M_probe_163 : decode mb_M_probe 163 = .ok (.return_, 1) := by decide +kernel
theorem de_M_probe_164 : decode mb_M_probe 164 = .ok (.iinc 4 (-1), 3) := by decide +kernel
theorem de_M_probe_167 : decode mb_M_probe 167 = .ok (.goto (-127), 3) := by decide +kernel
theorem de_M_probe_170 : decode mb_M_probe 170 = .ok (.iinc 3 1, 3) := by decide +kernel
theorem de_M_probe_173 : decode mb_M_probe 173 = .ok (.goto (-147), 3) := by decide +kernel
theorem de_M_probe_176 : decode mb_M_probe 176 = .ok (.return_, 1) := by decide +kernel
theorem de_M_isAsked_0 : decode mb_M_isAsked 0 = .ok (.sipush 1024, 3) := by decide +kernel
theorem de_M_isAsked_3 : decode mb_M_isAsked 3 = .ok (.istore_n 3, 1) := by decide +kernel
theorem de_M_isAsked_4 : decode mb_M_isAsked 4 = .ok (.iconst (-1), 1) := by decide +kernel
theorem de_M_isAsked_5 : decode mb_M_isAsked 5 = .ok (.istore 4, 2) := by decide +kernel
theorem de_M_isAsked_7 : decode mb_M_isAsked 7 = .ok (.bipush 8, 2) := by decide +kernel
theorem de_M_isAsked_9 : decode mb_M_isAsked 9 = .ok (.aload_n 0, 1) := by decide +kernel
theorem de_M_isAsked_10 : decode mb_M_isAsked 10 = .ok (.iload_n 1, 1) := by decide +kernel
theorem de_M_isAsked_11 : decode mb_M_isAsked 11 = .ok (.invokevirtual 79, 3) := by decide +kernel
theorem de_M_isAsked_14 : decode mb_M_isAsked 14 = .ok (.imul, 1) := by decide +kernel
theorem de_M_isAsked_15 : decode mb_M_isAsked 15 = .ok (.bipush 63, 2) := by decide +kernel
theorem de_M_isAsked_17 : decode mb_M_isAsked 17 = .ok (.iadd, 1) := by decide +kernel
theorem de_M_isAsked_18 : decode mb_M_isAsked 18 = .ok (.bipush 64, 2) := by decide +kernel
theorem de_M_isAsked_20 : decode mb_M_isAsked 20 = .ok (.idiv, 1) := by decide +kernel
theorem de_M_isAsked_21 : decode mb_M_isAsked 21 = .ok (.bipush 64, 2) := by decide +kernel
theorem de_M_isAsked_23 : decode mb_M_isAsked 23 = .ok (.imul, 1) := by decide +kernel
theorem de_M_isAsked_24 : decode mb_M_isAsked 24 = .ok (.istore 5, 2) := by decide +kernel
theorem de_M_isAsked_26 : decode mb_M_isAsked 26 = .ok (.iconst 0, 1) := by decide +kernel
theorem de_M_isAsked_27 : decode mb_M_isAsked 27 = .ok (.istore 6, 2) := by decide +kernel
theorem de_M_isAsked_29 : decode mb_M_isAsked 29 = .ok (.iload 6, 2) := by decide +kernel
theorem de_M_isAsked_31 : decode mb_M_isAsked 31 = .ok (.iload 5, 2) := by decide +kernel
theorem de_M_isAsked_33 : decode mb_M_isAsked 33 = .ok (.if_icmp .ge 17, 3) := by decide +kernel
theorem de_M_isAsked_36 : decode mb_M_isAsked 36 = .ok (.aload_n 0, 1) := by decide +kernel
theorem de_M_isAsked_37 : decode mb_M_isAsked 37 = .ok (.getfield 55, 3) := by decide +kernel
theorem de_M_isAsked_40 : decode mb_M_isAsked 40 = .ok (.iload 6, 2) := by decide +kernel
theorem de_M_isAsked_42 : decode mb_M_isAsked 42 = .ok (.iconst 0, 1) := by decide +kernel
theorem de_M_isAsked_43 : decode mb_M_isAsked 43 = .ok (.bastore, 1) := by decide +kernel
theorem de_M_isAsked_44 : decode mb_M_isAsked 44 = .ok (.iinc 6 1, 3) := by decide +kernel
theorem de_M_isAsked_47 : decode mb_M_isAsked 47 = .ok (.goto (-18), 3) := by decide +kernel
theorem de_M_isAsked_50 : decode mb_M_isAsked 50 = .ok (.iconst 0, 1) := by decide +kernel
theorem de_M_isAsked_51 : decode mb_M_isAsked 51 = .ok (.istore 6, 2) := by decide +kernel
theorem de_M_isAsked_53 : decode mb_M_isAsked 53 = .ok (.iload 6, 2) := by decide +kernel
theorem de_M_isAsked_55 : decode mb_M_isAsked 55 = .ok (.aload_n 0, 1) := by decide +kernel
theorem de_M_isAsked_56 : decode mb_M_isAsked 56 = .ok (.getfield 61, 3) := by decide +kernel
theorem de_M_isAsked_59 : decode mb_M_isAsked 59 = .ok (.if_icmp .ge 126, 3) := by decide +kernel
theorem de_M_isAsked_62 : decode mb_M_isAsked 62 = .ok (.aload_n 0, 1) := by decide +kernel
theorem de_M_isAsked_63 : decode mb_M_isAsked 63 = .ok (.getfield 20, 3) := by decide +kernel
theorem de_M_isAsked_66 : decode mb_M_isAsked 66 = .ok (.iload 6, 2) := by decide +kernel
theorem de_M_isAsked_68 : decode mb_M_isAsked 68 = .ok (.iaload, 1) := by decide +kernel
theorem de_M_isAsked_69 : decode mb_M_isAsked 69 = .ok (.iload_n 1, 1) := by decide +kernel
theorem de_M_isAsked_70 : decode mb_M_isAsked 70 = .ok (.if_icmp .eq 6, 3) := by decide +kernel
theorem de_M_isAsked_73 : decode mb_M_isAsked 73 = .ok (.goto 106, 3) := by decide +kernel
theorem de_M_isAsked_76 : decode mb_M_isAsked 76 = .ok (.aload_n 0, 1) := by decide +kernel
theorem de_M_isAsked_77 : decode mb_M_isAsked 77 = .ok (.getfield 13, 3) := by decide +kernel
theorem de_M_isAsked_80 : decode mb_M_isAsked 80 = .ok (.iload 6, 2) := by decide +kernel
theorem de_M_isAsked_82 : decode mb_M_isAsked 82 = .ok (.iaload, 1) := by decide +kernel
theorem de_M_isAsked_83 : decode mb_M_isAsked 83 = .ok (.iload_n 3, 1) := by decide +kernel
theorem de_M_isAsked_84 : decode mb_M_isAsked 84 = .ok (.if_icmp .ge 11, 3) := by decide +kernel
theorem de_M_isAsked_87 : decode mb_M_isAsked 87 = .ok (.aload_n 0, 1) := by decide +kernel
theorem de_M_isAsked_88 : decode mb_M_isAsked 88 = .ok (.getfield 13, 3) := by decide +kernel
theorem de_M_isAsked_91 : decode mb_M_isAsked 91 = .ok (.iload 6, 2) := by decide +kernel
theorem de_M_isAsked_93 : decode mb_M_isAsked 93 = .ok (.iaload, 1) := by decide +kernel
theorem de_M_isAsked_94 : decode mb_M_isAsked 94 = .ok (.istore_n 3, 1) := by decide +kernel
theorem de_M_isAsked_95 : decode mb_M_isAsked 95 = .ok (.aload_n 0, 1) := by decide +kernel
theorem de_M_isAsked_96 : decode mb_M_isAsked 96 = .ok (.getfield 13, 3) := by decide +kernel
theorem de_M_isAsked_99 : decode mb_M_isAsked 99 = .ok (.iload 6, 2) := by decide +kernel
theorem de_M_isAsked_101 : decode mb_M_isAsked 101 = .ok (.iaload, 1) := by decide +kernel
theorem de_M_isAsked_102 : decode mb_M_isAsked 102 = .ok (.iload 4, 2) := by decide +kernel
theorem de_M_isAsked_104 : decode mb_M_isAsked 104 = .ok (.if_icmp .le 12, 3) := by decide +kernel
theorem de_M_isAsked_107 : decode mb_M_isAsked 107 = .ok (.aload_n 0, 1) := by decide +kernel
theorem de_M_isAsked_108 : decode mb_M_isAsked 108 = .ok (.getfield 13, 3) := by decide +kernel
theorem de_M_isAsked_111 : decode mb_M_isAsked 111 = .ok (.iload 6, 2) := by decide +kernel
theorem de_M_isAsked_113 : decode mb_M_isAsked 113 = .ok (.iaload, 1) := by decide +kernel
theorem de_M_isAsked_114 : decode mb_M_isAsked 114 = .ok (.istore 4, 2) := by decide +kernel
theorem de_M_isAsked_116 : decode mb_M_isAsked 116 = .ok (.aload_n 0, 1) := by decide +kernel
theorem de_M_isAsked_117 : decode mb_M_isAsked 117 = .ok (.getfield 55, 3) := by decide +kernel
theorem de_M_isAsked_120 : decode mb_M_isAsked 120 = .ok (.aload_n 0, 1) := by decide +kernel
theorem de_M_isAsked_121 : decode mb_M_isAsked 121 = .ok (.getfield 13, 3) := by decide +kernel
theorem de_M_isAsked_124 : decode mb_M_isAsked 124 = .ok (.iload 6, 2) := by decide +kernel
theorem de_M_isAsked_126 : decode mb_M_isAsked 126 = .ok (.iaload, 1) := by decide +kernel
theorem de_M_isAsked_127 : decode mb_M_isAsked 127 = .ok (.ldc2_w 141, 3) := by decide +kernel
theorem de_M_isAsked_130 : decode mb_M_isAsked 130 = .ok (.iload 5, 2) := by decide +kernel
theorem de_M_isAsked_132 : decode mb_M_isAsked 132 = .ok (.invokestatic 143, 3) := by decide +kernel
theorem de_M_isAsked_135 : decode mb_M_isAsked 135 = .ok (.iconst 1, 1) := by decide +kernel
theorem de_M_isAsked_136 : decode mb_M_isAsked 136 = .ok (.bastore, 1) := by decide +kernel
theorem de_M_isAsked_137 : decode mb_M_isAsked 137 = .ok (.aload_n 0, 1) := by decide +kernel
theorem de_M_isAsked_138 : decode mb_M_isAsked 138 = .ok (.getfield 55, 3) := by decide +kernel
theorem de_M_isAsked_141 : decode mb_M_isAsked 141 = .ok (.aload_n 0, 1) := by decide +kernel
theorem de_M_isAsked_142 : decode mb_M_isAsked 142 = .ok (.getfield 13, 3) := by decide +kernel
theorem de_M_isAsked_145 : decode mb_M_isAsked 145 = .ok (.iload 6, 2) := by decide +kernel
theorem de_M_isAsked_147 : decode mb_M_isAsked 147 = .ok (.iaload, 1) := by decide +kernel
theorem de_M_isAsked_148 : decode mb_M_isAsked 148 = .ok (.ldc2_w 147, 3) := by decide +kernel
theorem de_M_isAsked_151 : decode mb_M_isAsked 151 = .ok (.iload 5, 2) := by decide +kernel
theorem de_M_isAsked_153 : decode mb_M_isAsked 153 = .ok (.invokestatic 143, 3) := by decide +kernel
theorem de_M_isAsked_156 : decode mb_M_isAsked 156 = .ok (.iconst 1, 1) := by decide +kernel
theorem de_M_isAsked_157 : decode mb_M_isAsked 157 = .ok (.bastore, 1) := by decide +kernel
theorem de_M_isAsked_158 : decode mb_M_isAsked 158 = .ok (.aload_n 0, 1) := by decide +kernel
theorem de_M_isAsked_159 : decode mb_M_isAsked 159 = .ok (.getfield 55, 3) := by decide +kernel
theorem de_M_isAsked_162 : decode mb_M_isAsked 162 = .ok (.aload_n 0, 1) := by decide +kernel
theorem de_M_isAsked_163 : decode mb_M_isAsked 163 = .ok (.getfield 13, 3) := by decide +kernel
theorem de_M_isAsked_166 : decode mb_M_isAsked 166 = .ok (.iload 6, 2) := by decide +kernel
theorem de_M_isAsked_168 : decode mb_M_isAsked 168 = .ok (.iaload, 1) := by decide +kernel
theorem de_M_isAsked_169 : decode mb_M_isAsked 169 = .ok (.ldc2_w 149, 3) := by decide +kernel
theorem de_M_isAsked_172 : decode mb_M_isAsked 172 = .ok (.iload 5, 2) := by decide +kernel
theorem de_M_isAsked_174 : decode mb_M_isAsked 174 = .ok (.invokestatic 143, 3) := by decide +kernel
theorem de_M_isAsked_177 : decode mb_M_isAsked 177 = .ok (.iconst 1, 1) := by decide +kernel
theorem de_M_isAsked_178 : decode mb_M_isAsked 178 = .ok (.bastore, 1) := by decide +kernel
theorem de_M_isAsked_179 : decode mb_M_isAsked 179 = .ok (.iinc 6 1, 3) := by decide +kernel
theorem de_M_isAsked_182 : decode mb_M_isAsked 182 = .ok (.goto (-129), 3) := by decide +kernel
theorem de_M_isAsked_185 : decode mb_M_isAsked 185 = .ok (.iload_n 2, 1) := by decide +kernel
theorem de_M_isAsked_186 : decode mb_M_isAsked 186 = .ok (.iload_n 3, 1) := by decide +kernel
theorem de_M_isAsked_187 : decode mb_M_isAsked 187 = .ok (.iload 4, 2) := by decide +kernel
theorem de_M_isAsked_189 : decode mb_M_isAsked 189 = .ok (.invokestatic 67, 3) := by decide +kernel
theorem de_M_isAsked_192 : decode mb_M_isAsked 192 = .ok (.ifCond .eq 58, 3) := by decide +kernel
theorem de_M_isAsked_195 : decode mb_M_isAsked 195 = .ok (.aload_n 0, 1) := by decide +kernel
theorem de_M_isAsked_196 : decode mb_M_isAsked 196 = .ok (.getfield 55, 3) := by decide +kernel
theorem de_M_isAsked_199 : decode mb_M_isAsked 199 = .ok (.iload_n 2, 1) := by decide +kernel
theorem de_M_isAsked_200 : decode mb_M_isAsked 200 = .ok (.ldc2_w 141, 3) := by decide +kernel
theorem de_M_isAsked_203 : decode mb_M_isAsked 203 = .ok (.iload 5, 2) := by decide +kernel
theorem de_M_isAsked_205 : decode mb_M_isAsked 205 = .ok (.invokestatic 143, 3) := by decide +kernel
theorem de_M_isAsked_208 : decode mb_M_isAsked 208 = .ok (.baload, 1) := by decide +kernel
theorem de_M_isAsked_209 : decode mb_M_isAsked 209 = .ok (.ifCond .eq 41, 3) := by decide +kernel
theorem de_M_isAsked_212 : decode mb_M_isAsked 212 = .ok (.aload_n 0, 1) := by decide +kernel
theorem de_M_isAsked_213 : decode mb_M_isAsked 213 = .ok (.getfield 55, 3) := by decide +kernel
theorem de_M_isAsked_216 : decode mb_M_isAsked 216 = .ok (.iload_n 2, 1) := by decide +kernel
theorem de_M_isAsked_217 : decode mb_M_isAsked 217 = .ok (.ldc2_w 147, 3) := by decide +kernel
theorem de_M_isAsked_220 : decode mb_M_isAsked 220 = .ok (.iload 5, 2) := by decide +kernel
theorem de_M_isAsked_222 : decode mb_M_isAsked 222 = .ok (.invokestatic 143, 3) := by decide +kernel
theorem de_M_isAsked_225 : decode mb_M_isAsked 225 = .ok (.baload, 1) := by decide +kernel
theorem de_M_isAsked_226 : decode mb_M_isAsked 226 = .ok (.ifCond .eq 24, 3) := by decide +kernel
theorem de_M_isAsked_229 : decode mb_M_isAsked 229 = .ok (.aload_n 0, 1) := by decide +kernel
theorem de_M_isAsked_230 : decode mb_M_isAsked 230 = .ok (.getfield 55, 3) := by decide +kernel
theorem de_M_isAsked_233 : decode mb_M_isAsked 233 = .ok (.iload_n 2, 1) := by decide +kernel
theorem de_M_isAsked_234 : decode mb_M_isAsked 234 = .ok (.ldc2_w 149, 3) := by decide +kernel
theorem de_M_isAsked_237 : decode mb_M_isAsked 237 = .ok (.iload 5, 2) := by decide +kernel
theorem de_M_isAsked_239 : decode mb_M_isAsked 239 = .ok (.invokestatic 143, 3) := by decide +kernel
theorem de_M_isAsked_242 : decode mb_M_isAsked 242 = .ok (.baload, 1) := by decide +kernel
theorem de_M_isAsked_243 : decode mb_M_isAsked 243 = .ok (.ifCond .eq 7, 3) := by decide +kernel
theorem de_M_isAsked_246 : decode mb_M_isAsked 246 = .ok (.iconst 1, 1) := by decide +kernel
theorem de_M_isAsked_247 : decode mb_M_isAsked 247 = .ok (.goto 4, 3) := by decide +kernel
theorem de_M_isAsked_250 : decode mb_M_isAsked 250 = .ok (.iconst 0, 1) := by decide +kernel
theorem de_M_isAsked_251 : decode mb_M_isAsked 251 = .ok (.ireturn, 1) := by decide +kernel
theorem de_M_bit_0 : decode mb_M_bit 0 = .ok (.iload_n 0, 1) := by decide +kernel
theorem de_M_bit_1 : decode mb_M_bit 1 = .ok (.i2l, 1) := by decide +kernel
theorem de_M_bit_2 : decode mb_M_bit 2 = .ok (.lload_n 1, 1) := by decide +kernel
theorem de_M_bit_3 : decode mb_M_bit 3 = .ok (.lmul, 1) := by decide +kernel
theorem de_M_bit_4 : decode mb_M_bit 4 = .ok (.l2i, 1) := by decide +kernel
theorem de_M_bit_5 : decode mb_M_bit 5 = .ok (.bipush 12, 2) := by decide +kernel
theorem de_M_bit_7 : decode mb_M_bit 7 = .ok (.iushr, 1) := by decide +kernel
theorem de_M_bit_8 : decode mb_M_bit 8 = .ok (.iload_n 3, 1) := by decide +kernel
theorem de_M_bit_9 : decode mb_M_bit 9 = .ok (.irem, 1) := by decide +kernel
theorem de_M_bit_10 : decode mb_M_bit 10 = .ok (.ireturn, 1) := by decide +kernel
theorem de_M_next_0 : decode mb_M_next 0 = .ok (.aload_n 0, 1) := by decide +kernel
theorem de_M_next_1 : decode mb_M_next 1 = .ok (.iconst 0, 1) := by decide +kernel
theorem de_M_next_2 : decode mb_M_next 2 = .ok (.putfield 58, 3) := by decide +kernel
theorem de_M_next_5 : decode mb_M_next 5 = .ok (.aload_n 0, 1) := by decide +kernel
theorem de_M_next_6 : decode mb_M_next 6 = .ok (.iload_n 2, 1) := by decide +kernel
theorem de_M_next_7 : decode mb_M_next 7 = .ok (.iconst 0, 1) := by decide +kernel
theorem de_M_next_8 : decode mb_M_next 8 = .ok (.sipush 1023, 3) := by decide +kernel
theorem de_M_next_11 : decode mb_M_next 11 = .ok (.invokestatic 67, 3) := by decide +kernel
theorem de_M_next_14 : decode mb_M_next 14 = .ok (.ifCond .eq 16, 3) := by decide +kernel
theorem de_M_next_17 : decode mb_M_next 17 = .ok (.iload_n 1, 1) := by decide +kernel
theorem de_M_next_18 : decode mb_M_next 18 = .ok (.iconst (-1), 1) := by decide +kernel
theorem de_M_next_19 : decode mb_M_next 19 = .ok (.if_icmp .eq 15, 3) := by decide +kernel
theorem de_M_next_22 : decode mb_M_next 22 = .ok (.aload_n 0, 1) := by decide +kernel
theorem de_M_next_23 : decode mb_M_next 23 = .ok (.iload_n 1, 1) := by decide +kernel
theorem de_M_next_24 : decode mb_M_next 24 = .ok (.invokevirtual 118, 3) := by decide +kernel
theorem de_M_next_27 : decode mb_M_next 27 = .ok (.ifCond .eq 7, 3) := by decide +kernel
theorem de_M_next_30 : decode mb_M_next 30 = .ok (.iconst 1, 1) := by decide +kernel
theorem de_M_next_31 : decode mb_M_next 31 = .ok (.goto 4, 3) := by decide +kernel
theorem de_M_next_34 : decode mb_M_next 34 = .ok (.iconst 0, 1) := by decide +kernel
theorem de_M_next_35 : decode mb_M_next 35 = .ok (.iconst 1, 1) := by decide +kernel
theorem de_M_next_36 : decode mb_M_next 36 = .ok (.invokevirtual 71, 3) := by decide +kernel
theorem de_M_next_39 : decode mb_M_next 39 = .ok (.ifCond .eq 5, 3) := by decide +kernel
theorem de_M_next_42 : decode mb_M_next 42 = .ok (.iconst 0, 1) := by decide +kernel
theorem de_M_next_43 : decode mb_M_next 43 = .ok (.ireturn, 1) := by decide +kernel
theorem de_M_next_44 : decode mb_M_next 44 = .ok (.iload_n 2, 1) := by decide +kernel
theorem de_M_next_45 : decode mb_M_next 45 = .ok (.istore_n 3, 1) := by decide +kernel
theorem de_M_next_46 : decode mb_M_next 46 = .ok (.iload_n 3, 1) := by decide +kernel
theorem de_M_next_47 : decode mb_M_next 47 = .ok (.sipush 1024, 3) := by decide +kernel
theorem de_M_next_50 : decode mb_M_next 50 = .ok (.if_icmp .ge 38, 3) := by decide +kernel
theorem de_M_next_53 : decode mb_M_next 53 = .ok (.aload_n 0, 1) := by decide +kernel
theorem de_M_next_54 : decode mb_M_next 54 = .ok (.iload_n 3, 1) := by decide +kernel
theorem de_M_next_55 : decode mb_M_next 55 = .ok (.aload_n 0, 1) := by decide +kernel
theorem de_M_next_56 : decode mb_M_next 56 = .ok (.iload_n 1, 1) := by decide +kernel
theorem de_M_next_57 : decode mb_M_next 57 = .ok (.invokevirtual 121, 3) := by decide +kernel
theorem de_M_next_60 : decode mb_M_next 60 = .ok (.invokevirtual 124, 3) := by decide +kernel
theorem de_M_next_63 : decode mb_M_next 63 = .ok (.istore 4, 2) := by decide +kernel
theorem de_M_next_65 : decode mb_M_next 65 = .ok (.iload 4, 2) := by decide +kernel
theorem de_M_next_67 : decode mb_M_next 67 = .ok (.ifCond .lt 15, 3) := by decide +kernel
theorem de_M_next_70 : decode mb_M_next 70 = .ok (.aload_n 0, 1) := by decide +kernel
theorem de_M_next_71 : decode mb_M_next 71 = .ok (.getfield 42, 3) := by decide +kernel
theorem de_M_next_74 : decode mb_M_next 74 = .ok (.iload 4, 2) := by decide +kernel
theorem de_M_next_76 : decode mb_M_next 76 = .ok (.baload, 1) := by decide +kernel
theorem de_M_next_77 : decode mb_M_next 77 = .ok (.ifCond .ne 5, 3) := by decide +kernel
theorem de_M_next_80 : decode mb_M_next 80 = .ok (.iload_n 3, 1) := by decide +kernel
theorem de_M_next_81 : decode mb_M_next 81 = .ok (.ireturn, 1) := by decide +kernel
theorem de_M_next_82 : decode mb_M_next 82 = .ok (.iinc 3 1, 3) := by decide +kernel
theorem de_M_next_85 : decode mb_M_next 85 = .ok (.goto (-39), 3) := by decide +kernel
theorem de_M_next_88 : decode mb_M_next 88 = .ok (.iconst (-1), 1) := by decide +kernel
theorem de_M_next_89 : decode mb_M_next 89 = .ok (.ireturn, 1) := by decide +kernel
theorem de_M_entry_0 : decode mb_M_entry 0 = .ok (.aload_n 0, 1) := by decide +kernel
theorem de_M_entry_1 : decode mb_M_entry 1 = .ok (.iconst 0, 1) := by decide +kernel
theorem de_M_entry_2 : decode mb_M_entry 2 = .ok (.putfield 58, 3) := by decide +kernel
theorem de_M_entry_5 : decode mb_M_entry 5 = .ok (.aload_n 0, 1) := by decide +kernel
theorem de_M_entry_6 : decode mb_M_entry 6 = .ok (.iload_n 1, 1) := by decide +kernel
theorem de_M_entry_7 : decode mb_M_entry 7 = .ok (.iconst 0, 1) := by decide +kernel
theorem de_M_entry_8 : decode mb_M_entry 8 = .ok (.iconst 5, 1) := by decide +kernel
theorem de_M_entry_9 : decode mb_M_entry 9 = .ok (.invokestatic 67, 3) := by decide +kernel
theorem de_M_entry_12 : decode mb_M_entry 12 = .ok (.ifCond .eq 13, 3) := by decide +kernel
theorem de_M_entry_15 : decode mb_M_entry 15 = .ok (.iload 4, 2) := by decide +kernel
theorem de_M_entry_17 : decode mb_M_entry 17 = .ok (.iconst 0, 1) := by decide +kernel
theorem de_M_entry_18 : decode mb_M_entry 18 = .ok (.iconst 2, 1) := by decide +kernel
theorem de_M_entry_19 : decode mb_M_entry 19 = .ok (.invokestatic 67, 3) := by decide +kernel
theorem de_M_entry_22 : decode mb_M_entry 22 = .ok (.ifCond .ne 7, 3) := by decide +kernel
theorem de_M_entry_25 : decode mb_M_entry 25 = .ok (.iconst 1, 1) := by decide +kernel
theorem de_M_entry_26 : decode mb_M_entry 26 = .ok (.goto 4, 3) := by decide +kernel
theorem de_M_entry_29 : decode mb_M_entry 29 = .ok (.iconst 0, 1) := by decide +kernel
theorem de_M_entry_30 : decode mb_M_entry 30 = .ok (.iconst 1, 1) := by decide +kernel
theorem de_M_entry_31 : decode mb_M_entry 31 = .ok (.invokevirtual 71, 3) := by decide +kernel
theorem de_M_entry_34 : decode mb_M_entry 34 = .ok (.ifCond .eq 5, 3) := by decide +kernel
theorem de_M_entry_37 : decode mb_M_entry 37 = .ok (.iconst 0, 1) := by decide +kernel
theorem de_M_entry_38 : decode mb_M_entry 38 = .ok (.ireturn, 1) := by decide +kernel
theorem de_M_entry_39 : decode mb_M_entry 39 = .ok (.iconst (-1), 1) := by decide +kernel
theorem de_M_entry_40 : decode mb_M_entry 40 = .ok (.istore 5, 2) := by decide +kernel
theorem de_M_entry_42 : decode mb_M_entry 42 = .ok (.iconst 0, 1) := by decide +kernel
theorem de_M_entry_43 : decode mb_M_entry 43 = .ok (.istore 6, 2) := by decide +kernel
theorem de_M_entry_45 : decode mb_M_entry 45 = .ok (.iconst 0, 1) := by decide +kernel
theorem de_M_entry_46 : decode mb_M_entry 46 = .ok (.istore 7, 2) := by decide +kernel
theorem de_M_entry_48 : decode mb_M_entry 48 = .ok (.iconst 0, 1) := by decide +kernel
theorem de_M_entry_49 : decode mb_M_entry 49 = .ok (.istore 8, 2) := by decide +kernel
theorem de_M_entry_51 : decode mb_M_entry 51 = .ok (.iload 8, 2) := by decide +kernel
theorem de_M_entry_53 : decode mb_M_entry 53 = .ok (.aload_n 0, 1) := by decide +kernel
theorem de_M_entry_54 : decode mb_M_entry 54 = .ok (.getfield 91, 3) := by decide +kernel
theorem de_M_entry_57 : decode mb_M_entry 57 = .ok (.if_icmp .ge 33, 3) := by decide +kernel
theorem de_M_entry_60 : decode mb_M_entry 60 = .ok (.aload_n 0, 1) := by decide +kernel
theorem de_M_entry_61 : decode mb_M_entry 61 = .ok (.getfield 23, 3) := by decide +kernel
theorem de_M_entry_64 : decode mb_M_entry 64 = .ok (.iload 8, 2) := by decide +kernel
theorem de_M_entry_66 : decode mb_M_entry 66 = .ok (.iaload, 1) := by decide +kernel
theorem de_M_entry_67 : decode mb_M_entry 67 = .ok (.iload_n 1, 1) := by decide +kernel
theorem de_M_entry_68 : decode mb_M_entry 68 = .ok (.if_icmp .ne 16, 3) := by decide +kernel
theorem de_M_entry_71 : decode mb_M_entry 71 = .ok (.iload 6, 2) := by decide +kernel
theorem de_M_entry_73 : decode mb_M_entry 73 = .ok (.iinc 6 1, 3) := by decide +kernel
theorem de_M_entry_76 : decode mb_M_entry 76 = .ok (.iload_n 2, 1) := by decide +kernel
theorem de_M_entry_77 : decode mb_M_entry 77 = .ok (.if_icmp .ne 7, 3) := by decide +kernel
theorem de_M_entry_80 : decode mb_M_entry 80 = .ok (.iload 8, 2) := by decide +kernel
theorem de_M_entry_82 : decode mb_M_entry 82 = .ok (.istore 5, 2) := by decide +kernel
theorem de_M_entry_84 : decode mb_M_entry 84 = .ok (.iinc 8 1, 3) := by decide +kernel
theorem de_M_entry_87 : decode mb_M_entry 87 = .ok (.goto (-36), 3) := by decide +kernel
theorem de_M_entry_90 : decode mb_M_entry 90 = .ok (.aload_n 0, 1) := by decide +kernel
theorem de_M_entry_91 : decode mb_M_entry 91 = .ok (.iload 5, 2) := by decide +kernel
theorem de_M_entry_93 : decode mb_M_entry 93 = .ok (.ifCond .lt 19, 3) := by decide +kernel
theorem de_M_entry_96 : decode mb_M_entry 96 = .ok (.iload_n 3, 1) := by decide +kernel
theorem de_M_entry_97 : decode mb_M_entry 97 = .ok (.iconst 0, 1) := by decide +kernel
theorem de_M_entry_98 : decode mb_M_entry 98 = .ok (.aload_n 0, 1) := by decide +kernel
theorem de_M_entry_99 : decode mb_M_entry 99 = .ok (.iload 5, 2) := by decide +kernel
theorem de_M_entry_101 : decode mb_M_entry 101 = .ok (.invokevirtual 79, 3) := by decide +kernel
theorem de_M_entry_104 : decode mb_M_entry 104 = .ok (.iconst 1, 1) := by decide +kernel
theorem de_M_entry_105 : decode mb_M_entry 105 = .ok (.isub, 1) := by decide +kernel
theorem de_M_entry_106 : decode mb_M_entry 106 = .ok (.invokestatic 67, 3) := by decide +kernel
theorem de_M_entry_109 : decode mb_M_entry 109 = .ok (.ifCond .ne 7, 3) := by decide +kernel
theorem de_M_entry_112 : decode mb_M_entry 112 = .ok (.iconst 1, 1) := by decide +kernel
theorem de_M_entry_113 : decode mb_M_entry 113 = .ok (.goto 4, 3) := by decide +kernel
theorem de_M_entry_116 : decode mb_M_entry 116 = .ok (.iconst 0, 1) := by decide +kernel
theorem de_M_entry_117 : decode mb_M_entry 117 = .ok (.iconst 2, 1) := by decide +kernel
theorem de_M_entry_118 : decode mb_M_entry 118 = .ok (.invokevirtual 71, 3) := by decide +kernel
theorem de_M_entry_121 : decode mb_M_entry 121 = .ok (.ifCond .eq 5, 3) := by decide +kernel
theorem de_M_entry_124 : decode mb_M_entry 124 = .ok (.iconst 0, 1) := by decide +kernel
theorem de_M_entry_125 : decode mb_M_entry 125 = .ok (.ireturn, 1) := by decide +kernel
theorem de_M_entry_126 : decode mb_M_entry 126 = .ok (.iconst 0, 1) := by decide +kernel
theorem de_M_entry_127 : decode mb_M_entry 127 = .ok (.istore 6, 2) := by decide +kernel
theorem de_M_entry_129 : decode mb_M_entry 129 = .ok (.iconst 0, 1) := by decide +kernel
theorem de_M_entry_130 : decode mb_M_entry 130 = .ok (.istore 8, 2) := by decide +kernel
theorem de_M_entry_132 : decode mb_M_entry 132 = .ok (.iload 8, 2) := by decide +kernel
theorem de_M_entry_134 : decode mb_M_entry 134 = .ok (.aload_n 0, 1) := by decide +kernel
theorem de_M_entry_135 : decode mb_M_entry 135 = .ok (.getfield 61, 3) := by decide +kernel
theorem de_M_entry_138 : decode mb_M_entry 138 = .ok (.if_icmp .ge 85, 3) := by decide +kernel
theorem de_M_entry_141 : decode mb_M_entry 141 = .ok (.aload_n 0, 1) := by decide +kernel
theorem de_M_entry_142 : decode mb_M_entry 142 = .ok (.getfield 20, 3) := by decide +kernel
theorem de_M_entry_145 : decode mb_M_entry 145 = .ok (.iload 8, 2) := by decide +kernel
theorem de_M_entry_147 : decode mb_M_entry 147 = .ok (.iaload, 1) := by decide +kernel
theorem de_M_entry_148 : decode mb_M_entry 148 = .ok (.iload 5, 2) := by decide +kernel
theorem de_M_entry_150 : decode mb_M_entry 150 = .ok (.if_icmp .eq 6, 3) := by decide +kernel
theorem de_M_entry_153 : decode mb_M_entry 153 = .ok (.goto 64, 3) := by decide +kernel
theorem de_M_entry_156 : decode mb_M_entry 156 = .ok (.iload 6, 2) := by decide +kernel
theorem de_M_entry_158 : decode mb_M_entry 158 = .ok (.iinc 6 1, 3) := by decide +kernel
theorem de_M_entry_161 : decode mb_M_entry 161 = .ok (.istore 7, 2) := by decide +kernel
theorem de_M_entry_163 : decode mb_M_entry 163 = .ok (.iload 7, 2) := by decide +kernel
theorem de_M_entry_165 : decode mb_M_entry 165 = .ok (.ifCond .le 43, 3) := by decide +kernel
theorem de_M_entry_168 : decode mb_M_entry 168 = .ok (.aload_n 0, 1) := by decide +kernel
theorem de_M_entry_169 : decode mb_M_entry 169 = .ok (.iload 8, 2) := by decide +kernel
theorem de_M_entry_171 : decode mb_M_entry 171 = .ok (.aload_n 0, 1) := by decide +kernel
theorem de_M_entry_172 : decode mb_M_entry 172 = .ok (.getfield 32, 3) := by decide +kernel
theorem de_M_entry_175 : decode mb_M_entry 175 = .ok (.iload 7, 2) := by decide +kernel
theorem de_M_entry_177 : decode mb_M_entry 177 = .ok (.iconst 1, 1) := by decide +kernel
theorem de_M_entry_178 : decode mb_M_entry 178 = .ok (.isub, 1) := by decide +kernel
theorem de_M_entry_179 : decode mb_M_entry 179 = .ok (.iaload, 1) := by decide +kernel
theorem de_M_entry_180 : decode mb_M_entry 180 = .ok (.invokevirtual 151, 3) := by decide +kernel
theorem de_M_entry_183 : decode mb_M_entry 183 = .ok (.ifCond .eq 25, 3) := by decide +kernel
theorem de_M_entry_186 : decode mb_M_entry 186 = .ok (.aload_n 0, 1) := by decide +kernel
theorem de_M_entry_187 : decode mb_M_entry 187 = .ok (.getfield 32, 3) := by decide +kernel
theorem de_M_entry_190 : decode mb_M_entry 190 = .ok (.iload 7, 2) := by decide +kernel
theorem de_M_entry_192 : decode mb_M_entry 192 = .ok (.aload_n 0, 1) := by decide +kernel
theorem de_M_entry_193 : decode mb_M_entry 193 = .ok (.getfield 32, 3) := by decide +kernel
theorem de_M_entry_196 : decode mb_M_entry 196 = .ok (.iload 7, 2) := by decide +kernel
theorem de_M_entry_198 : decode mb_M_entry 198 = .ok (.iconst 1, 1) := by decide +kernel
theorem de_M_entry_199 : decode mb_M_entry 199 = .ok (.isub, 1) := by decide +kernel
theorem de_M_entry_200 : decode mb_M_entry 200 = .ok (.iaload, 1) := by decide +kernel
theorem de_M_entry_201 : decode mb_M_entry 201 = .ok (.iastore, 1) := by decide +kernel
theorem de_M_entry_202 : decode mb_M_entry 202 = .ok (.iinc 7 (-1), 3) := by decide +kernel
theorem de_M_entry_205 : decode mb_M_entry 205 = .ok (.goto (-42), 3) := by decide +kernel
theorem de_M_entry_208 : decode mb_M_entry 208 = .ok (.aload_n 0, 1) := by decide +kernel
theorem de_M_entry_209 : decode mb_M_entry 209 = .ok (.getfield 32, 3) := by decide +kernel
theorem de_M_entry_212 : decode mb_M_entry 212 = .ok (.iload 7, 2) := by decide +kernel
theorem de_M_entry_214 : decode mb_M_entry 214 = .ok (.iload 8, 2) := by decide +kernel
theorem de_M_entry_216 : decode mb_M_entry 216 = .ok (.iastore, 1) := by decide +kernel
theorem de_M_entry_217 : decode mb_M_entry 217 = .ok (.iinc 8 1, 3) := by decide +kernel
theorem de_M_entry_220 : decode mb_M_entry 220 = .ok (.goto (-88), 3) := by decide +kernel
theorem de_M_entry_223 : decode mb_M_entry 223 = .ok (.aload_n 0, 1) := by decide +kernel
theorem de_M_entry_224 : decode mb_M_entry 224 = .ok (.getfield 32, 3) := by decide +kernel
theorem de_M_entry_227 : decode mb_M_entry 227 = .ok (.iload_n 3, 1) := by decide +kernel
theorem de_M_entry_228 : decode mb_M_entry 228 = .ok (.iaload, 1) := by decide +kernel
theorem de_M_entry_229 : decode mb_M_entry 229 = .ok (.istore 8, 2) := by decide +kernel
theorem de_M_entry_231 : decode mb_M_entry 231 = .ok (.iload 4, 2) := by decide +kernel
theorem de_M_entry_233 : decode mb_M_entry 233 = .ok (.ifCond .ne 13, 3) := by decide +kernel
theorem de_M_entry_236 : decode mb_M_entry 236 = .ok (.aload_n 0, 1) := by decide +kernel
theorem de_M_entry_237 : decode mb_M_entry 237 = .ok (.getfield 13, 3) := by decide +kernel
theorem de_M_entry_240 : decode mb_M_entry 240 = .ok (.iload 8, 2) := by decide +kernel
theorem de_M_entry_242 : decode mb_M_entry 242 = .ok (.iaload, 1) := by decide +kernel
theorem de_M_entry_243 : decode mb_M_entry 243 = .ok (.goto 34, 3) := by decide +kernel
theorem de_M_entry_246 : decode mb_M_entry 246 = .ok (.iload 4, 2) := by decide +kernel
theorem de_M_entry_248 : decode mb_M_entry 248 = .ok (.iconst 1, 1) := by decide +kernel
theorem de_M_entry_249 : decode mb_M_entry 249 = .ok (.if_icmp .ne 13, 3) := by decide +kernel
theorem de_M_entry_252 : decode mb_M_entry 252 = .ok (.aload_n 0, 1) := by decide +kernel
theorem de_M_entry_253 : decode mb_M_entry 253 = .ok (.getfield 17, 3) := by decide +kernel
theorem de_M_entry_256 : decode mb_M_entry 256 = .ok (.iload 8, 2) := by decide +kernel
theorem de_M_entry_258 : decode mb_M_entry 258 = .ok (.iaload, 1) := by decide +kernel
theorem de_M_entry_259 : decode mb_M_entry 259 = .ok (.goto 18, 3) := by decide +kernel
theorem de_M_entry_262 : decode mb_M_entry 262 = .ok (.aload_n 0, 1) := by decide +kernel
theorem de_M_entry_263 : decode mb_M_entry 263 = .ok (.getfield 42, 3) := by decide +kernel
theorem de_M_entry_266 : decode mb_M_entry 266 = .ok (.iload 8, 2) := by decide +kernel
theorem de_M_entry_268 : decode mb_M_entry 268 = .ok (.baload, 1) := by decide +kernel
theorem de_M_entry_269 : decode mb_M_entry 269 = .ok (.ifCond .eq 7, 3) := by decide +kernel
theorem de_M_entry_272 : decode mb_M_entry 272 = .ok (.iconst 1, 1) := by decide +kernel
theorem de_M_entry_273 : decode mb_M_entry 273 = .ok (.goto 4, 3) := by decide +kernel
theorem de_M_entry_276 : decode mb_M_entry 276 = .ok (.iconst 0, 1) := by decide +kernel
theorem de_M_entry_277 : decode mb_M_entry 277 = .ok (.ireturn, 1) := by decide +kernel
theorem de_M_comesBefore_0 : decode mb_M_comesBefore 0 = .ok (.aload_n 0, 1) := by decide +kernel
theorem de_M_comesBefore_1 : decode mb_M_comesBefore 1 = .ok (.getfield 13, 3) := by decide +kernel
theorem de_M_comesBefore_4 : decode mb_M_comesBefore 4 = .ok (.iload_n 1, 1) := by decide +kernel
theorem de_M_comesBefore_5 : decode mb_M_comesBefore 5 = .ok (.iaload, 1) := by decide +kernel
theorem de_M_comesBefore_6 : decode mb_M_comesBefore 6 = .ok (.aload_n 0, 1) := by decide +kernel
theorem de_M_comesBefore_7 : decode mb_M_comesBefore 7 = .ok (.getfield 13, 3) := by decide +kernel
theorem de_M_comesBefore_10 : decode mb_M_comesBefore 10 = .ok (.iload_n 2, 1) := by decide +kernel
theorem de_M_comesBefore_11 : decode mb_M_comesBefore 11 = .ok (.iaload, 1) := by decide +kernel
theorem de_M_comesBefore_12 : decode mb_M_comesBefore 12 = .ok (.if_icmp .eq 26, 3) := by decide +kernel
theorem de_M_comesBefore_15 : decode mb_M_comesBefore 15 = .ok (.aload_n 0, 1) := by decide +kernel
theorem de_M_comesBefore_16 : decode mb_M_comesBefore 16 = .ok (.getfield 13, 3) := by decide +kernel
theorem de_M_comesBefore_19 : decode mb_M_comesBefore 19 = .ok (.iload_n 1, 1) := by decide +kernel
theorem de_M_comesBefore_20 : decode mb_M_comesBefore 20 = .ok (.iaload, 1) := by decide +kernel
theorem de_M_comesBefore_21 : decode mb_M_comesBefore 21 = .ok (.aload_n 0, 1) := by decide +kernel
theorem de_M_comesBefore_22 : decode mb_M_comesBefore 22 = .ok (.getfield 13, 3) := by decide +kernel
theorem de_M_comesBefore_25 : decode mb_M_comesBefore 25 = .ok (.iload_n 2, 1) := by decide +kernel
theorem de_M_comesBefore_26 : decode mb_M_comesBefore 26 = .ok (.iaload, 1) := by decide +kernel
theorem de_M_comesBefore_27 : decode mb_M_comesBefore 27 = .ok (.if_icmp .ge 7, 3) := by decide +kernel
theorem de_M_comesBefore_30 : decode mb_M_comesBefore 30 = .ok (.iconst 1, 1) := by decide +kernel
theorem de_M_comesBefore_31 : decode mb_M_comesBefore 31 = .ok (.goto 27, 3) := by decide +kernel
theorem de_M_comesBefore_34 : decode mb_M_comesBefore 34 = .ok (.iconst 0, 1) := by decide +kernel
theorem de_M_comesBefore_35 : decode mb_M_comesBefore 35 = .ok (.goto 23, 3) := by decide +kernel
theorem de_M_comesBefore_38 : decode mb_M_comesBefore 38 = .ok (.aload_n 0, 1) := by decide +kernel
theorem de_M_comesBefore_39 : decode mb_M_comesBefore 39 = .ok (.getfield 17, 3) := by decide +kernel
theorem de_M_comesBefore_42 : decode mb_M_comesBefore 42 = .ok (.iload_n 1, 1) := by decide +kernel
theorem de_M_comesBefore_43 : decode mb_M_comesBefore 43 = .ok (.iaload, 1) := by decide +kernel
theorem de_M_comesBefore_44 : decode mb_M_comesBefore 44 = .ok (.aload_n 0, 1) := by decide +kernel
theorem de_M_comesBefore_45 : decode mb_M_comesBefore 45 = .ok (.getfield 17, 3) := by decide +kernel
theorem de_M_comesBefore_48 : decode mb_M_comesBefore 48 = .ok (.iload_n 2, 1) := by decide +kernel
theorem de_M_comesBefore_49 : decode mb_M_comesBefore 49 = .ok (.iaload, 1) := by decide +kernel
theorem de_M_comesBefore_50 : decode mb_M_comesBefore 50 = .ok (.if_icmp .le 7, 3) := by decide +kernel
theorem de_M_comesBefore_53 : decode mb_M_comesBefore 53 = .ok (.iconst 1, 1) := by decide +kernel
theorem de_M_comesBefore_54 : decode mb_M_comesBefore 54 = .ok (.goto 4, 3) := by decide +kernel
theorem de_M_comesBefore_57 : decode mb_M_comesBefore 57 = .ok (.iconst 0, 1) := by decide +kernel
theorem de_M_comesBefore_58 : decode mb_M_comesBefore 58 = .ok (.ireturn, 1) := by decide +kernel
theorem de_M_count_0 : decode mb_M_count 0 = .ok (.aload_n 0, 1) := by decide +kernel
theorem de_M_count_1 : decode mb_M_count 1 = .ok (.iconst 0, 1) := by decide +kernel
theorem de_M_count_2 : decode mb_M_count 2 = .ok (.putfield 58, 3) := by decide +kernel
theorem de_M_count_5 : decode mb_M_count 5 = .ok (.aload_n 0, 1) := by decide +kernel
theorem de_M_count_6 : decode mb_M_count 6 = .ok (.iload_n 1, 1) := by decide +kernel
theorem de_M_count_7 : decode mb_M_count 7 = .ok (.iconst 0, 1) := by decide +kernel
theorem de_M_count_8 : decode mb_M_count 8 = .ok (.bipush 9, 2) := by decide +kernel
theorem de_M_count_10 : decode mb_M_count 10 = .ok (.invokestatic 67, 3) := by decide +kernel
theorem de_M_count_13 : decode mb_M_count 13 = .ok (.ifCond .eq 17, 3) := by decide +kernel
theorem de_M_count_16 : decode mb_M_count 16 = .ok (.iload_n 1, 1) := by decide +kernel
theorem de_M_count_17 : decode mb_M_count 17 = .ok (.iconst 2, 1) := by decide +kernel
theorem de_M_count_18 : decode mb_M_count 18 = .ok (.if_icmp .ge 16, 3) := by decide +kernel
theorem de_M_count_21 : decode mb_M_count 21 = .ok (.iload_n 2, 1) := by decide +kernel
theorem de_M_count_22 : decode mb_M_count 22 = .ok (.iconst 0, 1) := by decide +kernel
theorem de_M_count_23 : decode mb_M_count 23 = .ok (.iconst 5, 1) := by decide +kernel
theorem de_M_count_24 : decode mb_M_count 24 = .ok (.invokestatic 67, 3) := by decide +kernel
theorem de_M_count_27 : decode mb_M_count 27 = .ok (.ifCond .ne 7, 3) := by decide +kernel
theorem de_M_count_30 : decode mb_M_count 30 = .ok (.iconst 1, 1) := by decide +kernel
theorem de_M_count_31 : decode mb_M_count 31 = .ok (.goto 4, 3) := by decide +kernel
theorem de_M_count_34 : decode mb_M_count 34 = .ok (.iconst 0, 1) := by decide +kernel
theorem de_M_count_35 : decode mb_M_count 35 = .ok (.iconst 1, 1) := by decide +kernel
theorem de_M_count_36 : decode mb_M_count 36 = .ok (.invokevirtual 71, 3) := by decide +kernel
theorem de_M_count_39 : decode mb_M_count 39 = .ok (.ifCond .eq 5, 3) := by decide +kernel
theorem de_M_count_42 : decode mb_M_count 42 = .ok (.iconst 0, 1) := by decide +kernel
theorem de_M_count_43 : decode mb_M_count 43 = .ok (.ireturn, 1) := by decide +kernel
theorem de_M_count_44 : decode mb_M_count 44 = .ok (.iconst 0, 1) := by decide +kernel
theorem de_M_count_45 : decode mb_M_count 45 = .ok (.istore_n 3, 1) := by decide +kernel
theorem de_M_count_46 : decode mb_M_count 46 = .ok (.iload_n 1, 1) := by decide +kernel
theorem de_M_count_47 : decode mb_M_count 47 = .ok (.tableswitch 166 0 8 #[49, 55, 104, 110, 115, 120, 125, 130, 161], 49) := by decide +kernel
theorem de_M_count_96 : decode mb_M_count 96 = .ok (.aload_n 0, 1) := by decide +kernel
theorem de_M_count_97 : decode mb_M_count 97 = .ok (.iload_n 2, 1) := by decide +kernel
theorem de_M_count_98 : decode mb_M_count 98 = .ok (.invokevirtual 97, 3) := by decide +kernel
theorem de_M_count_101 : decode mb_M_count 101 = .ok (.ireturn, 1) := by decide +kernel
theorem de_M_count_102 : decode mb_M_count 102 = .ok (.iconst 0, 1) := by decide +kernel
theorem de_M_count_103 : decode mb_M_count 103 = .ok (.istore 4, 2) := by decide +kernel
theorem de_M_count_105 : decode mb_M_count 105 = .ok (.iload 4, 2) := by decide +kernel
theorem de_M_count_107 : decode mb_M_count 107 = .ok (.aload_n 0, 1) := by decide +kernel
theorem de_M_count_108 : decode mb_M_count 108 = .ok (.getfield 61, 3) := by decide +kernel
theorem de_M_count_111 : decode mb_M_count 111 = .ok (.if_icmp .ge 38, 3) := by decide +kernel
theorem de_M_count_114 : decode mb_M_count 114 = .ok (.aload_n 0, 1) := by decide +kernel
theorem de_M_count_115 : decode mb_M_count 115 = .ok (.getfield 20, 3) := by decide +kernel
theorem de_M_count_118 : decode mb_M_count 118 = .ok (.iload 4, 2) := by decide +kernel
theorem de_M_count_120 : decode mb_M_count 120 = .ok (.iaload, 1) := by decide +kernel
theorem de_M_count_121 : decode mb_M_count 121 = .ok (.ifCond .lt 22, 3) := by decide +kernel
theorem de_M_count_124 : decode mb_M_count 124 = .ok (.aload_n 0, 1) := by decide +kernel
theorem de_M_count_125 : decode mb_M_count 125 = .ok (.getfield 23, 3) := by decide +kernel
theorem de_M_count_128 : decode mb_M_count 128 = .ok (.aload_n 0, 1) := by decide +kernel
theorem de_M_count_129 : decode mb_M_count 129 = .ok (.getfield 20, 3) := by decide +kernel
theorem de_M_count_132 : decode mb_M_count 132 = .ok (.iload 4, 2) := by decide +kernel
theorem de_M_count_134 : decode mb_M_count 134 = .ok (.iaload, 1) := by decide +kernel
theorem de_M_count_135 : decode mb_M_count 135 = .ok (.iaload, 1) := by decide +kernel
theorem de_M_count_136 : decode mb_M_count 136 = .ok (.iload_n 2, 1) := by decide +kernel
theorem de_M_count_137 : decode mb_M_count 137 = .ok (.if_icmp .ne 6, 3) := by decide +kernel
theorem de_M_count_140 : decode mb_M_count 140 = .ok (.iinc 3 1, 3) := by decide +kernel
theorem de_M_count_143 : decode mb_M_count 143 = .ok (.iinc 4 1, 3) := by decide +kernel
theorem de_M_count_146 : decode mb_M_count 146 = .ok (.goto (-41), 3) := by decide +kernel
theorem de_M_count_149 : decode mb_M_count 149 = .ok (.iload_n 3, 1) := by decide +kernel
theorem de_M_count_150 : decode mb_M_count 150 = .ok (.ireturn, 1) := by decide +kernel
theorem de_M_count_151 : decode mb_M_count 151 = .ok (.aload_n 0, 1) := by decide +kernel
theorem de_M_count_152 : decode mb_M_count 152 = .ok (.iconst (-1), 1) := by decide +kernel
theorem de_M_count_153 : decode mb_M_count 153 = .ok (.invokevirtual 79, 3) := by decide +kernel
theorem de_M_count_156 : decode mb_M_count 156 = .ok (.ireturn, 1) := by decide +kernel
theorem de_M_count_157 : decode mb_M_count 157 = .ok (.aload_n 0, 1) := by decide +kernel
theorem de_M_count_158 : decode mb_M_count 158 = .ok (.getfield 94, 3) := by decide +kernel
theorem de_M_count_161 : decode mb_M_count 161 = .ok (.ireturn, 1) := by decide +kernel
theorem de_M_count_162 : decode mb_M_count 162 = .ok (.aload_n 0, 1) := by decide +kernel
theorem de_M_count_163 : decode mb_M_count 163 = .ok (.getfield 64, 3) := by decide +kernel
theorem de_M_count_166 : decode mb_M_count 166 = .ok (.ireturn, 1) := by decide +kernel
theorem de_M_count_167 : decode mb_M_count 167 = .ok (.aload_n 0, 1) := by decide +kernel
theorem de_M_count_168 : decode mb_M_count 168 = .ok (.getfield 132, 3) := by decide +kernel
theorem de_M_count_171 : decode mb_M_count 171 = .ok (.ireturn, 1) := by decide +kernel
theorem de_M_count_172 : decode mb_M_count 172 = .ok (.aload_n 0, 1) := by decide +kernel
theorem de_M_count_173 : decode mb_M_count 173 = .ok (.getfield 135, 3) := by decide +kernel
theorem de_M_count_176 : decode mb_M_count 176 = .ok (.ireturn, 1) := by decide +kernel
theorem de_M_count_177 : decode mb_M_count 177 = .ok (.iconst 0, 1) := by decide +kernel
theorem de_M_count_178 : decode mb_M_count 178 = .ok (.istore 4, 2) := by decide +kernel
theorem de_M_count_180 : decode mb_M_count 180 = .ok (.iload 4, 2) := by decide +kernel
theorem de_M_count_182 : decode mb_M_count 182 = .ok (.bipush 6, 2) := by decide +kernel
theorem de_M_count_184 : decode mb_M_count 184 = .ok (.if_icmp .ge 22, 3) := by decide +kernel
theorem de_M_count_187 : decode mb_M_count 187 = .ok (.aload_n 0, 1) := by decide +kernel
theorem de_M_count_188 : decode mb_M_count 188 = .ok (.getfield 46, 3) := by decide +kernel
theorem de_M_count_191 : decode mb_M_count 191 = .ok (.iload 4, 2) := by decide +kernel
theorem de_M_count_193 : decode mb_M_count 193 = .ok (.baload, 1) := by decide +kernel
theorem de_M_count_194 : decode mb_M_count 194 = .ok (.ifCond .eq 6, 3) := by decide +kernel
theorem de_M_count_197 : decode mb_M_count 197 = .ok (.iinc 3 1, 3) := by decide +kernel
theorem de_M_count_200 : decode mb_M_count 200 = .ok (.iinc 4 1, 3) := by decide +kernel
theorem de_M_count_203 : decode mb_M_count 203 = .ok (.goto (-23), 3) := by decide +kernel
theorem de_M_count_206 : decode mb_M_count 206 = .ok (.iload_n 3, 1) := by decide +kernel
theorem de_M_count_207 : decode mb_M_count 207 = .ok (.ireturn, 1) := by decide +kernel
theorem de_M_count_208 : decode mb_M_count 208 = .ok (.aload_n 0, 1) := by decide +kernel
theorem de_M_count_209 : decode mb_M_count 209 = .ok (.getfield 7, 3) := by decide +kernel
theorem de_M_count_212 : decode mb_M_count 212 = .ok (.ireturn, 1) := by decide +kernel
theorem de_M_count_213 : decode mb_M_count 213 = .ok (.aload_n 0, 1) := by decide +kernel
theorem de_M_count_214 : decode mb_M_count 214 = .ok (.getfield 61, 3) := by decide +kernel
theorem de_M_count_217 : decode mb_M_count 217 = .ok (.ireturn, 1) := by decide +kernel
