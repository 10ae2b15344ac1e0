theorem dX8_isReading_0 : decode cX8_isReading 0 = .ok (.iconst 0, 1) := by decide +kernel
theorem dX8_isReading_1 : decode cX8_isReading 1 = .ok (.istore_n 3, 1) := by decide +kernel
theorem dX8_isReading_2 : decode cX8_isReading 2 = .ok (.iconst 0, 1) := by decide +kernel
theorem dX8_isReading_3 : decode cX8_isReading 3 = .ok (.istore 4, 2) := by decide +kernel
theorem dX8_isReading_5 : decode cX8_isReading 5 = .ok (.iload 4, 2) := by decide +kernel
theorem dX8_isReading_7 : decode cX8_isReading 7 = .ok (.aload_n 0, 1) := by decide +kernel
theorem dX8_isReading_8 : decode cX8_isReading 8 = .ok (.getfield 35, 3) := by decide +kernel
theorem dX8_isReading_11 : decode cX8_isReading 11 = .ok (.iload_n 1, 1) := by decide +kernel
theorem dX8_isReading_12 : decode cX8_isReading 12 = .ok (.iaload, 1) := by decide +kernel
theorem dX8_isReading_13 : decode cX8_isReading 13 = .ok (.if_icmp .ge 35, 3) := by decide +kernel
theorem dX8_isReading_16 : decode cX8_isReading 16 = .ok (.iload_n 3, 1) := by decide +kernel
theorem dX8_isReading_17 : decode cX8_isReading 17 = .ok (.ifCond .ne 19, 3) := by decide +kernel
theorem dX8_isReading_20 : decode cX8_isReading 20 = .ok (.aload_n 0, 1) := by decide +kernel
theorem dX8_isReading_21 : decode cX8_isReading 21 = .ok (.getfield 32, 3) := by decide +kernel
theorem dX8_isReading_24 : decode cX8_isReading 24 = .ok (.bipush 30, 2) := by decide +kernel
theorem dX8_isReading_26 : decode cX8_isReading 26 = .ok (.iload_n 1, 1) := by decide +kernel
theorem dX8_isReading_27 : decode cX8_isReading 27 = .ok (.imul, 1) := by decide +kernel
theorem dX8_isReading_28 : decode cX8_isReading 28 = .ok (.iload 4, 2) := by decide +kernel
theorem dX8_isReading_30 : decode cX8_isReading 30 = .ok (.iadd, 1) := by decide +kernel
theorem dX8_isReading_31 : decode cX8_isReading 31 = .ok (.iaload, 1) := by decide +kernel
theorem dX8_isReading_32 : decode cX8_isReading 32 = .ok (.iload_n 2, 1) := by decide +kernel
theorem dX8_isReading_33 : decode cX8_isReading 33 = .ok (.if_icmp .ne 7, 3) := by decide +kernel
theorem dX8_isReading_36 : decode cX8_isReading 36 = .ok (.iconst 1, 1) := by decide +kernel
theorem dX8_isReading_37 : decode cX8_isReading 37 = .ok (.goto 4, 3) := by decide +kernel
theorem dX8_isReading_40 : decode cX8_isReading 40 = .ok (.iconst 0, 1) := by decide +kernel
theorem dX8_isReading_41 : decode cX8_isReading 41 = .ok (.istore_n 3, 1) := by decide +kernel
theorem dX8_isReading_42 : decode cX8_isReading 42 = .ok (.iinc 4 1, 3) := by decide +kernel
theorem dX8_isReading_45 : decode cX8_isReading 45 = .ok (.goto (-40), 3) := by decide +kernel
theorem dX8_isReading_48 : decode cX8_isReading 48 = .ok (.iload_n 3, 1) := by decide +kernel
theorem dX8_isReading_49 : decode cX8_isReading 49 = .ok (.ireturn, 1) := by decide +kernel
theorem dX8_cell_0 : decode cX8_cell 0 = .ok (.iload_n 1, 1) := by decide +kernel
theorem dX8_cell_1 : decode cX8_cell 1 = .ok (.invokestatic 197, 3) := by decide +kernel
theorem dX8_cell_4 : decode cX8_cell 4 = .ok (.ifCond .ne 5, 3) := by decide +kernel
theorem dX8_cell_7 : decode cX8_cell 7 = .ok (.iconst (-1), 1) := by decide +kernel
theorem dX8_cell_8 : decode cX8_cell 8 = .ok (.ireturn, 1) := by decide +kernel
theorem dX8_cell_9 : decode cX8_cell 9 = .ok (.aload_n 0, 1) := by decide +kernel
theorem dX8_cell_10 : decode cX8_cell 10 = .ok (.invokevirtual 183, 3) := by decide +kernel
theorem dX8_cell_13 : decode cX8_cell 13 = .ok (.iload_n 2, 1) := by decide +kernel
theorem dX8_cell_14 : decode cX8_cell 14 = .ok (.tableswitch 130 0 8 #[50, 50, 50, 50, 62, 89, 96, 117, 124], 50) := by decide +kernel
theorem dX8_cell_64 : decode cX8_cell 64 = .ok (.aload_n 0, 1) := by decide +kernel
theorem dX8_cell_65 : decode cX8_cell 65 = .ok (.getfield 7, 3) := by decide +kernel
theorem dX8_cell_68 : decode cX8_cell 68 = .ok (.bipush 30, 2) := by decide +kernel
theorem dX8_cell_70 : decode cX8_cell 70 = .ok (.iload_n 2, 1) := by decide +kernel
theorem dX8_cell_71 : decode cX8_cell 71 = .ok (.imul, 1) := by decide +kernel
theorem dX8_cell_72 : decode cX8_cell 72 = .ok (.iload_n 1, 1) := by decide +kernel
theorem dX8_cell_73 : decode cX8_cell 73 = .ok (.iadd, 1) := by decide +kernel
theorem dX8_cell_74 : decode cX8_cell 74 = .ok (.iaload, 1) := by decide +kernel
theorem dX8_cell_75 : decode cX8_cell 75 = .ok (.ireturn, 1) := by decide +kernel
theorem dX8_cell_76 : decode cX8_cell 76 = .ok (.aload_n 0, 1) := by decide +kernel
theorem dX8_cell_77 : decode cX8_cell 77 = .ok (.getfield 25, 3) := by decide +kernel
theorem dX8_cell_80 : decode cX8_cell 80 = .ok (.iload_n 1, 1) := by decide +kernel
theorem dX8_cell_81 : decode cX8_cell 81 = .ok (.baload, 1) := by decide +kernel
theorem dX8_cell_82 : decode cX8_cell 82 = .ok (.ifCond .eq 7, 3) := by decide +kernel
theorem dX8_cell_85 : decode cX8_cell 85 = .ok (.iconst 0, 1) := by decide +kernel
theorem dX8_cell_86 : decode cX8_cell 86 = .ok (.goto 16, 3) := by decide +kernel
theorem dX8_cell_89 : decode cX8_cell 89 = .ok (.aload_n 0, 1) := by decide +kernel
theorem dX8_cell_90 : decode cX8_cell 90 = .ok (.iload_n 1, 1) := by decide +kernel
theorem dX8_cell_91 : decode cX8_cell 91 = .ok (.invokevirtual 174, 3) := by decide +kernel
theorem dX8_cell_94 : decode cX8_cell 94 = .ok (.ifCond .le 7, 3) := by decide +kernel
theorem dX8_cell_97 : decode cX8_cell 97 = .ok (.iconst 2, 1) := by decide +kernel
theorem dX8_cell_98 : decode cX8_cell 98 = .ok (.goto 4, 3) := by decide +kernel
theorem dX8_cell_101 : decode cX8_cell 101 = .ok (.iconst 1, 1) := by decide +kernel
theorem dX8_cell_102 : decode cX8_cell 102 = .ok (.ireturn, 1) := by decide +kernel
theorem dX8_cell_103 : decode cX8_cell 103 = .ok (.aload_n 0, 1) := by decide +kernel
theorem dX8_cell_104 : decode cX8_cell 104 = .ok (.getfield 38, 3) := by decide +kernel
theorem dX8_cell_107 : decode cX8_cell 107 = .ok (.iload_n 1, 1) := by decide +kernel
theorem dX8_cell_108 : decode cX8_cell 108 = .ok (.iaload, 1) := by decide +kernel
theorem dX8_cell_109 : decode cX8_cell 109 = .ok (.ireturn, 1) := by decide +kernel
theorem dX8_cell_110 : decode cX8_cell 110 = .ok (.aload_n 0, 1) := by decide +kernel
theorem dX8_cell_111 : decode cX8_cell 111 = .ok (.getfield 25, 3) := by decide +kernel
theorem dX8_cell_114 : decode cX8_cell 114 = .ok (.iload_n 1, 1) := by decide +kernel
theorem dX8_cell_115 : decode cX8_cell 115 = .ok (.baload, 1) := by decide +kernel
theorem dX8_cell_116 : decode cX8_cell 116 = .ok (.ifCond .eq 8, 3) := by decide +kernel
theorem dX8_cell_119 : decode cX8_cell 119 = .ok (.bipush (-4), 2) := by decide +kernel
theorem dX8_cell_121 : decode cX8_cell 121 = .ok (.goto 9, 3) := by decide +kernel
theorem dX8_cell_124 : decode cX8_cell 124 = .ok (.aload_n 0, 1) := by decide +kernel
theorem dX8_cell_125 : decode cX8_cell 125 = .ok (.getfield 29, 3) := by decide +kernel
theorem dX8_cell_128 : decode cX8_cell 128 = .ok (.iload_n 1, 1) := by decide +kernel
theorem dX8_cell_129 : decode cX8_cell 129 = .ok (.iaload, 1) := by decide +kernel
theorem dX8_cell_130 : decode cX8_cell 130 = .ok (.ireturn, 1) := by decide +kernel
theorem dX8_cell_131 : decode cX8_cell 131 = .ok (.aload_n 0, 1) := by decide +kernel
theorem dX8_cell_132 : decode cX8_cell 132 = .ok (.getfield 35, 3) := by decide +kernel
theorem dX8_cell_135 : decode cX8_cell 135 = .ok (.iload_n 1, 1) := by decide +kernel
theorem dX8_cell_136 : decode cX8_cell 136 = .ok (.iaload, 1) := by decide +kernel
theorem dX8_cell_137 : decode cX8_cell 137 = .ok (.ireturn, 1) := by decide +kernel
theorem dX8_cell_138 : decode cX8_cell 138 = .ok (.aload_n 0, 1) := by decide +kernel
theorem dX8_cell_139 : decode cX8_cell 139 = .ok (.iload_n 1, 1) := by decide +kernel
theorem dX8_cell_140 : decode cX8_cell 140 = .ok (.invokevirtual 200, 3) := by decide +kernel
theorem dX8_cell_143 : decode cX8_cell 143 = .ok (.ireturn, 1) := by decide +kernel
theorem dX8_cell_144 : decode cX8_cell 144 = .ok (.iconst (-1), 1) := by decide +kernel
theorem dX8_cell_145 : decode cX8_cell 145 = .ok (.ireturn, 1) := by decide +kernel
theorem dX8_value_0 : decode cX8_value 0 = .ok (.aload_n 0, 1) := by decide +kernel
theorem dX8_value_1 : decode cX8_value 1 = .ok (.invokevirtual 183, 3) := by decide +kernel
theorem dX8_value_4 : decode cX8_value 4 = .ok (.iload_n 1, 1) := by decide +kernel
theorem dX8_value_5 : decode cX8_value 5 = .ok (.invokestatic 197, 3) := by decide +kernel
theorem dX8_value_8 : decode cX8_value 8 = .ok (.ifCond .eq 12, 3) := by decide +kernel
theorem dX8_value_11 : decode cX8_value 11 = .ok (.aload_n 0, 1) := by decide +kernel
theorem dX8_value_12 : decode cX8_value 12 = .ok (.getfield 22, 3) := by decide +kernel
theorem dX8_value_15 : decode cX8_value 15 = .ok (.iload_n 1, 1) := by decide +kernel
theorem dX8_value_16 : decode cX8_value 16 = .ok (.iaload, 1) := by decide +kernel
theorem dX8_value_17 : decode cX8_value 17 = .ok (.goto 4, 3) := by decide +kernel
theorem dX8_value_20 : decode cX8_value 20 = .ok (.iconst 0, 1) := by decide +kernel
theorem dX8_value_21 : decode cX8_value 21 = .ok (.ireturn, 1) := by decide +kernel
theorem dX8_reads_0 : decode cX8_reads 0 = .ok (.iload_n 1, 1) := by decide +kernel
theorem dX8_reads_1 : decode cX8_reads 1 = .ok (.invokestatic 197, 3) := by decide +kernel
theorem dX8_reads_4 : decode cX8_reads 4 = .ok (.ifCond .eq 7, 3) := by decide +kernel
theorem dX8_reads_7 : decode cX8_reads 7 = .ok (.iload_n 2, 1) := by decide +kernel
theorem dX8_reads_8 : decode cX8_reads 8 = .ok (.ifCond .ge 5, 3) := by decide +kernel
theorem dX8_reads_11 : decode cX8_reads 11 = .ok (.iconst (-1), 1) := by decide +kernel
theorem dX8_reads_12 : decode cX8_reads 12 = .ok (.ireturn, 1) := by decide +kernel
theorem dX8_reads_13 : decode cX8_reads 13 = .ok (.aload_n 0, 1) := by decide +kernel
theorem dX8_reads_14 : decode cX8_reads 14 = .ok (.invokevirtual 183, 3) := by decide +kernel
theorem dX8_reads_17 : decode cX8_reads 17 = .ok (.iload_n 2, 1) := by decide +kernel
theorem dX8_reads_18 : decode cX8_reads 18 = .ok (.aload_n 0, 1) := by decide +kernel
theorem dX8_reads_19 : decode cX8_reads 19 = .ok (.getfield 35, 3) := by decide +kernel
theorem dX8_reads_22 : decode cX8_reads 22 = .ok (.iload_n 1, 1) := by decide +kernel
theorem dX8_reads_23 : decode cX8_reads 23 = .ok (.iaload, 1) := by decide +kernel
theorem dX8_reads_24 : decode cX8_reads 24 = .ok (.if_icmp .ge 17, 3) := by decide +kernel
theorem dX8_reads_27 : decode cX8_reads 27 = .ok (.aload_n 0, 1) := by decide +kernel
theorem dX8_reads_28 : decode cX8_reads 28 = .ok (.getfield 32, 3) := by decide +kernel
theorem dX8_reads_31 : decode cX8_reads 31 = .ok (.bipush 30, 2) := by decide +kernel
theorem dX8_reads_33 : decode cX8_reads 33 = .ok (.iload_n 1, 1) := by decide +kernel
theorem dX8_reads_34 : decode cX8_reads 34 = .ok (.imul, 1) := by decide +kernel
theorem dX8_reads_35 : decode cX8_reads 35 = .ok (.iload_n 2, 1) := by decide +kernel
theorem dX8_reads_36 : decode cX8_reads 36 = .ok (.iadd, 1) := by decide +kernel
theorem dX8_reads_37 : decode cX8_reads 37 = .ok (.iaload, 1) := by decide +kernel
theorem dX8_reads_38 : decode cX8_reads 38 = .ok (.goto 5, 3) := by decide +kernel
theorem dX8_reads_41 : decode cX8_reads 41 = .ok (.bipush (-4), 2) := by decide +kernel
theorem dX8_reads_43 : decode cX8_reads 43 = .ok (.ireturn, 1) := by decide +kernel
theorem dX8_reader_0 : decode cX8_reader 0 = .ok (.iload_n 1, 1) := by decide +kernel
theorem dX8_reader_1 : decode cX8_reader 1 = .ok (.invokestatic 197, 3) := by decide +kernel
theorem dX8_reader_4 : decode cX8_reader 4 = .ok (.ifCond .eq 7, 3) := by decide +kernel
theorem dX8_reader_7 : decode cX8_reader 7 = .ok (.iload_n 2, 1) := by decide +kernel
theorem dX8_reader_8 : decode cX8_reader 8 = .ok (.ifCond .ge 5, 3) := by decide +kernel
theorem dX8_reader_11 : decode cX8_reader 11 = .ok (.iconst (-1), 1) := by decide +kernel
theorem dX8_reader_12 : decode cX8_reader 12 = .ok (.ireturn, 1) := by decide +kernel
theorem dX8_reader_13 : decode cX8_reader 13 = .ok (.aload_n 0, 1) := by decide +kernel
theorem dX8_reader_14 : decode cX8_reader 14 = .ok (.invokevirtual 183, 3) := by decide +kernel
theorem dX8_reader_17 : decode cX8_reader 17 = .ok (.iload_n 2, 1) := by decide +kernel
theorem dX8_reader_18 : decode cX8_reader 18 = .ok (.istore_n 3, 1) := by decide +kernel
theorem dX8_reader_19 : decode cX8_reader 19 = .ok (.iconst 0, 1) := by decide +kernel
theorem dX8_reader_20 : decode cX8_reader 20 = .ok (.istore 4, 2) := by decide +kernel
theorem dX8_reader_22 : decode cX8_reader 22 = .ok (.iload 4, 2) := by decide +kernel
theorem dX8_reader_24 : decode cX8_reader 24 = .ok (.bipush 30, 2) := by decide +kernel
theorem dX8_reader_26 : decode cX8_reader 26 = .ok (.if_icmp .ge 29, 3) := by decide +kernel
theorem dX8_reader_29 : decode cX8_reader 29 = .ok (.aload_n 0, 1) := by decide +kernel
theorem dX8_reader_30 : decode cX8_reader 30 = .ok (.iload 4, 2) := by decide +kernel
theorem dX8_reader_32 : decode cX8_reader 32 = .ok (.iload_n 1, 1) := by decide +kernel
theorem dX8_reader_33 : decode cX8_reader 33 = .ok (.invokevirtual 194, 3) := by decide +kernel
theorem dX8_reader_36 : decode cX8_reader 36 = .ok (.ifCond .eq 13, 3) := by decide +kernel
theorem dX8_reader_39 : decode cX8_reader 39 = .ok (.iload_n 3, 1) := by decide +kernel
theorem dX8_reader_40 : decode cX8_reader 40 = .ok (.ifCond .ne 6, 3) := by decide +kernel
theorem dX8_reader_43 : decode cX8_reader 43 = .ok (.iload 4, 2) := by decide +kernel
theorem dX8_reader_45 : decode cX8_reader 45 = .ok (.ireturn, 1) := by decide +kernel
theorem dX8_reader_46 : decode cX8_reader 46 = .ok (.iinc 3 (-1), 3) := by decide +kernel
theorem dX8_reader_49 : decode cX8_reader 49 = .ok (.iinc 4 1, 3) := by decide +kernel
theorem dX8_reader_52 : decode cX8_reader 52 = .ok (.goto (-30), 3) := by decide +kernel
theorem dX8_reader_55 : decode cX8_reader 55 = .ok (.bipush (-4), 2) := by decide +kernel
theorem dX8_reader_57 : decode cX8_reader 57 = .ok (.ireturn, 1) := by decide +kernel
theorem dX8_bitsRead_0 : decode cX8_bitsRead 0 = .ok (.iconst 0, 1) := by decide +kernel
theorem dX8_bitsRead_1 : decode cX8_bitsRead 1 = .ok (.istore_n 2, 1) := by decide +kernel
theorem dX8_bitsRead_2 : decode cX8_bitsRead 2 = .ok (.iconst 0, 1) := by decide +kernel
theorem dX8_bitsRead_3 : decode cX8_bitsRead 3 = .ok (.istore_n 3, 1) := by decide +kernel
theorem dX8_bitsRead_4 : decode cX8_bitsRead 4 = .ok (.iload_n 3, 1) := by decide +kernel
theorem dX8_bitsRead_5 : decode cX8_bitsRead 5 = .ok (.aload_n 0, 1) := by decide +kernel
theorem dX8_bitsRead_6 : decode cX8_bitsRead 6 = .ok (.getfield 35, 3) := by decide +kernel
theorem dX8_bitsRead_9 : decode cX8_bitsRead 9 = .ok (.iload_n 1, 1) := by decide +kernel
theorem dX8_bitsRead_10 : decode cX8_bitsRead 10 = .ok (.iaload, 1) := by decide +kernel
theorem dX8_bitsRead_11 : decode cX8_bitsRead 11 = .ok (.if_icmp .ge 25, 3) := by decide +kernel
theorem dX8_bitsRead_14 : decode cX8_bitsRead 14 = .ok (.iload_n 2, 1) := by decide +kernel
theorem dX8_bitsRead_15 : decode cX8_bitsRead 15 = .ok (.iconst 1, 1) := by decide +kernel
theorem dX8_bitsRead_16 : decode cX8_bitsRead 16 = .ok (.aload_n 0, 1) := by decide +kernel
theorem dX8_bitsRead_17 : decode cX8_bitsRead 17 = .ok (.getfield 32, 3) := by decide +kernel
theorem dX8_bitsRead_20 : decode cX8_bitsRead 20 = .ok (.bipush 30, 2) := by decide +kernel
theorem dX8_bitsRead_22 : decode cX8_bitsRead 22 = .ok (.iload_n 1, 1) := by decide +kernel
theorem dX8_bitsRead_23 : decode cX8_bitsRead 23 = .ok (.imul, 1) := by decide +kernel
theorem dX8_bitsRead_24 : decode cX8_bitsRead 24 = .ok (.iload_n 3, 1) := by decide +kernel
theorem dX8_bitsRead_25 : decode cX8_bitsRead 25 = .ok (.iadd, 1) := by decide +kernel
theorem dX8_bitsRead_26 : decode cX8_bitsRead 26 = .ok (.iaload, 1) := by decide +kernel
theorem dX8_bitsRead_27 : decode cX8_bitsRead 27 = .ok (.ishl, 1) := by decide +kernel
theorem dX8_bitsRead_28 : decode cX8_bitsRead 28 = .ok (.ior, 1) := by decide +kernel
theorem dX8_bitsRead_29 : decode cX8_bitsRead 29 = .ok (.istore_n 2, 1) := by decide +kernel
theorem dX8_bitsRead_30 : decode cX8_bitsRead 30 = .ok (.iinc 3 1, 3) := by decide +kernel
theorem dX8_bitsRead_33 : decode cX8_bitsRead 33 = .ok (.goto (-29), 3) := by decide +kernel
theorem dX8_bitsRead_36 : decode cX8_bitsRead 36 = .ok (.iload_n 2, 1) := by decide +kernel
theorem dX8_bitsRead_37 : decode cX8_bitsRead 37 = .ok (.ireturn, 1) := by decide +kernel
theorem dX8_needsOf_0 : decode cX8_needsOf 0 = .ok (.aload_n 0, 1) := by decide +kernel
theorem dX8_needsOf_1 : decode cX8_needsOf 1 = .ok (.iload_n 1, 1) := by decide +kernel
theorem dX8_needsOf_2 : decode cX8_needsOf 2 = .ok (.invokevirtual 203, 3) := by decide +kernel
theorem dX8_needsOf_5 : decode cX8_needsOf 5 = .ok (.istore_n 2, 1) := by decide +kernel
theorem dX8_needsOf_6 : decode cX8_needsOf 6 = .ok (.iconst 0, 1) := by decide +kernel
theorem dX8_needsOf_7 : decode cX8_needsOf 7 = .ok (.istore_n 3, 1) := by decide +kernel
theorem dX8_needsOf_8 : decode cX8_needsOf 8 = .ok (.iload_n 3, 1) := by decide +kernel
theorem dX8_needsOf_9 : decode cX8_needsOf 9 = .ok (.bipush 30, 2) := by decide +kernel
theorem dX8_needsOf_11 : decode cX8_needsOf 11 = .ok (.if_icmp .ge 48, 3) := by decide +kernel
theorem dX8_needsOf_14 : decode cX8_needsOf 14 = .ok (.iconst 0, 1) := by decide +kernel
theorem dX8_needsOf_15 : decode cX8_needsOf 15 = .ok (.istore 4, 2) := by decide +kernel
theorem dX8_needsOf_17 : decode cX8_needsOf 17 = .ok (.iload 4, 2) := by decide +kernel
theorem dX8_needsOf_19 : decode cX8_needsOf 19 = .ok (.bipush 30, 2) := by decide +kernel
theorem dX8_needsOf_21 : decode cX8_needsOf 21 = .ok (.if_icmp .ge 32, 3) := by decide +kernel
theorem dX8_needsOf_24 : decode cX8_needsOf 24 = .ok (.iload_n 2, 1) := by decide +kernel
theorem dX8_needsOf_25 : decode cX8_needsOf 25 = .ok (.iload_n 2, 1) := by decide +kernel
theorem dX8_needsOf_26 : decode cX8_needsOf 26 = .ok (.iload 4, 2) := by decide +kernel
theorem dX8_needsOf_28 : decode cX8_needsOf 28 = .ok (.ishr, 1) := by decide +kernel
theorem dX8_needsOf_29 : decode cX8_needsOf 29 = .ok (.iconst 1, 1) := by decide +kernel
theorem dX8_needsOf_30 : decode cX8_needsOf 30 = .ok (.iand, 1) := by decide +kernel
theorem dX8_needsOf_31 : decode cX8_needsOf 31 = .ok (.iconst 1, 1) := by decide +kernel
theorem dX8_needsOf_32 : decode cX8_needsOf 32 = .ok (.if_icmp .ne 12, 3) := by decide +kernel
theorem dX8_needsOf_35 : decode cX8_needsOf 35 = .ok (.aload_n 0, 1) := by decide +kernel
theorem dX8_needsOf_36 : decode cX8_needsOf 36 = .ok (.iload 4, 2) := by decide +kernel
theorem dX8_needsOf_38 : decode cX8_needsOf 38 = .ok (.invokevirtual 203, 3) := by decide +kernel
theorem dX8_needsOf_41 : decode cX8_needsOf 41 = .ok (.goto 4, 3) := by decide +kernel
theorem dX8_needsOf_44 : decode cX8_needsOf 44 = .ok (.iconst 0, 1) := by decide +kernel
theorem dX8_needsOf_45 : decode cX8_needsOf 45 = .ok (.ior, 1) := by decide +kernel
theorem dX8_needsOf_46 : decode cX8_needsOf 46 = .ok (.istore_n 2, 1) := by decide +kernel
theorem dX8_needsOf_47 : decode cX8_needsOf 47 = .ok (.iinc 4 1, 3) := by decide +kernel
theorem dX8_needsOf_50 : decode cX8_needsOf 50 = .ok (.goto (-33), 3) := by decide +kernel
theorem dX8_needsOf_53 : decode cX8_needsOf 53 = .ok (.iinc 3 1, 3) := by decide +kernel
theorem dX8_needsOf_56 : decode cX8_needsOf 56 = .ok (.goto (-48), 3) := by decide +kernel
theorem dX8_needsOf_59 : decode cX8_needsOf 59 = .ok (.iload_n 2, 1) := by decide +kernel
theorem dX8_needsOf_60 : decode cX8_needsOf 60 = .ok (.ireturn, 1) := by decide +kernel
theorem dX8_far_0 : decode cX8_far 0 = .ok (.iload_n 1, 1) := by decide +kernel
theorem dX8_far_1 : decode cX8_far 1 = .ok (.invokestatic 197, 3) := by decide +kernel
theorem dX8_far_4 : decode cX8_far 4 = .ok (.ifCond .eq 13, 3) := by decide +kernel
theorem dX8_far_7 : decode cX8_far 7 = .ok (.iload_n 2, 1) := by decide +kernel
theorem dX8_far_8 : decode cX8_far 8 = .ok (.i2l, 1) := by decide +kernel
theorem dX8_far_9 : decode cX8_far 9 = .ok (.lconst 0, 1) := by decide +kernel
theorem dX8_far_10 : decode cX8_far 10 = .ok (.lconst 1, 1) := by decide +kernel
theorem dX8_far_11 : decode cX8_far 11 = .ok (.invokestatic 73, 3) := by decide +kernel
theorem dX8_far_14 : decode cX8_far 14 = .ok (.ifCond .ne 5, 3) := by decide +kernel
theorem dX8_far_17 : decode cX8_far 17 = .ok (.iconst (-1), 1) := by decide +kernel
theorem dX8_far_18 : decode cX8_far 18 = .ok (.ireturn, 1) := by decide +kernel
theorem dX8_far_19 : decode cX8_far 19 = .ok (.aload_n 0, 1) := by decide +kernel
theorem dX8_far_20 : decode cX8_far 20 = .ok (.invokevirtual 183, 3) := by decide +kernel
theorem dX8_far_23 : decode cX8_far 23 = .ok (.iload_n 2, 1) := by decide +kernel
theorem dX8_far_24 : decode cX8_far 24 = .ok (.ifCond .ne 9, 3) := by decide +kernel
theorem dX8_far_27 : decode cX8_far 27 = .ok (.aload_n 0, 1) := by decide +kernel
theorem dX8_far_28 : decode cX8_far 28 = .ok (.iload_n 1, 1) := by decide +kernel
theorem dX8_far_29 : decode cX8_far 29 = .ok (.invokevirtual 206, 3) := by decide +kernel
theorem dX8_far_32 : decode cX8_far 32 = .ok (.ireturn, 1) := by decide +kernel
theorem dX8_far_33 : decode cX8_far 33 = .ok (.iconst 0, 1) := by decide +kernel
theorem dX8_far_34 : decode cX8_far 34 = .ok (.istore_n 3, 1) := by decide +kernel
theorem dX8_far_35 : decode cX8_far 35 = .ok (.iconst 0, 1) := by decide +kernel
theorem dX8_far_36 : decode cX8_far 36 = .ok (.istore 4, 2) := by decide +kernel
theorem dX8_far_38 : decode cX8_far 38 = .ok (.iload 4, 2) := by decide +kernel
theorem dX8_far_40 : decode cX8_far 40 = .ok (.bipush 30, 2) := by decide +kernel
theorem dX8_far_42 : decode cX8_far 42 = .ok (.if_icmp .ge 34, 3) := by decide +kernel
theorem dX8_far_45 : decode cX8_far 45 = .ok (.iload_n 3, 1) := by decide +kernel
theorem dX8_far_46 : decode cX8_far 46 = .ok (.aload_n 0, 1) := by decide +kernel
theorem dX8_far_47 : decode cX8_far 47 = .ok (.iload 4, 2) := by decide +kernel
theorem dX8_far_49 : decode cX8_far 49 = .ok (.invokevirtual 206, 3) := by decide +kernel
theorem dX8_far_52 : decode cX8_far 52 = .ok (.iload_n 1, 1) := by decide +kernel
theorem dX8_far_53 : decode cX8_far 53 = .ok (.ishr, 1) := by decide +kernel
theorem dX8_far_54 : decode cX8_far 54 = .ok (.iconst 1, 1) := by decide +kernel
theorem dX8_far_55 : decode cX8_far 55 = .ok (.iand, 1) := by decide +kernel
theorem dX8_far_56 : decode cX8_far 56 = .ok (.iconst 1, 1) := by decide +kernel
theorem dX8_far_57 : decode cX8_far 57 = .ok (.if_icmp .ne 10, 3) := by decide +kernel
theorem dX8_far_60 : decode cX8_far 60 = .ok (.iconst 1, 1) := by decide +kernel
theorem dX8_far_61 : decode cX8_far 61 = .ok (.iload 4, 2) := by decide +kernel
theorem dX8_far_63 : decode cX8_far 63 = .ok (.ishl, 1) := by decide +kernel
theorem dX8_far_64 : decode cX8_far 64 = .ok (.goto 4, 3) := by decide +kernel
theorem dX8_far_67 : decode cX8_far 67 = .ok (.iconst 0, 1) := by decide +kernel
theorem dX8_far_68 : decode cX8_far 68 = .ok (.ior, 1) := by decide +kernel
theorem dX8_far_69 : decode cX8_far 69 = .ok (.istore_n 3, 1) := by decide +kernel
theorem dX8_far_70 : decode cX8_far 70 = .ok (.iinc 4 1, 3) := by decide +kernel
theorem dX8_far_73 : decode cX8_far 73 = .ok (.goto (-35), 3) := by decide +kernel
theorem dX8_far_76 : decode cX8_far 76 = .ok (.iload_n 3, 1) := by decide +kernel
theorem dX8_far_77 : decode cX8_far 77 = .ok (.ireturn, 1) := by decide +kernel
theorem dX8_order_0 : decode cX8_order 0 = .ok (.iload_n 1, 1) := by decide +kernel
theorem dX8_order_1 : decode cX8_order 1 = .ok (.ifCond .ge 5, 3) := by decide +kernel
theorem dX8_order_4 : decode cX8_order 4 = .ok (.iconst (-1), 1) := by decide +kernel
theorem dX8_order_5 : decode cX8_order 5 = .ok (.ireturn, 1) := by decide +kernel
theorem dX8_order_6 : decode cX8_order 6 = .ok (.aload_n 0, 1) := by decide +kernel
theorem dX8_order_7 : decode cX8_order 7 = .ok (.invokevirtual 183, 3) := by decide +kernel
theorem dX8_order_10 : decode cX8_order 10 = .ok (.iload_n 1, 1) := by decide +kernel
theorem dX8_order_11 : decode cX8_order 11 = .ok (.istore_n 2, 1) := by decide +kernel
theorem dX8_order_12 : decode cX8_order 12 = .ok (.iconst 0, 1) := by decide +kernel
theorem dX8_order_13 : decode cX8_order 13 = .ok (.istore_n 3, 1) := by decide +kernel
theorem dX8_order_14 : decode cX8_order 14 = .ok (.iload_n 3, 1) := by decide +kernel
theorem dX8_order_15 : decode cX8_order 15 = .ok (.bipush 30, 2) := by decide +kernel
theorem dX8_order_17 : decode cX8_order 17 = .ok (.if_icmp .ge 46, 3) := by decide +kernel
theorem dX8_order_20 : decode cX8_order 20 = .ok (.iconst 0, 1) := by decide +kernel
theorem dX8_order_21 : decode cX8_order 21 = .ok (.istore 4, 2) := by decide +kernel
theorem dX8_order_23 : decode cX8_order 23 = .ok (.iload 4, 2) := by decide +kernel
theorem dX8_order_25 : decode cX8_order 25 = .ok (.bipush 30, 2) := by decide +kernel
theorem dX8_order_27 : decode cX8_order 27 = .ok (.if_icmp .ge 30, 3) := by decide +kernel
theorem dX8_order_30 : decode cX8_order 30 = .ok (.aload_n 0, 1) := by decide +kernel
theorem dX8_order_31 : decode cX8_order 31 = .ok (.getfield 38, 3) := by decide +kernel
theorem dX8_order_34 : decode cX8_order 34 = .ok (.iload 4, 2) := by decide +kernel
theorem dX8_order_36 : decode cX8_order 36 = .ok (.iaload, 1) := by decide +kernel
theorem dX8_order_37 : decode cX8_order 37 = .ok (.iload_n 3, 1) := by decide +kernel
theorem dX8_order_38 : decode cX8_order 38 = .ok (.if_icmp .ne 13, 3) := by decide +kernel
theorem dX8_order_41 : decode cX8_order 41 = .ok (.iload_n 2, 1) := by decide +kernel
theorem dX8_order_42 : decode cX8_order 42 = .ok (.ifCond .ne 6, 3) := by decide +kernel
theorem dX8_order_45 : decode cX8_order 45 = .ok (.iload 4, 2) := by decide +kernel
theorem dX8_order_47 : decode cX8_order 47 = .ok (.ireturn, 1) := by decide +kernel
theorem dX8_order_48 : decode cX8_order 48 = .ok (.iinc 2 (-1), 3) := by decide +kernel
theorem dX8_order_51 : decode cX8_order 51 = .ok (.iinc 4 1, 3) := by decide +kernel
theorem dX8_order_54 : decode cX8_order 54 = .ok (.goto (-31), 3) := by decide +kernel
theorem dX8_order_57 : decode cX8_order 57 = .ok (.iinc 3 1, 3) := by decide +kernel
theorem dX8_order_60 : decode cX8_order 60 = .ok (.goto (-46), 3) := by decide +kernel
theorem dX8_order_63 : decode cX8_order 63 = .ok (.bipush (-4), 2) := by decide +kernel
theorem dX8_order_65 : decode cX8_order 65 = .ok (.ireturn, 1) := by decide +kernel
theorem dX8_circle_0 : decode cX8_circle 0 = .ok (.iload_n 1, 1) := by decide +kernel
theorem dX8_circle_1 : decode cX8_circle 1 = .ok (.invokestatic 197, 3) := by decide +kernel
theorem dX8_circle_4 : decode cX8_circle 4 = .ok (.ifCond .eq 7, 3) := by decide +kernel
theorem dX8_circle_7 : decode cX8_circle 7 = .ok (.iload_n 2, 1) := by decide +kernel
theorem dX8_circle_8 : decode cX8_circle 8 = .ok (.ifCond .ge 5, 3) := by decide +kernel
theorem dX8_circle_11 : decode cX8_circle 11 = .ok (.iconst (-1), 1) := by decide +kernel
theorem dX8_circle_12 : decode cX8_circle 12 = .ok (.ireturn, 1) := by decide +kernel
theorem dX8_circle_13 : decode cX8_circle 13 = .ok (.aload_n 0, 1) := by decide +kernel
theorem dX8_circle_14 : decode cX8_circle 14 = .ok (.invokevirtual 183, 3) := by decide +kernel
theorem dX8_circle_17 : decode cX8_circle 17 = .ok (.iload_n 2, 1) := by decide +kernel
theorem dX8_circle_18 : decode cX8_circle 18 = .ok (.aload_n 0, 1) := by decide +kernel
theorem dX8_circle_19 : decode cX8_circle 19 = .ok (.iload_n 1, 1) := by decide +kernel
theorem dX8_circle_20 : decode cX8_circle 20 = .ok (.invokevirtual 174, 3) := by decide +kernel
theorem dX8_circle_23 : decode cX8_circle 23 = .ok (.if_icmp .lt 6, 3) := by decide +kernel
theorem dX8_circle_26 : decode cX8_circle 26 = .ok (.bipush (-4), 2) := by decide +kernel
theorem dX8_circle_28 : decode cX8_circle 28 = .ok (.ireturn, 1) := by decide +kernel
theorem dX8_circle_29 : decode cX8_circle 29 = .ok (.iload_n 1, 1) := by decide +kernel
theorem dX8_circle_30 : decode cX8_circle 30 = .ok (.istore_n 3, 1) := by decide +kernel
theorem dX8_circle_31 : decode cX8_circle 31 = .ok (.iconst 0, 1) := by decide +kernel
theorem dX8_circle_32 : decode cX8_circle 32 = .ok (.istore 4, 2) := by decide +kernel
theorem dX8_circle_34 : decode cX8_circle 34 = .ok (.iload 4, 2) := by decide +kernel
theorem dX8_circle_36 : decode cX8_circle 36 = .ok (.iload_n 2, 1) := by decide +kernel
theorem dX8_circle_37 : decode cX8_circle 37 = .ok (.if_icmp .ge 16, 3) := by decide +kernel
theorem dX8_circle_40 : decode cX8_circle 40 = .ok (.aload_n 0, 1) := by decide +kernel
theorem dX8_circle_41 : decode cX8_circle 41 = .ok (.getfield 29, 3) := by decide +kernel
theorem dX8_circle_44 : decode cX8_circle 44 = .ok (.iload_n 3, 1) := by decide +kernel
theorem dX8_circle_45 : decode cX8_circle 45 = .ok (.iaload, 1) := by decide +kernel
theorem dX8_circle_46 : decode cX8_circle 46 = .ok (.istore_n 3, 1) := by decide +kernel
theorem dX8_circle_47 : decode cX8_circle 47 = .ok (.iinc 4 1, 3) := by decide +kernel
theorem dX8_circle_50 : decode cX8_circle 50 = .ok (.goto (-16), 3) := by decide +kernel
theorem dX8_circle_53 : decode cX8_circle 53 = .ok (.iload_n 3, 1) := by decide +kernel
theorem dX8_circle_54 : decode cX8_circle 54 = .ok (.ireturn, 1) := by decide +kernel
theorem dX8_bitsOf_0 : decode cX8_bitsOf 0 = .ok (.iconst 0, 1) := by decide +kernel
theorem dX8_bitsOf_1 : decode cX8_bitsOf 1 = .ok (.istore_n 1, 1) := by decide +kernel
theorem dX8_bitsOf_2 : decode cX8_bitsOf 2 = .ok (.iconst 0, 1) := by decide +kernel
theorem dX8_bitsOf_3 : decode cX8_bitsOf 3 = .ok (.istore_n 2, 1) := by decide +kernel
theorem dX8_bitsOf_4 : decode cX8_bitsOf 4 = .ok (.iload_n 2, 1) := by decide +kernel
theorem dX8_bitsOf_5 : decode cX8_bitsOf 5 = .ok (.bipush 30, 2) := by decide +kernel
theorem dX8_bitsOf_7 : decode cX8_bitsOf 7 = .ok (.if_icmp .ge 17, 3) := by decide +kernel
theorem dX8_bitsOf_10 : decode cX8_bitsOf 10 = .ok (.iload_n 1, 1) := by decide +kernel
theorem dX8_bitsOf_11 : decode cX8_bitsOf 11 = .ok (.iload_n 0, 1) := by decide +kernel
theorem dX8_bitsOf_12 : decode cX8_bitsOf 12 = .ok (.iload_n 2, 1) := by decide +kernel
theorem dX8_bitsOf_13 : decode cX8_bitsOf 13 = .ok (.ishr, 1) := by decide +kernel
theorem dX8_bitsOf_14 : decode cX8_bitsOf 14 = .ok (.iconst 1, 1) := by decide +kernel
theorem dX8_bitsOf_15 : decode cX8_bitsOf 15 = .ok (.iand, 1) := by decide +kernel
theorem dX8_bitsOf_16 : decode cX8_bitsOf 16 = .ok (.iadd, 1) := by decide +kernel
theorem dX8_bitsOf_17 : decode cX8_bitsOf 17 = .ok (.istore_n 1, 1) := by decide +kernel
theorem dX8_bitsOf_18 : decode cX8_bitsOf 18 = .ok (.iinc 2 1, 3) := by decide +kernel
theorem dX8_bitsOf_21 : decode cX8_bitsOf 21 = .ok (.goto (-17), 3) := by decide +kernel
theorem dX8_bitsOf_24 : decode cX8_bitsOf 24 = .ok (.iload_n 1, 1) := by decide +kernel
theorem dX8_bitsOf_25 : decode cX8_bitsOf 25 = .ok (.ireturn, 1) := by decide +kernel
theorem dX8_isFormula_0 : decode cX8_isFormula 0 = .ok (.iload_n 0, 1) := by decide +kernel
theorem dX8_isFormula_1 : decode cX8_isFormula 1 = .ok (.invokestatic 197, 3) := by decide +kernel
theorem dX8_isFormula_4 : decode cX8_isFormula 4 = .ok (.ifCond .eq 15, 3) := by decide +kernel
theorem dX8_isFormula_7 : decode cX8_isFormula 7 = .ok (.iload_n 1, 1) := by decide +kernel
theorem dX8_isFormula_8 : decode cX8_isFormula 8 = .ok (.i2l, 1) := by decide +kernel
theorem dX8_isFormula_9 : decode cX8_isFormula 9 = .ok (.lconst 0, 1) := by decide +kernel
theorem dX8_isFormula_10 : decode cX8_isFormula 10 = .ok (.ldc2_w 209, 3) := by decide +kernel
theorem dX8_isFormula_13 : decode cX8_isFormula 13 = .ok (.invokestatic 73, 3) := by decide +kernel
theorem dX8_isFormula_16 : decode cX8_isFormula 16 = .ok (.ifCond .ne 5, 3) := by decide +kernel
theorem dX8_isFormula_19 : decode cX8_isFormula 19 = .ok (.iconst 0, 1) := by decide +kernel
theorem dX8_isFormula_20 : decode cX8_isFormula 20 = .ok (.ireturn, 1) := by decide +kernel
theorem dX8_isFormula_21 : decode cX8_isFormula 21 = .ok (.iload_n 1, 1) := by decide +kernel
theorem dX8_isFormula_22 : decode cX8_isFormula 22 = .ok (.invokestatic 126, 3) := by decide +kernel
theorem dX8_isFormula_25 : decode cX8_isFormula 25 = .ok (.istore 5, 2) := by decide +kernel
theorem dX8_isFormula_27 : decode cX8_isFormula 27 = .ok (.iload_n 1, 1) := by decide +kernel
theorem dX8_isFormula_28 : decode cX8_isFormula 28 = .ok (.bipush 6, 2) := by decide +kernel
theorem dX8_isFormula_30 : decode cX8_isFormula 30 = .ok (.if_icmp .eq 9, 3) := by decide +kernel
theorem dX8_isFormula_33 : decode cX8_isFormula 33 = .ok (.iload_n 1, 1) := by decide +kernel
theorem dX8_isFormula_34 : decode cX8_isFormula 34 = .ok (.bipush 7, 2) := by decide +kernel
theorem dX8_isFormula_36 : decode cX8_isFormula 36 = .ok (.if_icmp .ne 7, 3) := by decide +kernel
theorem dX8_isFormula_39 : decode cX8_isFormula 39 = .ok (.iconst 1, 1) := by decide +kernel
theorem dX8_isFormula_40 : decode cX8_isFormula 40 = .ok (.goto 4, 3) := by decide +kernel
theorem dX8_isFormula_43 : decode cX8_isFormula 43 = .ok (.iconst 0, 1) := by decide +kernel
theorem dX8_isFormula_44 : decode cX8_isFormula 44 = .ok (.istore 6, 2) := by decide +kernel
theorem dX8_isFormula_46 : decode cX8_isFormula 46 = .ok (.iload 5, 2) := by decide +kernel
theorem dX8_isFormula_48 : decode cX8_isFormula 48 = .ok (.iconst 1, 1) := by decide +kernel
theorem dX8_isFormula_49 : decode cX8_isFormula 49 = .ok (.if_icmp .lt 26, 3) := by decide +kernel
theorem dX8_isFormula_52 : decode cX8_isFormula 52 = .ok (.iload_n 2, 1) := by decide +kernel
theorem dX8_isFormula_53 : decode cX8_isFormula 53 = .ok (.i2l, 1) := by decide +kernel
theorem dX8_isFormula_54 : decode cX8_isFormula 54 = .ok (.lconst 0, 1) := by decide +kernel
theorem dX8_isFormula_55 : decode cX8_isFormula 55 = .ok (.iload_n 1, 1) := by decide +kernel
theorem dX8_isFormula_56 : decode cX8_isFormula 56 = .ok (.iconst 1, 1) := by decide +kernel
theorem dX8_isFormula_57 : decode cX8_isFormula 57 = .ok (.if_icmp .ne 9, 3) := by decide +kernel
theorem dX8_isFormula_60 : decode cX8_isFormula 60 = .ok (.ldc2_w 211, 3) := by decide +kernel
theorem dX8_isFormula_63 : decode cX8_isFormula 63 = .ok (.goto 6, 3) := by decide +kernel
theorem dX8_isFormula_66 : decode cX8_isFormula 66 = .ok (.ldc2_w 172, 3) := by decide +kernel
theorem dX8_isFormula_69 : decode cX8_isFormula 69 = .ok (.invokestatic 73, 3) := by decide +kernel
theorem dX8_isFormula_72 : decode cX8_isFormula 72 = .ok (.ifCond .eq 49, 3) := by decide +kernel
theorem dX8_isFormula_75 : decode cX8_isFormula 75 = .ok (.iload 5, 2) := by decide +kernel
theorem dX8_isFormula_77 : decode cX8_isFormula 77 = .ok (.iconst 2, 1) := by decide +kernel
theorem dX8_isFormula_78 : decode cX8_isFormula 78 = .ok (.if_icmp .lt 25, 3) := by decide +kernel
theorem dX8_isFormula_81 : decode cX8_isFormula 81 = .ok (.iload_n 3, 1) := by decide +kernel
theorem dX8_isFormula_82 : decode cX8_isFormula 82 = .ok (.i2l, 1) := by decide +kernel
theorem dX8_isFormula_83 : decode cX8_isFormula 83 = .ok (.iload 6, 2) := by decide +kernel
theorem dX8_isFormula_85 : decode cX8_isFormula 85 = .ok (.ifCond .eq 8, 3) := by decide +kernel
theorem dX8_isFormula_88 : decode cX8_isFormula 88 = .ok (.iload_n 2, 1) := by decide +kernel
theorem dX8_isFormula_89 : decode cX8_isFormula 89 = .ok (.i2l, 1) := by decide +kernel
theorem dX8_isFormula_90 : decode cX8_isFormula 90 = .ok (.goto 4, 3) := by decide +kernel
theorem dX8_isFormula_93 : decode cX8_isFormula 93 = .ok (.lconst 0, 1) := by decide +kernel
theorem dX8_isFormula_94 : decode cX8_isFormula 94 = .ok (.ldc2_w 172, 3) := by decide +kernel
theorem dX8_isFormula_97 : decode cX8_isFormula 97 = .ok (.invokestatic 73, 3) := by decide +kernel
theorem dX8_isFormula_100 : decode cX8_isFormula 100 = .ok (.ifCond .eq 21, 3) := by decide +kernel
theorem dX8_isFormula_103 : decode cX8_isFormula 103 = .ok (.iload 5, 2) := by decide +kernel
theorem dX8_isFormula_105 : decode cX8_isFormula 105 = .ok (.iconst 3, 1) := by decide +kernel
theorem dX8_isFormula_106 : decode cX8_isFormula 106 = .ok (.if_icmp .lt 11, 3) := by decide +kernel
theorem dX8_isFormula_109 : decode cX8_isFormula 109 = .ok (.iload 4, 2) := by decide +kernel
theorem dX8_isFormula_111 : decode cX8_isFormula 111 = .ok (.invokestatic 197, 3) := by decide +kernel
theorem dX8_isFormula_114 : decode cX8_isFormula 114 = .ok (.ifCond .eq 7, 3) := by decide +kernel
theorem dX8_isFormula_117 : decode cX8_isFormula 117 = .ok (.iconst 1, 1) := by decide +kernel
theorem dX8_isFormula_118 : decode cX8_isFormula 118 = .ok (.goto 4, 3) := by decide +kernel
theorem dX8_isFormula_121 : decode cX8_isFormula 121 = .ok (.iconst 0, 1) := by decide +kernel
theorem dX8_isFormula_122 : decode cX8_isFormula 122 = .ok (.ireturn, 1) := by decide +kernel
theorem dX8_formulaIs_0 : decode cX8_formulaIs 0 = .ok (.iload_n 1, 1) := by decide +kernel
theorem dX8_formulaIs_1 : decode cX8_formulaIs 1 = .ok (.invokestatic 126, 3) := by decide +kernel
theorem dX8_formulaIs_4 : decode cX8_formulaIs 4 = .ok (.istore 5, 2) := by decide +kernel
theorem dX8_formulaIs_6 : decode cX8_formulaIs 6 = .ok (.aload_n 0, 1) := by decide +kernel
theorem dX8_formulaIs_7 : decode cX8_formulaIs 7 = .ok (.getfield 56, 3) := by decide +kernel
theorem dX8_formulaIs_10 : decode cX8_formulaIs 10 = .ok (.iconst 0, 1) := by decide +kernel
theorem dX8_formulaIs_11 : decode cX8_formulaIs 11 = .ok (.iload_n 1, 1) := by decide +kernel
theorem dX8_formulaIs_12 : decode cX8_formulaIs 12 = .ok (.iastore, 1) := by decide +kernel
theorem dX8_formulaIs_13 : decode cX8_formulaIs 13 = .ok (.aload_n 0, 1) := by decide +kernel
theorem dX8_formulaIs_14 : decode cX8_formulaIs 14 = .ok (.getfield 56, 3) := by decide +kernel
theorem dX8_formulaIs_17 : decode cX8_formulaIs 17 = .ok (.iconst 1, 1) := by decide +kernel
theorem dX8_formulaIs_18 : decode cX8_formulaIs 18 = .ok (.iload 5, 2) := by decide +kernel
theorem dX8_formulaIs_20 : decode cX8_formulaIs 20 = .ok (.ifCond .le 7, 3) := by decide +kernel
theorem dX8_formulaIs_23 : decode cX8_formulaIs 23 = .ok (.iload_n 2, 1) := by decide +kernel
theorem dX8_formulaIs_24 : decode cX8_formulaIs 24 = .ok (.goto 4, 3) := by decide +kernel
theorem dX8_formulaIs_27 : decode cX8_formulaIs 27 = .ok (.iconst 0, 1) := by decide +kernel
theorem dX8_formulaIs_28 : decode cX8_formulaIs 28 = .ok (.iastore, 1) := by decide +kernel
theorem dX8_formulaIs_29 : decode cX8_formulaIs 29 = .ok (.aload_n 0, 1) := by decide +kernel
theorem dX8_formulaIs_30 : decode cX8_formulaIs 30 = .ok (.getfield 56, 3) := by decide +kernel
theorem dX8_formulaIs_33 : decode cX8_formulaIs 33 = .ok (.iconst 2, 1) := by decide +kernel
theorem dX8_formulaIs_34 : decode cX8_formulaIs 34 = .ok (.iload 5, 2) := by decide +kernel
theorem dX8_formulaIs_36 : decode cX8_formulaIs 36 = .ok (.iconst 1, 1) := by decide +kernel
theorem dX8_formulaIs_37 : decode cX8_formulaIs 37 = .ok (.if_icmp .le 7, 3) := by decide +kernel
theorem dX8_formulaIs_40 : decode cX8_formulaIs 40 = .ok (.iload_n 3, 1) := by decide +kernel
theorem dX8_formulaIs_41 : decode cX8_formulaIs 41 = .ok (.goto 4, 3) := by decide +kernel
theorem dX8_formulaIs_44 : decode cX8_formulaIs 44 = .ok (.iconst 0, 1) := by decide +kernel
theorem dX8_formulaIs_45 : decode cX8_formulaIs 45 = .ok (.iastore, 1) := by decide +kernel
theorem dX8_formulaIs_46 : decode cX8_formulaIs 46 = .ok (.aload_n 0, 1) := by decide +kernel
theorem dX8_formulaIs_47 : decode cX8_formulaIs 47 = .ok (.getfield 56, 3) := by decide +kernel
theorem dX8_formulaIs_50 : decode cX8_formulaIs 50 = .ok (.iconst 3, 1) := by decide +kernel
theorem dX8_formulaIs_51 : decode cX8_formulaIs 51 = .ok (.iload 5, 2) := by decide +kernel
theorem dX8_formulaIs_53 : decode cX8_formulaIs 53 = .ok (.iconst 2, 1) := by decide +kernel
theorem dX8_formulaIs_54 : decode cX8_formulaIs 54 = .ok (.if_icmp .le 8, 3) := by decide +kernel
theorem dX8_formulaIs_57 : decode cX8_formulaIs 57 = .ok (.iload 4, 2) := by decide +kernel
theorem dX8_formulaIs_59 : decode cX8_formulaIs 59 = .ok (.goto 4, 3) := by decide +kernel
theorem dX8_formulaIs_62 : decode cX8_formulaIs 62 = .ok (.iconst 0, 1) := by decide +kernel
theorem dX8_formulaIs_63 : decode cX8_formulaIs 63 = .ok (.iastore, 1) := by decide +kernel
theorem dX8_formulaIs_64 : decode cX8_formulaIs 64 = .ok (.return_, 1) := by decide +kernel
theorem dX8_changes_0 : decode cX8_changes 0 = .ok (.aload_n 0, 1) := by decide +kernel
theorem dX8_changes_1 : decode cX8_changes 1 = .ok (.invokevirtual 183, 3) := by decide +kernel
theorem dX8_changes_4 : decode cX8_changes 4 = .ok (.iconst 0, 1) := by decide +kernel
theorem dX8_changes_5 : decode cX8_changes 5 = .ok (.istore_n 2, 1) := by decide +kernel
theorem dX8_changes_6 : decode cX8_changes 6 = .ok (.iload_n 2, 1) := by decide +kernel
theorem dX8_changes_7 : decode cX8_changes 7 = .ok (.bipush 30, 2) := by decide +kernel
theorem dX8_changes_9 : decode cX8_changes 9 = .ok (.if_icmp .ge 44, 3) := by decide +kernel
theorem dX8_changes_12 : decode cX8_changes 12 = .ok (.aload_n 0, 1) := by decide +kernel
theorem dX8_changes_13 : decode cX8_changes 13 = .ok (.getfield 41, 3) := by decide +kernel
theorem dX8_changes_16 : decode cX8_changes 16 = .ok (.iload_n 2, 1) := by decide +kernel
theorem dX8_changes_17 : decode cX8_changes 17 = .ok (.aload_n 0, 1) := by decide +kernel
theorem dX8_changes_18 : decode cX8_changes 18 = .ok (.getfield 22, 3) := by decide +kernel
theorem dX8_changes_21 : decode cX8_changes 21 = .ok (.iload_n 2, 1) := by decide +kernel
theorem dX8_changes_22 : decode cX8_changes 22 = .ok (.iaload, 1) := by decide +kernel
theorem dX8_changes_23 : decode cX8_changes 23 = .ok (.iastore, 1) := by decide +kernel
theorem dX8_changes_24 : decode cX8_changes 24 = .ok (.aload_n 0, 1) := by decide +kernel
theorem dX8_changes_25 : decode cX8_changes 25 = .ok (.getfield 44, 3) := by decide +kernel
theorem dX8_changes_28 : decode cX8_changes 28 = .ok (.iload_n 2, 1) := by decide +kernel
theorem dX8_changes_29 : decode cX8_changes 29 = .ok (.aload_n 0, 1) := by decide +kernel
theorem dX8_changes_30 : decode cX8_changes 30 = .ok (.getfield 25, 3) := by decide +kernel
theorem dX8_changes_33 : decode cX8_changes 33 = .ok (.iload_n 2, 1) := by decide +kernel
theorem dX8_changes_34 : decode cX8_changes 34 = .ok (.baload, 1) := by decide +kernel
theorem dX8_changes_35 : decode cX8_changes 35 = .ok (.bastore, 1) := by decide +kernel
theorem dX8_changes_36 : decode cX8_changes 36 = .ok (.aload_n 0, 1) := by decide +kernel
theorem dX8_changes_37 : decode cX8_changes 37 = .ok (.getfield 47, 3) := by decide +kernel
theorem dX8_changes_40 : decode cX8_changes 40 = .ok (.iload_n 2, 1) := by decide +kernel
theorem dX8_changes_41 : decode cX8_changes 41 = .ok (.aload_n 0, 1) := by decide +kernel
theorem dX8_changes_42 : decode cX8_changes 42 = .ok (.iload_n 2, 1) := by decide +kernel
theorem dX8_changes_43 : decode cX8_changes 43 = .ok (.invokevirtual 203, 3) := by decide +kernel
theorem dX8_changes_46 : decode cX8_changes 46 = .ok (.iastore, 1) := by decide +kernel
theorem dX8_changes_47 : decode cX8_changes 47 = .ok (.iinc 2 1, 3) := by decide +kernel
theorem dX8_changes_50 : decode cX8_changes 50 = .ok (.goto (-44), 3) := by decide +kernel
theorem dX8_changes_53 : decode cX8_changes 53 = .ok (.iconst 0, 1) := by decide +kernel
theorem dX8_changes_54 : decode cX8_changes 54 = .ok (.istore_n 2, 1) := by decide +kernel
theorem dX8_changes_55 : decode cX8_changes 55 = .ok (.iload_n 2, 1) := by decide +kernel
theorem dX8_changes_56 : decode cX8_changes 56 = .ok (.iconst 4, 1) := by decide +kernel
theorem dX8_changes_57 : decode cX8_changes 57 = .ok (.if_icmp .ge 26, 3) := by decide +kernel
theorem dX8_changes_60 : decode cX8_changes 60 = .ok (.aload_n 0, 1) := by decide +kernel
theorem dX8_changes_61 : decode cX8_changes 61 = .ok (.getfield 7, 3) := by decide +kernel
theorem dX8_changes_64 : decode cX8_changes 64 = .ok (.bipush 30, 2) := by decide +kernel
theorem dX8_changes_66 : decode cX8_changes 66 = .ok (.iload_n 2, 1) := by decide +kernel
theorem dX8_changes_67 : decode cX8_changes 67 = .ok (.imul, 1) := by decide +kernel
theorem dX8_changes_68 : decode cX8_changes 68 = .ok (.iload_n 1, 1) := by decide +kernel
theorem dX8_changes_69 : decode cX8_changes 69 = .ok (.iadd, 1) := by decide +kernel
theorem dX8_changes_70 : decode cX8_changes 70 = .ok (.aload_n 0, 1) := by decide +kernel
theorem dX8_changes_71 : decode cX8_changes 71 = .ok (.getfield 56, 3) := by decide +kernel
theorem dX8_changes_74 : decode cX8_changes 74 = .ok (.iload_n 2, 1) := by decide +kernel
theorem dX8_changes_75 : decode cX8_changes 75 = .ok (.iaload, 1) := by decide +kernel
theorem dX8_changes_76 : decode cX8_changes 76 = .ok (.iastore, 1) := by decide +kernel
theorem dX8_changes_77 : decode cX8_changes 77 = .ok (.iinc 2 1, 3) := by decide +kernel
theorem dX8_changes_80 : decode cX8_changes 80 = .ok (.goto (-25), 3) := by decide +kernel
theorem dX8_changes_83 : decode cX8_changes 83 = .ok (.aload_n 0, 1) := by decide +kernel
theorem dX8_changes_84 : decode cX8_changes 84 = .ok (.invokevirtual 139, 3) := by decide +kernel
theorem dX8_changes_87 : decode cX8_changes 87 = .ok (.aload_n 0, 1) := by decide +kernel
theorem dX8_changes_88 : decode cX8_changes 88 = .ok (.iconst 0, 1) := by decide +kernel
theorem dX8_changes_89 : decode cX8_changes 89 = .ok (.putfield 213, 3) := by decide +kernel
theorem dX8_changes_92 : decode cX8_changes 92 = .ok (.iconst 0, 1) := by decide +kernel
theorem dX8_changes_93 : decode cX8_changes 93 = .ok (.istore_n 2, 1) := by decide +kernel
theorem dX8_changes_94 : decode cX8_changes 94 = .ok (.iload_n 2, 1) := by decide +kernel
theorem dX8_changes_95 : decode cX8_changes 95 = .ok (.bipush 30, 2) := by decide +kernel
theorem dX8_changes_97 : decode cX8_changes 97 = .ok (.if_icmp .ge 74, 3) := by decide +kernel
theorem dX8_changes_100 : decode cX8_changes 100 = .ok (.aload_n 0, 1) := by decide +kernel
theorem dX8_changes_101 : decode cX8_changes 101 = .ok (.getfield 44, 3) := by decide +kernel
theorem dX8_changes_104 : decode cX8_changes 104 = .ok (.iload_n 2, 1) := by decide +kernel
theorem dX8_changes_105 : decode cX8_changes 105 = .ok (.baload, 1) := by decide +kernel
theorem dX8_changes_106 : decode cX8_changes 106 = .ok (.aload_n 0, 1) := by decide +kernel
theorem dX8_changes_107 : decode cX8_changes 107 = .ok (.getfield 25, 3) := by decide +kernel
theorem dX8_changes_110 : decode cX8_changes 110 = .ok (.iload_n 2, 1) := by decide +kernel
theorem dX8_changes_111 : decode cX8_changes 111 = .ok (.baload, 1) := by decide +kernel
theorem dX8_changes_112 : decode cX8_changes 112 = .ok (.if_icmp .ne 27, 3) := by decide +kernel
theorem dX8_changes_115 : decode cX8_changes 115 = .ok (.aload_n 0, 1) := by decide +kernel
theorem dX8_changes_116 : decode cX8_changes 116 = .ok (.getfield 25, 3) := by decide +kernel
theorem dX8_changes_119 : decode cX8_changes 119 = .ok (.iload_n 2, 1) := by decide +kernel
theorem dX8_changes_120 : decode cX8_changes 120 = .ok (.baload, 1) := by decide +kernel
theorem dX8_changes_121 : decode cX8_changes 121 = .ok (.ifCond .eq 22, 3) := by decide +kernel
theorem dX8_changes_124 : decode cX8_changes 124 = .ok (.aload_n 0, 1) := by decide +kernel
theorem dX8_changes_125 : decode cX8_changes 125 = .ok (.getfield 22, 3) := by decide +kernel
theorem dX8_changes_128 : decode cX8_changes 128 = .ok (.iload_n 2, 1) := by decide +kernel
theorem dX8_changes_129 : decode cX8_changes 129 = .ok (.iaload, 1) := by decide +kernel
theorem dX8_changes_130 : decode cX8_changes 130 = .ok (.aload_n 0, 1) := by decide +kernel
theorem dX8_changes_131 : decode cX8_changes 131 = .ok (.getfield 41, 3) := by decide +kernel
theorem dX8_changes_134 : decode cX8_changes 134 = .ok (.iload_n 2, 1) := by decide +kernel
theorem dX8_changes_135 : decode cX8_changes 135 = .ok (.iaload, 1) := by decide +kernel
theorem dX8_changes_136 : decode cX8_changes 136 = .ok (.if_icmp .eq 7, 3) := by decide +kernel
theorem dX8_changes_139 : decode cX8_changes 139 = .ok (.iconst 1, 1) := by decide +kernel
theorem dX8_changes_140 : decode cX8_changes 140 = .ok (.goto 4, 3) := by decide +kernel
theorem dX8_changes_143 : decode cX8_changes 143 = .ok (.iconst 0, 1) := by decide +kernel
theorem dX8_changes_144 : decode cX8_changes 144 = .ok (.istore_n 3, 1) := by decide +kernel
theorem dX8_changes_145 : decode cX8_changes 145 = .ok (.aload_n 0, 1) := by decide +kernel
theorem dX8_changes_146 : decode cX8_changes 146 = .ok (.dup, 1) := by decide +kernel
theorem dX8_changes_147 : decode cX8_changes 147 = .ok (.getfield 213, 3) := by decide +kernel
theorem dX8_changes_150 : decode cX8_changes 150 = .ok (.iload_n 3, 1) := by decide +kernel
theorem dX8_changes_151 : decode cX8_changes 151 = .ok (.ifCond .eq 9, 3) := by decide +kernel
theorem dX8_changes_154 : decode cX8_changes 154 = .ok (.iconst 1, 1) := by decide +kernel
theorem dX8_changes_155 : decode cX8_changes 155 = .ok (.iload_n 2, 1) := by decide +kernel
theorem dX8_changes_156 : decode cX8_changes 156 = .ok (.ishl, 1) := by decide +kernel
theorem dX8_changes_157 : decode cX8_changes 157 = .ok (.goto 4, 3) := by decide +kernel
theorem dX8_changes_160 : decode cX8_changes 160 = .ok (.iconst 0, 1) := by decide +kernel
theorem dX8_changes_161 : decode cX8_changes 161 = .ok (.ior, 1) := by decide +kernel
theorem dX8_changes_162 : decode cX8_changes 162 = .ok (.putfield 213, 3) := by decide +kernel
theorem dX8_changes_165 : decode cX8_changes 165 = .ok (.iinc 2 1, 3) := by decide +kernel
theorem dX8_changes_168 : decode cX8_changes 168 = .ok (.goto (-74), 3) := by decide +kernel
theorem dX8_changes_171 : decode cX8_changes 171 = .ok (.aload_n 0, 1) := by decide +kernel
theorem dX8_changes_172 : decode cX8_changes 172 = .ok (.iconst 1, 1) := by decide +kernel
theorem dX8_changes_173 : decode cX8_changes 173 = .ok (.iload_n 1, 1) := by decide +kernel
theorem dX8_changes_174 : decode cX8_changes 174 = .ok (.ishl, 1) := by decide +kernel
theorem dX8_changes_175 : decode cX8_changes 175 = .ok (.putfield 216, 3) := by decide +kernel
theorem dX8_changes_178 : decode cX8_changes 178 = .ok (.iconst 0, 1) := by decide +kernel
theorem dX8_changes_179 : decode cX8_changes 179 = .ok (.istore_n 2, 1) := by decide +kernel
theorem dX8_changes_180 : decode cX8_changes 180 = .ok (.iload_n 2, 1) := by decide +kernel
theorem dX8_changes_181 : decode cX8_changes 181 = .ok (.bipush 30, 2) := by decide +kernel
theorem dX8_changes_183 : decode cX8_changes 183 = .ok (.if_icmp .ge 39, 3) := by decide +kernel
theorem dX8_changes_186 : decode cX8_changes 186 = .ok (.aload_n 0, 1) := by decide +kernel
theorem dX8_changes_187 : decode cX8_changes 187 = .ok (.dup, 1) := by decide +kernel
theorem dX8_changes_188 : decode cX8_changes 188 = .ok (.getfield 216, 3) := by decide +kernel
theorem dX8_changes_191 : decode cX8_changes 191 = .ok (.aload_n 0, 1) := by decide +kernel
theorem dX8_changes_192 : decode cX8_changes 192 = .ok (.getfield 47, 3) := by decide +kernel
theorem dX8_changes_195 : decode cX8_changes 195 = .ok (.iload_n 2, 1) := by decide +kernel
theorem dX8_changes_196 : decode cX8_changes 196 = .ok (.iaload, 1) := by decide +kernel
theorem dX8_changes_197 : decode cX8_changes 197 = .ok (.aload_n 0, 1) := by decide +kernel
theorem dX8_changes_198 : decode cX8_changes 198 = .ok (.getfield 213, 3) := by decide +kernel
theorem dX8_changes_201 : decode cX8_changes 201 = .ok (.iand, 1) := by decide +kernel
theorem dX8_changes_202 : decode cX8_changes 202 = .ok (.ifCond .eq 9, 3) := by decide +kernel
theorem dX8_changes_205 : decode cX8_changes 205 = .ok (.iconst 1, 1) := by decide +kernel
theorem dX8_changes_206 : decode cX8_changes 206 = .ok (.iload_n 2, 1) := by decide +kernel
theorem dX8_changes_207 : decode cX8_changes 207 = .ok (.ishl, 1) := by decide +kernel
theorem dX8_changes_208 : decode cX8_changes 208 = .ok (.goto 4, 3) := by decide +kernel
theorem dX8_changes_211 : decode cX8_changes 211 = .ok (.iconst 0, 1) := by decide +kernel
theorem dX8_changes_212 : decode cX8_changes 212 = .ok (.ior, 1) := by decide +kernel
theorem dX8_changes_213 : decode cX8_changes 213 = .ok (.putfield 216, 3) := by decide +kernel
theorem dX8_changes_216 : decode cX8_changes 216 = .ok (.iinc 2 1, 3) := by decide +kernel
theorem dX8_changes_219 : decode cX8_changes 219 = .ok (.goto (-39), 3) := by decide +kernel
theorem dX8_changes_222 : decode cX8_changes 222 = .ok (.return_, 1) := by decide +kernel
theorem dX8_puts_0 : decode cX8_puts 0 = .ok (.aload_n 0, 1) := by decide +kernel
theorem dX8_puts_1 : decode cX8_puts 1 = .ok (.getfield 146, 3) := by decide +kernel
theorem dX8_puts_4 : decode cX8_puts 4 = .ok (.bipush 20, 2) := by decide +kernel
theorem dX8_puts_6 : decode cX8_puts 6 = .ok (.if_icmp .ne 41, 3) := by decide +kernel
theorem dX8_puts_9 : decode cX8_puts 9 = .ok (.iconst 0, 1) := by decide +kernel
theorem dX8_puts_10 : decode cX8_puts 10 = .ok (.istore_n 2, 1) := by decide +kernel
theorem dX8_puts_11 : decode cX8_puts 11 = .ok (.iload_n 2, 1) := by decide +kernel
theorem dX8_puts_12 : decode cX8_puts 12 = .ok (.bipush 95, 2) := by decide +kernel
theorem dX8_puts_14 : decode cX8_puts 14 = .ok (.if_icmp .ge 23, 3) := by decide +kernel
theorem dX8_puts_17 : decode cX8_puts 17 = .ok (.aload_n 0, 1) := by decide +kernel
theorem dX8_puts_18 : decode cX8_puts 18 = .ok (.getfield 50, 3) := by decide +kernel
theorem dX8_puts_21 : decode cX8_puts 21 = .ok (.iload_n 2, 1) := by decide +kernel
theorem dX8_puts_22 : decode cX8_puts 22 = .ok (.aload_n 0, 1) := by decide +kernel
theorem dX8_puts_23 : decode cX8_puts 23 = .ok (.getfield 50, 3) := by decide +kernel
theorem dX8_puts_26 : decode cX8_puts 26 = .ok (.iload_n 2, 1) := by decide +kernel
theorem dX8_puts_27 : decode cX8_puts 27 = .ok (.iconst 5, 1) := by decide +kernel
theorem dX8_puts_28 : decode cX8_puts 28 = .ok (.iadd, 1) := by decide +kernel
theorem dX8_puts_29 : decode cX8_puts 29 = .ok (.iaload, 1) := by decide +kernel
theorem dX8_puts_30 : decode cX8_puts 30 = .ok (.iastore, 1) := by decide +kernel
theorem dX8_puts_31 : decode cX8_puts 31 = .ok (.iinc 2 1, 3) := by decide +kernel
theorem dX8_puts_34 : decode cX8_puts 34 = .ok (.goto (-23), 3) := by decide +kernel
theorem dX8_puts_37 : decode cX8_puts 37 = .ok (.aload_n 0, 1) := by decide +kernel
theorem dX8_puts_38 : decode cX8_puts 38 = .ok (.dup, 1) := by decide +kernel
theorem dX8_puts_39 : decode cX8_puts 39 = .ok (.getfield 146, 3) := by decide +kernel
theorem dX8_puts_42 : decode cX8_puts 42 = .ok (.iconst 1, 1) := by decide +kernel
theorem dX8_puts_43 : decode cX8_puts 43 = .ok (.isub, 1) := by decide +kernel
theorem dX8_puts_44 : decode cX8_puts 44 = .ok (.putfield 146, 3) := by decide +kernel
theorem dX8_puts_47 : decode cX8_puts 47 = .ok (.aload_n 0, 1) := by decide +kernel
theorem dX8_puts_48 : decode cX8_puts 48 = .ok (.getfield 50, 3) := by decide +kernel
theorem dX8_puts_51 : decode cX8_puts 51 = .ok (.iconst 5, 1) := by decide +kernel
theorem dX8_puts_52 : decode cX8_puts 52 = .ok (.aload_n 0, 1) := by decide +kernel
theorem dX8_puts_53 : decode cX8_puts 53 = .ok (.getfield 146, 3) := by decide +kernel
theorem dX8_puts_56 : decode cX8_puts 56 = .ok (.imul, 1) := by decide +kernel
theorem dX8_puts_57 : decode cX8_puts 57 = .ok (.iload_n 1, 1) := by decide +kernel
theorem dX8_puts_58 : decode cX8_puts 58 = .ok (.iastore, 1) := by decide +kernel
theorem dX8_puts_59 : decode cX8_puts 59 = .ok (.iconst 0, 1) := by decide +kernel
theorem dX8_puts_60 : decode cX8_puts 60 = .ok (.istore_n 2, 1) := by decide +kernel
theorem dX8_puts_61 : decode cX8_puts 61 = .ok (.iload_n 2, 1) := by decide +kernel
theorem dX8_puts_62 : decode cX8_puts 62 = .ok (.iconst 4, 1) := by decide +kernel
theorem dX8_puts_63 : decode cX8_puts 63 = .ok (.if_icmp .ge 35, 3) := by decide +kernel
theorem dX8_puts_66 : decode cX8_puts 66 = .ok (.aload_n 0, 1) := by decide +kernel
theorem dX8_puts_67 : decode cX8_puts 67 = .ok (.getfield 50, 3) := by decide +kernel
theorem dX8_puts_70 : decode cX8_puts 70 = .ok (.iconst 5, 1) := by decide +kernel
theorem dX8_puts_71 : decode cX8_puts 71 = .ok (.aload_n 0, 1) := by decide +kernel
theorem dX8_puts_72 : decode cX8_puts 72 = .ok (.getfield 146, 3) := by decide +kernel
theorem dX8_puts_75 : decode cX8_puts 75 = .ok (.imul, 1) := by decide +kernel
theorem dX8_puts_76 : decode cX8_puts 76 = .ok (.iconst 1, 1) := by decide +kernel
theorem dX8_puts_77 : decode cX8_puts 77 = .ok (.iadd, 1) := by decide +kernel
theorem dX8_puts_78 : decode cX8_puts 78 = .ok (.iload_n 2, 1) := by decide +kernel
theorem dX8_puts_79 : decode cX8_puts 79 = .ok (.iadd, 1) := by decide +kernel
theorem dX8_puts_80 : decode cX8_puts 80 = .ok (.aload_n 0, 1) := by decide +kernel
theorem dX8_puts_81 : decode cX8_puts 81 = .ok (.getfield 7, 3) := by decide +kernel
theorem dX8_puts_84 : decode cX8_puts 84 = .ok (.bipush 30, 2) := by decide +kernel
theorem dX8_puts_86 : decode cX8_puts 86 = .ok (.iload_n 2, 1) := by decide +kernel
theorem dX8_puts_87 : decode cX8_puts 87 = .ok (.imul, 1) := by decide +kernel
theorem dX8_puts_88 : decode cX8_puts 88 = .ok (.iload_n 1, 1) := by decide +kernel
theorem dX8_puts_89 : decode cX8_puts 89 = .ok (.iadd, 1) := by decide +kernel
theorem dX8_puts_90 : decode cX8_puts 90 = .ok (.iaload, 1) := by decide +kernel
theorem dX8_puts_91 : decode cX8_puts 91 = .ok (.iastore, 1) := by decide +kernel
theorem dX8_puts_92 : decode cX8_puts 92 = .ok (.iinc 2 1, 3) := by decide +kernel
theorem dX8_puts_95 : decode cX8_puts 95 = .ok (.goto (-34), 3) := by decide +kernel
theorem dX8_puts_98 : decode cX8_puts 98 = .ok (.aload_n 0, 1) := by decide +kernel
theorem dX8_puts_99 : decode cX8_puts 99 = .ok (.dup, 1) := by decide +kernel
theorem dX8_puts_100 : decode cX8_puts 100 = .ok (.getfield 146, 3) := by decide +kernel
theorem dX8_puts_103 : decode cX8_puts 103 = .ok (.iconst 1, 1) := by decide +kernel
theorem dX8_puts_104 : decode cX8_puts 104 = .ok (.iadd, 1) := by decide +kernel
theorem dX8_puts_105 : decode cX8_puts 105 = .ok (.putfield 146, 3) := by decide +kernel
theorem dX8_puts_108 : decode cX8_puts 108 = .ok (.aload_n 0, 1) := by decide +kernel
theorem dX8_puts_109 : decode cX8_puts 109 = .ok (.iload_n 1, 1) := by decide +kernel
theorem dX8_puts_110 : decode cX8_puts 110 = .ok (.invokevirtual 219, 3) := by decide +kernel
theorem dX8_puts_113 : decode cX8_puts 113 = .ok (.aload_n 0, 1) := by decide +kernel
theorem dX8_puts_114 : decode cX8_puts 114 = .ok (.iconst 1, 1) := by decide +kernel
theorem dX8_puts_115 : decode cX8_puts 115 = .ok (.putfield 142, 3) := by decide +kernel
theorem dX8_puts_118 : decode cX8_puts 118 = .ok (.aload_n 0, 1) := by decide +kernel
theorem dX8_puts_119 : decode cX8_puts 119 = .ok (.getfield 216, 3) := by decide +kernel
theorem dX8_puts_122 : decode cX8_puts 122 = .ok (.invokestatic 222, 3) := by decide +kernel
theorem dX8_puts_125 : decode cX8_puts 125 = .ok (.ireturn, 1) := by decide +kernel
theorem dX8_putsFormula_0 : decode cX8_putsFormula 0 = .ok (.iload_n 1, 1) := by decide +kernel
theorem dX8_putsFormula_1 : decode cX8_putsFormula 1 = .ok (.iload_n 2, 1) := by decide +kernel
theorem dX8_putsFormula_2 : decode cX8_putsFormula 2 = .ok (.iload_n 3, 1) := by decide +kernel
theorem dX8_putsFormula_3 : decode cX8_putsFormula 3 = .ok (.iload 4, 2) := by decide +kernel
theorem dX8_putsFormula_5 : decode cX8_putsFormula 5 = .ok (.iload 5, 2) := by decide +kernel
theorem dX8_putsFormula_7 : decode cX8_putsFormula 7 = .ok (.invokestatic 225, 3) := by decide +kernel
theorem dX8_putsFormula_10 : decode cX8_putsFormula 10 = .ok (.ifCond .ne 5, 3) := by decide +kernel
theorem dX8_putsFormula_13 : decode cX8_putsFormula 13 = .ok (.iconst (-1), 1) := by decide +kernel
theorem dX8_putsFormula_14 : decode cX8_putsFormula 14 = .ok (.ireturn, 1) := by decide +kernel
theorem dX8_putsFormula_15 : decode cX8_putsFormula 15 = .ok (.aload_n 0, 1) := by decide +kernel
theorem dX8_putsFormula_16 : decode cX8_putsFormula 16 = .ok (.iload_n 2, 1) := by decide +kernel
theorem dX8_putsFormula_17 : decode cX8_putsFormula 17 = .ok (.iload_n 3, 1) := by decide +kernel
theorem dX8_putsFormula_18 : decode cX8_putsFormula 18 = .ok (.iload 4, 2) := by decide +kernel
theorem dX8_putsFormula_20 : decode cX8_putsFormula 20 = .ok (.iload 5, 2) := by decide +kernel
theorem dX8_putsFormula_22 : decode cX8_putsFormula 22 = .ok (.invokevirtual 229, 3) := by decide +kernel
theorem dX8_putsFormula_25 : decode cX8_putsFormula 25 = .ok (.aload_n 0, 1) := by decide +kernel
theorem dX8_putsFormula_26 : decode cX8_putsFormula 26 = .ok (.iload_n 1, 1) := by decide +kernel
theorem dX8_putsFormula_27 : decode cX8_putsFormula 27 = .ok (.invokevirtual 233, 3) := by decide +kernel
theorem dX8_putsFormula_30 : decode cX8_putsFormula 30 = .ok (.ireturn, 1) := by decide +kernel
theorem dX8_put_0 : decode cX8_put 0 = .ok (.aload_n 0, 1) := by decide +kernel
theorem dX8_put_1 : decode cX8_put 1 = .ok (.iload_n 1, 1) := by decide +kernel
theorem dX8_put_2 : decode cX8_put 2 = .ok (.iload_n 2, 1) := by decide +kernel
theorem dX8_put_3 : decode cX8_put 3 = .ok (.iload_n 3, 1) := by decide +kernel
theorem dX8_put_4 : decode cX8_put 4 = .ok (.iload 4, 2) := by decide +kernel
theorem dX8_put_6 : decode cX8_put 6 = .ok (.iload 5, 2) := by decide +kernel
theorem dX8_put_8 : decode cX8_put 8 = .ok (.invokevirtual 236, 3) := by decide +kernel
theorem dX8_put_11 : decode cX8_put 11 = .ok (.ireturn, 1) := by decide +kernel
theorem dX8_would_0 : decode cX8_would 0 = .ok (.iload_n 1, 1) := by decide +kernel
theorem dX8_would_1 : decode cX8_would 1 = .ok (.iload_n 2, 1) := by decide +kernel
theorem dX8_would_2 : decode cX8_would 2 = .ok (.iload_n 3, 1) := by decide +kernel
theorem dX8_would_3 : decode cX8_would 3 = .ok (.iload 4, 2) := by decide +kernel
theorem dX8_would_5 : decode cX8_would 5 = .ok (.iload 5, 2) := by decide +kernel
theorem dX8_would_7 : decode cX8_would 7 = .ok (.invokestatic 225, 3) := by decide +kernel
theorem dX8_would_10 : decode cX8_would 10 = .ok (.ifCond .eq 16, 3) := by decide +kernel
theorem dX8_would_13 : decode cX8_would 13 = .ok (.iload 6, 2) := by decide +kernel
theorem dX8_would_15 : decode cX8_would 15 = .ok (.i2l, 1) := by decide +kernel
theorem dX8_would_16 : decode cX8_would 16 = .ok (.lconst 0, 1) := by decide +kernel
theorem dX8_would_17 : decode cX8_would 17 = .ok (.ldc2_w 240, 3) := by decide +kernel
theorem dX8_would_20 : decode cX8_would 20 = .ok (.invokestatic 73, 3) := by decide +kernel
theorem dX8_would_23 : decode cX8_would 23 = .ok (.ifCond .ne 5, 3) := by decide +kernel
theorem dX8_would_26 : decode cX8_would 26 = .ok (.iconst (-1), 1) := by decide +kernel
theorem dX8_would_27 : decode cX8_would 27 = .ok (.ireturn, 1) := by decide +kernel
theorem dX8_would_28 : decode cX8_would 28 = .ok (.aload_n 0, 1) := by decide +kernel
theorem dX8_would_29 : decode cX8_would 29 = .ok (.getfield 216, 3) := by decide +kernel
theorem dX8_would_32 : decode cX8_would 32 = .ok (.istore 7, 2) := by decide +kernel
theorem dX8_would_34 : decode cX8_would 34 = .ok (.aload_n 0, 1) := by decide +kernel
theorem dX8_would_35 : decode cX8_would 35 = .ok (.getfield 213, 3) := by decide +kernel
theorem dX8_would_38 : decode cX8_would 38 = .ok (.istore 8, 2) := by decide +kernel
theorem dX8_would_40 : decode cX8_would 40 = .ok (.aload_n 0, 1) := by decide +kernel
theorem dX8_would_41 : decode cX8_would 41 = .ok (.iconst 0, 1) := by decide +kernel
theorem dX8_would_42 : decode cX8_would 42 = .ok (.sipush 600, 3) := by decide +kernel
theorem dX8_would_45 : decode cX8_would 45 = .ok (.invokevirtual 135, 3) := by decide +kernel
theorem dX8_would_48 : decode cX8_would 48 = .ok (.aload_n 0, 1) := by decide +kernel
theorem dX8_would_49 : decode cX8_would 49 = .ok (.iload_n 2, 1) := by decide +kernel
theorem dX8_would_50 : decode cX8_would 50 = .ok (.iload_n 3, 1) := by decide +kernel
theorem dX8_would_51 : decode cX8_would 51 = .ok (.iload 4, 2) := by decide +kernel
theorem dX8_would_53 : decode cX8_would 53 = .ok (.iload 5, 2) := by decide +kernel
theorem dX8_would_55 : decode cX8_would 55 = .ok (.invokevirtual 229, 3) := by decide +kernel
theorem dX8_would_58 : decode cX8_would 58 = .ok (.aload_n 0, 1) := by decide +kernel
theorem dX8_would_59 : decode cX8_would 59 = .ok (.iload_n 1, 1) := by decide +kernel
theorem dX8_would_60 : decode cX8_would 60 = .ok (.invokevirtual 219, 3) := by decide +kernel
theorem dX8_would_63 : decode cX8_would 63 = .ok (.iconst 0, 1) := by decide +kernel
theorem dX8_would_64 : decode cX8_would 64 = .ok (.istore 9, 2) := by decide +kernel
theorem dX8_would_66 : decode cX8_would 66 = .ok (.iconst 0, 1) := by decide +kernel
theorem dX8_would_67 : decode cX8_would 67 = .ok (.istore 10, 2) := by decide +kernel
theorem dX8_would_69 : decode cX8_would 69 = .ok (.iload 10, 2) := by decide +kernel
theorem dX8_would_71 : decode cX8_would 71 = .ok (.bipush 30, 2) := by decide +kernel
theorem dX8_would_73 : decode cX8_would 73 = .ok (.if_icmp .ge 28, 3) := by decide +kernel
theorem dX8_would_76 : decode cX8_would 76 = .ok (.iload 9, 2) := by decide +kernel
theorem dX8_would_78 : decode cX8_would 78 = .ok (.aload_n 0, 1) := by decide +kernel
theorem dX8_would_79 : decode cX8_would 79 = .ok (.iload 10, 2) := by decide +kernel
theorem dX8_would_81 : decode cX8_would 81 = .ok (.invokevirtual 174, 3) := by decide +kernel
theorem dX8_would_84 : decode cX8_would 84 = .ok (.ifCond .le 7, 3) := by decide +kernel
theorem dX8_would_87 : decode cX8_would 87 = .ok (.iconst 1, 1) := by decide +kernel
theorem dX8_would_88 : decode cX8_would 88 = .ok (.goto 4, 3) := by decide +kernel
theorem dX8_would_91 : decode cX8_would 91 = .ok (.iconst 0, 1) := by decide +kernel
theorem dX8_would_92 : decode cX8_would 92 = .ok (.iadd, 1) := by decide +kernel
theorem dX8_would_93 : decode cX8_would 93 = .ok (.istore 9, 2) := by decide +kernel
theorem dX8_would_95 : decode cX8_would 95 = .ok (.iinc 10 1, 3) := by decide +kernel
theorem dX8_would_98 : decode cX8_would 98 = .ok (.goto (-29), 3) := by decide +kernel
theorem dX8_would_101 : decode cX8_would 101 = .ok (.iload 6, 2) := by decide +kernel
theorem dX8_would_103 : decode cX8_would 103 = .ok (.ifCond .ne 13, 3) := by decide +kernel
theorem dX8_would_106 : decode cX8_would 106 = .ok (.aload_n 0, 1) := by decide +kernel
theorem dX8_would_107 : decode cX8_would 107 = .ok (.getfield 216, 3) := by decide +kernel
theorem dX8_would_110 : decode cX8_would 110 = .ok (.invokestatic 222, 3) := by decide +kernel
theorem dX8_would_113 : decode cX8_would 113 = .ok (.goto 21, 3) := by decide +kernel
theorem dX8_would_116 : decode cX8_would 116 = .ok (.iload 6, 2) := by decide +kernel
theorem dX8_would_118 : decode cX8_would 118 = .ok (.iconst 1, 1) := by decide +kernel
theorem dX8_would_119 : decode cX8_would 119 = .ok (.if_icmp .ne 13, 3) := by decide +kernel
theorem dX8_would_122 : decode cX8_would 122 = .ok (.aload_n 0, 1) := by decide +kernel
theorem dX8_would_123 : decode cX8_would 123 = .ok (.getfield 213, 3) := by decide +kernel
theorem dX8_would_126 : decode cX8_would 126 = .ok (.invokestatic 222, 3) := by decide +kernel
theorem dX8_would_129 : decode cX8_would 129 = .ok (.goto 5, 3) := by decide +kernel
theorem dX8_would_132 : decode cX8_would 132 = .ok (.iload 9, 2) := by decide +kernel
theorem dX8_would_134 : decode cX8_would 134 = .ok (.istore 10, 2) := by decide +kernel
theorem dX8_would_136 : decode cX8_would 136 = .ok (.aload_n 0, 1) := by decide +kernel
theorem dX8_would_137 : decode cX8_would 137 = .ok (.sipush 600, 3) := by decide +kernel
theorem dX8_would_140 : decode cX8_would 140 = .ok (.iconst 0, 1) := by decide +kernel
theorem dX8_would_141 : decode cX8_would 141 = .ok (.invokevirtual 135, 3) := by decide +kernel
theorem dX8_would_144 : decode cX8_would 144 = .ok (.aload_n 0, 1) := by decide +kernel
theorem dX8_would_145 : decode cX8_would 145 = .ok (.invokevirtual 139, 3) := by decide +kernel
theorem dX8_would_148 : decode cX8_would 148 = .ok (.aload_n 0, 1) := by decide +kernel
theorem dX8_would_149 : decode cX8_would 149 = .ok (.iload 7, 2) := by decide +kernel
theorem dX8_would_151 : decode cX8_would 151 = .ok (.putfield 216, 3) := by decide +kernel
theorem dX8_would_154 : decode cX8_would 154 = .ok (.aload_n 0, 1) := by decide +kernel
theorem dX8_would_155 : decode cX8_would 155 = .ok (.iload 8, 2) := by decide +kernel
theorem dX8_would_157 : decode cX8_would 157 = .ok (.putfield 213, 3) := by decide +kernel
theorem dX8_would_160 : decode cX8_would 160 = .ok (.iload 10, 2) := by decide +kernel
theorem dX8_would_162 : decode cX8_would 162 = .ok (.ireturn, 1) := by decide +kernel
theorem dX8_latest_0 : decode cX8_latest 0 = .ok (.iload_n 1, 1) := by decide +kernel
theorem dX8_latest_1 : decode cX8_latest 1 = .ok (.i2l, 1) := by decide +kernel
theorem dX8_latest_2 : decode cX8_latest 2 = .ok (.lconst 0, 1) := by decide +kernel
theorem dX8_latest_3 : decode cX8_latest 3 = .ok (.ldc2_w 240, 3) := by decide +kernel
theorem dX8_latest_6 : decode cX8_latest 6 = .ok (.invokestatic 73, 3) := by decide +kernel
theorem dX8_latest_9 : decode cX8_latest 9 = .ok (.ifCond .ne 5, 3) := by decide +kernel
theorem dX8_latest_12 : decode cX8_latest 12 = .ok (.iconst (-1), 1) := by decide +kernel
theorem dX8_latest_13 : decode cX8_latest 13 = .ok (.ireturn, 1) := by decide +kernel
theorem dX8_latest_14 : decode cX8_latest 14 = .ok (.aload_n 0, 1) := by decide +kernel
theorem dX8_latest_15 : decode cX8_latest 15 = .ok (.getfield 142, 3) := by decide +kernel
theorem dX8_latest_18 : decode cX8_latest 18 = .ok (.ifCond .ne 6, 3) := by decide +kernel
theorem dX8_latest_21 : decode cX8_latest 21 = .ok (.bipush (-4), 2) := by decide +kernel
theorem dX8_latest_23 : decode cX8_latest 23 = .ok (.ireturn, 1) := by decide +kernel
theorem dX8_latest_24 : decode cX8_latest 24 = .ok (.iload_n 1, 1) := by decide +kernel
theorem dX8_latest_25 : decode cX8_latest 25 = .ok (.ifCond .ne 10, 3) := by decide +kernel
theorem dX8_latest_28 : decode cX8_latest 28 = .ok (.aload_n 0, 1) := by decide +kernel
theorem dX8_latest_29 : decode cX8_latest 29 = .ok (.getfield 216, 3) := by decide +kernel
theorem dX8_latest_32 : decode cX8_latest 32 = .ok (.goto 26, 3) := by decide +kernel
theorem dX8_latest_35 : decode cX8_latest 35 = .ok (.iload_n 1, 1) := by decide +kernel
theorem dX8_latest_36 : decode cX8_latest 36 = .ok (.iconst 1, 1) := by decide +kernel
theorem dX8_latest_37 : decode cX8_latest 37 = .ok (.if_icmp .ne 10, 3) := by decide +kernel
theorem dX8_latest_40 : decode cX8_latest 40 = .ok (.aload_n 0, 1) := by decide +kernel
theorem dX8_latest_41 : decode cX8_latest 41 = .ok (.getfield 213, 3) := by decide +kernel
theorem dX8_latest_44 : decode cX8_latest 44 = .ok (.goto 14, 3) := by decide +kernel
theorem dX8_latest_47 : decode cX8_latest 47 = .ok (.aload_n 0, 1) := by decide +kernel
theorem dX8_latest_48 : decode cX8_latest 48 = .ok (.getfield 216, 3) := by decide +kernel
theorem dX8_latest_51 : decode cX8_latest 51 = .ok (.aload_n 0, 1) := by decide +kernel
theorem dX8_latest_52 : decode cX8_latest 52 = .ok (.getfield 213, 3) := by decide +kernel
theorem dX8_latest_55 : decode cX8_latest 55 = .ok (.iconst (-1), 1) := by decide +kernel
theorem dX8_latest_56 : decode cX8_latest 56 = .ok (.ixor, 1) := by decide +kernel
theorem dX8_latest_57 : decode cX8_latest 57 = .ok (.iand, 1) := by decide +kernel
theorem dX8_latest_58 : decode cX8_latest 58 = .ok (.ireturn, 1) := by decide +kernel
theorem dX8_undo_0 : decode cX8_undo 0 = .ok (.aload_n 0, 1) := by decide +kernel
theorem dX8_undo_1 : decode cX8_undo 1 = .ok (.getfield 146, 3) := by decide +kernel
theorem dX8_undo_4 : decode cX8_undo 4 = .ok (.ifCond .ne 6, 3) := by decide +kernel
theorem dX8_undo_7 : decode cX8_undo 7 = .ok (.bipush (-2), 2) := by decide +kernel
theorem dX8_undo_9 : decode cX8_undo 9 = .ok (.ireturn, 1) := by decide +kernel
theorem dX8_undo_10 : decode cX8_undo 10 = .ok (.aload_n 0, 1) := by decide +kernel
theorem dX8_undo_11 : decode cX8_undo 11 = .ok (.dup, 1) := by decide +kernel
theorem dX8_undo_12 : decode cX8_undo 12 = .ok (.getfield 146, 3) := by decide +kernel
theorem dX8_undo_15 : decode cX8_undo 15 = .ok (.iconst 1, 1) := by decide +kernel
theorem dX8_undo_16 : decode cX8_undo 16 = .ok (.isub, 1) := by decide +kernel
theorem dX8_undo_17 : decode cX8_undo 17 = .ok (.putfield 146, 3) := by decide +kernel
theorem dX8_undo_20 : decode cX8_undo 20 = .ok (.iconst 0, 1) := by decide +kernel
theorem dX8_undo_21 : decode cX8_undo 21 = .ok (.istore_n 1, 1) := by decide +kernel
theorem dX8_undo_22 : decode cX8_undo 22 = .ok (.iload_n 1, 1) := by decide +kernel
theorem dX8_undo_23 : decode cX8_undo 23 = .ok (.iconst 4, 1) := by decide +kernel
theorem dX8_undo_24 : decode cX8_undo 24 = .ok (.if_icmp .ge 30, 3) := by decide +kernel
theorem dX8_undo_27 : decode cX8_undo 27 = .ok (.aload_n 0, 1) := by decide +kernel
theorem dX8_undo_28 : decode cX8_undo 28 = .ok (.getfield 56, 3) := by decide +kernel
theorem dX8_undo_31 : decode cX8_undo 31 = .ok (.iload_n 1, 1) := by decide +kernel
theorem dX8_undo_32 : decode cX8_undo 32 = .ok (.aload_n 0, 1) := by decide +kernel
theorem dX8_undo_33 : decode cX8_undo 33 = .ok (.getfield 50, 3) := by decide +kernel
theorem dX8_undo_36 : decode cX8_undo 36 = .ok (.iconst 5, 1) := by decide +kernel
theorem dX8_undo_37 : decode cX8_undo 37 = .ok (.aload_n 0, 1) := by decide +kernel
theorem dX8_undo_38 : decode cX8_undo 38 = .ok (.getfield 146, 3) := by decide +kernel
theorem dX8_undo_41 : decode cX8_undo 41 = .ok (.imul, 1) := by decide +kernel
theorem dX8_undo_42 : decode cX8_undo 42 = .ok (.iconst 1, 1) := by decide +kernel
theorem dX8_undo_43 : decode cX8_undo 43 = .ok (.iadd, 1) := by decide +kernel
theorem dX8_undo_44 : decode cX8_undo 44 = .ok (.iload_n 1, 1) := by decide +kernel
theorem dX8_undo_45 : decode cX8_undo 45 = .ok (.iadd, 1) := by decide +kernel
theorem dX8_undo_46 : decode cX8_undo 46 = .ok (.iaload, 1) := by decide +kernel
theorem dX8_undo_47 : decode cX8_undo 47 = .ok (.iastore, 1) := by decide +kernel
theorem dX8_undo_48 : decode cX8_undo 48 = .ok (.iinc 1 1, 3) := by decide +kernel
theorem dX8_undo_51 : decode cX8_undo 51 = .ok (.goto (-29), 3) := by decide +kernel
theorem dX8_undo_54 : decode cX8_undo 54 = .ok (.aload_n 0, 1) := by decide +kernel
theorem dX8_undo_55 : decode cX8_undo 55 = .ok (.aload_n 0, 1) := by decide +kernel
theorem dX8_undo_56 : decode cX8_undo 56 = .ok (.getfield 50, 3) := by decide +kernel
theorem dX8_undo_59 : decode cX8_undo 59 = .ok (.iconst 5, 1) := by decide +kernel
theorem dX8_undo_60 : decode cX8_undo 60 = .ok (.aload_n 0, 1) := by decide +kernel
theorem dX8_undo_61 : decode cX8_undo 61 = .ok (.getfield 146, 3) := by decide +kernel
theorem dX8_undo_64 : decode cX8_undo 64 = .ok (.imul, 1) := by decide +kernel
theorem dX8_undo_65 : decode cX8_undo 65 = .ok (.iaload, 1) := by decide +kernel
theorem dX8_undo_66 : decode cX8_undo 66 = .ok (.invokevirtual 219, 3) := by decide +kernel
theorem dX8_undo_69 : decode cX8_undo 69 = .ok (.aload_n 0, 1) := by decide +kernel
theorem dX8_undo_70 : decode cX8_undo 70 = .ok (.iconst 1, 1) := by decide +kernel
theorem dX8_undo_71 : decode cX8_undo 71 = .ok (.putfield 142, 3) := by decide +kernel
theorem dX8_undo_74 : decode cX8_undo 74 = .ok (.aload_n 0, 1) := by decide +kernel
theorem dX8_undo_75 : decode cX8_undo 75 = .ok (.getfield 216, 3) := by decide +kernel
theorem dX8_undo_78 : decode cX8_undo 78 = .ok (.invokestatic 222, 3) := by decide +kernel
theorem dX8_undo_81 : decode cX8_undo 81 = .ok (.ireturn, 1) := by decide +kernel
theorem dX8_drawn_0 : decode cX8_drawn 0 = .ok (.iload_n 0, 1) := by decide +kernel
theorem dX8_drawn_1 : decode cX8_drawn 1 = .ok (.ldc 242, 2) := by decide +kernel
theorem dX8_drawn_3 : decode cX8_drawn 3 = .ok (.imul, 1) := by decide +kernel
theorem dX8_drawn_4 : decode cX8_drawn 4 = .ok (.sipush 12345, 3) := by decide +kernel
theorem dX8_drawn_7 : decode cX8_drawn 7 = .ok (.iadd, 1) := by decide +kernel
theorem dX8_drawn_8 : decode cX8_drawn 8 = .ok (.ireturn, 1) := by decide +kernel
theorem dX8_storm_0 : decode cX8_storm 0 = .ok (.iload_n 2, 1) := by decide +kernel
theorem dX8_storm_1 : decode cX8_storm 1 = .ok (.i2l, 1) := by decide +kernel
theorem dX8_storm_2 : decode cX8_storm 2 = .ok (.lconst 1, 1) := by decide +kernel
theorem dX8_storm_3 : decode cX8_storm 3 = .ok (.ldc2_w 243, 3) := by decide +kernel
theorem dX8_storm_6 : decode cX8_storm 6 = .ok (.invokestatic 73, 3) := by decide +kernel
theorem dX8_storm_9 : decode cX8_storm 9 = .ok (.ifCond .ne 5, 3) := by decide +kernel
theorem dX8_storm_12 : decode cX8_storm 12 = .ok (.iconst (-1), 1) := by decide +kernel
theorem dX8_storm_13 : decode cX8_storm 13 = .ok (.ireturn, 1) := by decide +kernel
theorem dX8_storm_14 : decode cX8_storm 14 = .ok (.iload_n 1, 1) := by decide +kernel
theorem dX8_storm_15 : decode cX8_storm 15 = .ok (.istore_n 3, 1) := by decide +kernel
theorem dX8_storm_16 : decode cX8_storm 16 = .ok (.iconst 0, 1) := by decide +kernel
theorem dX8_storm_17 : decode cX8_storm 17 = .ok (.istore 4, 2) := by decide +kernel
theorem dX8_storm_19 : decode cX8_storm 19 = .ok (.iconst 0, 1) := by decide +kernel
theorem dX8_storm_20 : decode cX8_storm 20 = .ok (.istore 5, 2) := by decide +kernel
theorem dX8_storm_22 : decode cX8_storm 22 = .ok (.iload 5, 2) := by decide +kernel
theorem dX8_storm_24 : decode cX8_storm 24 = .ok (.iload_n 2, 1) := by decide +kernel
theorem dX8_storm_25 : decode cX8_storm 25 = .ok (.if_icmp .ge 154, 3) := by decide +kernel
theorem dX8_storm_28 : decode cX8_storm 28 = .ok (.iload_n 3, 1) := by decide +kernel
theorem dX8_storm_29 : decode cX8_storm 29 = .ok (.invokestatic 245, 3) := by decide +kernel
theorem dX8_storm_32 : decode cX8_storm 32 = .ok (.istore_n 3, 1) := by decide +kernel
theorem dX8_storm_33 : decode cX8_storm 33 = .ok (.iload_n 3, 1) := by decide +kernel
theorem dX8_storm_34 : decode cX8_storm 34 = .ok (.bipush 16, 2) := by decide +kernel
theorem dX8_storm_36 : decode cX8_storm 36 = .ok (.ishr, 1) := by decide +kernel
theorem dX8_storm_37 : decode cX8_storm 37 = .ok (.sipush 32767, 3) := by decide +kernel
theorem dX8_storm_40 : decode cX8_storm 40 = .ok (.iand, 1) := by decide +kernel
theorem dX8_storm_41 : decode cX8_storm 41 = .ok (.istore 6, 2) := by decide +kernel
theorem dX8_storm_43 : decode cX8_storm 43 = .ok (.iload_n 3, 1) := by decide +kernel
theorem dX8_storm_44 : decode cX8_storm 44 = .ok (.invokestatic 245, 3) := by decide +kernel
theorem dX8_storm_47 : decode cX8_storm 47 = .ok (.istore_n 3, 1) := by decide +kernel
theorem dX8_storm_48 : decode cX8_storm 48 = .ok (.iload_n 3, 1) := by decide +kernel
theorem dX8_storm_49 : decode cX8_storm 49 = .ok (.bipush 16, 2) := by decide +kernel
theorem dX8_storm_51 : decode cX8_storm 51 = .ok (.ishr, 1) := by decide +kernel
theorem dX8_storm_52 : decode cX8_storm 52 = .ok (.sipush 32767, 3) := by decide +kernel
theorem dX8_storm_55 : decode cX8_storm 55 = .ok (.iand, 1) := by decide +kernel
theorem dX8_storm_56 : decode cX8_storm 56 = .ok (.istore 7, 2) := by decide +kernel
theorem dX8_storm_58 : decode cX8_storm 58 = .ok (.iload_n 3, 1) := by decide +kernel
theorem dX8_storm_59 : decode cX8_storm 59 = .ok (.invokestatic 245, 3) := by decide +kernel
theorem dX8_storm_62 : decode cX8_storm 62 = .ok (.istore_n 3, 1) := by decide +kernel
theorem dX8_storm_63 : decode cX8_storm 63 = .ok (.iload_n 3, 1) := by decide +kernel
theorem dX8_storm_64 : decode cX8_storm 64 = .ok (.bipush 16, 2) := by decide +kernel
theorem dX8_storm_66 : decode cX8_storm 66 = .ok (.ishr, 1) := by decide +kernel
theorem dX8_storm_67 : decode cX8_storm 67 = .ok (.sipush 32767, 3) := by decide +kernel
theorem dX8_storm_70 : decode cX8_storm 70 = .ok (.iand, 1) := by decide +kernel
theorem dX8_storm_71 : decode cX8_storm 71 = .ok (.istore 8, 2) := by decide +kernel
theorem dX8_storm_73 : decode cX8_storm 73 = .ok (.iload 6, 2) := by decide +kernel
theorem dX8_storm_75 : decode cX8_storm 75 = .ok (.bipush 32, 2) := by decide +kernel
theorem dX8_storm_77 : decode cX8_storm 77 = .ok (.idiv, 1) := by decide +kernel
theorem dX8_storm_78 : decode cX8_storm 78 = .ok (.bipush 9, 2) := by decide +kernel
theorem dX8_storm_80 : decode cX8_storm 80 = .ok (.irem, 1) := by decide +kernel
theorem dX8_storm_81 : decode cX8_storm 81 = .ok (.istore 9, 2) := by decide +kernel
theorem dX8_storm_83 : decode cX8_storm 83 = .ok (.iload 7, 2) := by decide +kernel
theorem dX8_storm_85 : decode cX8_storm 85 = .ok (.bipush 30, 2) := by decide +kernel
theorem dX8_storm_87 : decode cX8_storm 87 = .ok (.irem, 1) := by decide +kernel
theorem dX8_storm_88 : decode cX8_storm 88 = .ok (.istore 10, 2) := by decide +kernel
theorem dX8_storm_90 : decode cX8_storm 90 = .ok (.iload 7, 2) := by decide +kernel
theorem dX8_storm_92 : decode cX8_storm 92 = .ok (.bipush 32, 2) := by decide +kernel
theorem dX8_storm_94 : decode cX8_storm 94 = .ok (.idiv, 1) := by decide +kernel
theorem dX8_storm_95 : decode cX8_storm 95 = .ok (.bipush 30, 2) := by decide +kernel
theorem dX8_storm_97 : decode cX8_storm 97 = .ok (.irem, 1) := by decide +kernel
theorem dX8_storm_98 : decode cX8_storm 98 = .ok (.istore 11, 2) := by decide +kernel
theorem dX8_storm_100 : decode cX8_storm 100 = .ok (.iload 9, 2) := by decide +kernel
theorem dX8_storm_102 : decode cX8_storm 102 = .ok (.bipush 6, 2) := by decide +kernel
theorem dX8_storm_104 : decode cX8_storm 104 = .ok (.if_icmp .eq 10, 3) := by decide +kernel
theorem dX8_storm_107 : decode cX8_storm 107 = .ok (.iload 9, 2) := by decide +kernel
theorem dX8_storm_109 : decode cX8_storm 109 = .ok (.bipush 7, 2) := by decide +kernel
theorem dX8_storm_111 : decode cX8_storm 111 = .ok (.if_icmp .ne 14, 3) := by decide +kernel
theorem dX8_storm_114 : decode cX8_storm 114 = .ok (.iload 10, 2) := by decide +kernel
theorem dX8_storm_116 : decode cX8_storm 116 = .ok (.iload 11, 2) := by decide +kernel
theorem dX8_storm_118 : decode cX8_storm 118 = .ok (.if_icmp .le 7, 3) := by decide +kernel
theorem dX8_storm_121 : decode cX8_storm 121 = .ok (.iconst 1, 1) := by decide +kernel
theorem dX8_storm_122 : decode cX8_storm 122 = .ok (.goto 4, 3) := by decide +kernel
theorem dX8_storm_125 : decode cX8_storm 125 = .ok (.iconst 0, 1) := by decide +kernel
theorem dX8_storm_126 : decode cX8_storm 126 = .ok (.istore 12, 2) := by decide +kernel
theorem dX8_storm_128 : decode cX8_storm 128 = .ok (.iload 4, 2) := by decide +kernel
theorem dX8_storm_130 : decode cX8_storm 130 = .ok (.aload_n 0, 1) := by decide +kernel
theorem dX8_storm_131 : decode cX8_storm 131 = .ok (.iload 6, 2) := by decide +kernel
theorem dX8_storm_133 : decode cX8_storm 133 = .ok (.bipush 30, 2) := by decide +kernel
theorem dX8_storm_135 : decode cX8_storm 135 = .ok (.irem, 1) := by decide +kernel
theorem dX8_storm_136 : decode cX8_storm 136 = .ok (.iload 9, 2) := by decide +kernel
theorem dX8_storm_138 : decode cX8_storm 138 = .ok (.iload 12, 2) := by decide +kernel
theorem dX8_storm_140 : decode cX8_storm 140 = .ok (.ifCond .eq 8, 3) := by decide +kernel
theorem dX8_storm_143 : decode cX8_storm 143 = .ok (.iload 11, 2) := by decide +kernel
theorem dX8_storm_145 : decode cX8_storm 145 = .ok (.goto 5, 3) := by decide +kernel
theorem dX8_storm_148 : decode cX8_storm 148 = .ok (.iload 10, 2) := by decide +kernel
theorem dX8_storm_150 : decode cX8_storm 150 = .ok (.iload 12, 2) := by decide +kernel
theorem dX8_storm_152 : decode cX8_storm 152 = .ok (.ifCond .eq 8, 3) := by decide +kernel
theorem dX8_storm_155 : decode cX8_storm 155 = .ok (.iload 10, 2) := by decide +kernel
theorem dX8_storm_157 : decode cX8_storm 157 = .ok (.goto 5, 3) := by decide +kernel
theorem dX8_storm_160 : decode cX8_storm 160 = .ok (.iload 11, 2) := by decide +kernel
theorem dX8_storm_162 : decode cX8_storm 162 = .ok (.iload 8, 2) := by decide +kernel
theorem dX8_storm_164 : decode cX8_storm 164 = .ok (.bipush 30, 2) := by decide +kernel
theorem dX8_storm_166 : decode cX8_storm 166 = .ok (.irem, 1) := by decide +kernel
theorem dX8_storm_167 : decode cX8_storm 167 = .ok (.invokevirtual 236, 3) := by decide +kernel
theorem dX8_storm_170 : decode cX8_storm 170 = .ok (.iadd, 1) := by decide +kernel
theorem dX8_storm_171 : decode cX8_storm 171 = .ok (.istore 4, 2) := by decide +kernel
theorem dX8_storm_173 : decode cX8_storm 173 = .ok (.iinc 5 1, 3) := by decide +kernel
theorem dX8_storm_176 : decode cX8_storm 176 = .ok (.goto (-154), 3) := by decide +kernel
theorem dX8_storm_179 : decode cX8_storm 179 = .ok (.iload 4, 2) := by decide +kernel
theorem dX8_storm_181 : decode cX8_storm 181 = .ok (.ireturn, 1) := by decide +kernel
theorem dX8_keep_0 : decode cX8_keep 0 = .ok (.iload_n 1, 1) := by decide +kernel
theorem dX8_keep_1 : decode cX8_keep 1 = .ok (.i2l, 1) := by decide +kernel
theorem dX8_keep_2 : decode cX8_keep 2 = .ok (.lconst 0, 1) := by decide +kernel
theorem dX8_keep_3 : decode cX8_keep 3 = .ok (.lconst 1, 1) := by decide +kernel
theorem dX8_keep_4 : decode cX8_keep 4 = .ok (.invokestatic 73, 3) := by decide +kernel
theorem dX8_keep_7 : decode cX8_keep 7 = .ok (.ifCond .ne 5, 3) := by decide +kernel
theorem dX8_keep_10 : decode cX8_keep 10 = .ok (.iconst (-1), 1) := by decide +kernel
theorem dX8_keep_11 : decode cX8_keep 11 = .ok (.ireturn, 1) := by decide +kernel
theorem dX8_keep_12 : decode cX8_keep 12 = .ok (.aload_n 0, 1) := by decide +kernel
theorem dX8_keep_13 : decode cX8_keep 13 = .ok (.getfield 59, 3) := by decide +kernel
theorem dX8_keep_16 : decode cX8_keep 16 = .ok (.iload_n 1, 1) := by decide +kernel
theorem dX8_keep_17 : decode cX8_keep 17 = .ok (.baload, 1) := by decide +kernel
theorem dX8_keep_18 : decode cX8_keep 18 = .ok (.ifCond .eq 7, 3) := by decide +kernel
theorem dX8_keep_21 : decode cX8_keep 21 = .ok (.iconst 1, 1) := by decide +kernel
theorem dX8_keep_22 : decode cX8_keep 22 = .ok (.goto 4, 3) := by decide +kernel
theorem dX8_keep_25 : decode cX8_keep 25 = .ok (.iconst 0, 1) := by decide +kernel
theorem dX8_keep_26 : decode cX8_keep 26 = .ok (.istore_n 2, 1) := by decide +kernel
theorem dX8_keep_27 : decode cX8_keep 27 = .ok (.aload_n 0, 1) := by decide +kernel
theorem dX8_keep_28 : decode cX8_keep 28 = .ok (.iconst 0, 1) := by decide +kernel
theorem dX8_keep_29 : decode cX8_keep 29 = .ok (.bipush 120, 2) := by decide +kernel
theorem dX8_keep_31 : decode cX8_keep 31 = .ok (.iload_n 1, 1) := by decide +kernel
theorem dX8_keep_32 : decode cX8_keep 32 = .ok (.imul, 1) := by decide +kernel
theorem dX8_keep_33 : decode cX8_keep 33 = .ok (.bipush 120, 2) := by decide +kernel
theorem dX8_keep_35 : decode cX8_keep 35 = .ok (.iadd, 1) := by decide +kernel
theorem dX8_keep_36 : decode cX8_keep 36 = .ok (.invokevirtual 135, 3) := by decide +kernel
theorem dX8_keep_39 : decode cX8_keep 39 = .ok (.aload_n 0, 1) := by decide +kernel
theorem dX8_keep_40 : decode cX8_keep 40 = .ok (.getfield 59, 3) := by decide +kernel
theorem dX8_keep_43 : decode cX8_keep 43 = .ok (.iload_n 1, 1) := by decide +kernel
theorem dX8_keep_44 : decode cX8_keep 44 = .ok (.iconst 1, 1) := by decide +kernel
theorem dX8_keep_45 : decode cX8_keep 45 = .ok (.bastore, 1) := by decide +kernel
theorem dX8_keep_46 : decode cX8_keep 46 = .ok (.iload_n 2, 1) := by decide +kernel
theorem dX8_keep_47 : decode cX8_keep 47 = .ok (.ireturn, 1) := by decide +kernel
theorem dX8_back_0 : decode cX8_back 0 = .ok (.iload_n 1, 1) := by decide +kernel
theorem dX8_back_1 : decode cX8_back 1 = .ok (.i2l, 1) := by decide +kernel
theorem dX8_back_2 : decode cX8_back 2 = .ok (.lconst 0, 1) := by decide +kernel
theorem dX8_back_3 : decode cX8_back 3 = .ok (.lconst 1, 1) := by decide +kernel
theorem dX8_back_4 : decode cX8_back 4 = .ok (.invokestatic 73, 3) := by decide +kernel
theorem dX8_back_7 : decode cX8_back 7 = .ok (.ifCond .ne 5, 3) := by decide +kernel
theorem dX8_back_10 : decode cX8_back 10 = .ok (.iconst (-1), 1) := by decide +kernel
theorem dX8_back_11 : decode cX8_back 11 = .ok (.ireturn, 1) := by decide +kernel
theorem dX8_back_12 : decode cX8_back 12 = .ok (.aload_n 0, 1) := by decide +kernel
theorem dX8_back_13 : decode cX8_back 13 = .ok (.getfield 59, 3) := by decide +kernel
theorem dX8_back_16 : decode cX8_back 16 = .ok (.iload_n 1, 1) := by decide +kernel
theorem dX8_back_17 : decode cX8_back 17 = .ok (.baload, 1) := by decide +kernel
theorem dX8_back_18 : decode cX8_back 18 = .ok (.ifCond .ne 6, 3) := by decide +kernel
theorem dX8_back_21 : decode cX8_back 21 = .ok (.bipush (-2), 2) := by decide +kernel
theorem dX8_back_23 : decode cX8_back 23 = .ok (.ireturn, 1) := by decide +kernel
theorem dX8_back_24 : decode cX8_back 24 = .ok (.aload_n 0, 1) := by decide +kernel
theorem dX8_back_25 : decode cX8_back 25 = .ok (.bipush 120, 2) := by decide +kernel
theorem dX8_back_27 : decode cX8_back 27 = .ok (.iload_n 1, 1) := by decide +kernel
theorem dX8_back_28 : decode cX8_back 28 = .ok (.imul, 1) := by decide +kernel
theorem dX8_back_29 : decode cX8_back 29 = .ok (.bipush 120, 2) := by decide +kernel
theorem dX8_back_31 : decode cX8_back 31 = .ok (.iadd, 1) := by decide +kernel
theorem dX8_back_32 : decode cX8_back 32 = .ok (.iconst 0, 1) := by decide +kernel
theorem dX8_back_33 : decode cX8_back 33 = .ok (.invokevirtual 135, 3) := by decide +kernel
theorem dX8_back_36 : decode cX8_back 36 = .ok (.aload_n 0, 1) := by decide +kernel
theorem dX8_back_37 : decode cX8_back 37 = .ok (.invokevirtual 139, 3) := by decide +kernel
theorem dX8_back_40 : decode cX8_back 40 = .ok (.aload_n 0, 1) := by decide +kernel
theorem dX8_back_41 : decode cX8_back 41 = .ok (.iconst 0, 1) := by decide +kernel
theorem dX8_back_42 : decode cX8_back 42 = .ok (.putfield 142, 3) := by decide +kernel
theorem dX8_back_45 : decode cX8_back 45 = .ok (.aload_n 0, 1) := by decide +kernel
theorem dX8_back_46 : decode cX8_back 46 = .ok (.iconst 0, 1) := by decide +kernel
theorem dX8_back_47 : decode cX8_back 47 = .ok (.putfield 146, 3) := by decide +kernel
theorem dX8_back_50 : decode cX8_back 50 = .ok (.aload_n 0, 1) := by decide +kernel
theorem dX8_back_51 : decode cX8_back 51 = .ok (.invokevirtual 189, 3) := by decide +kernel
theorem dX8_back_54 : decode cX8_back 54 = .ok (.ireturn, 1) := by decide +kernel
theorem dX8_sheet_0 : decode cX8_sheet 0 = .ok (.iload_n 1, 1) := by decide +kernel
theorem dX8_sheet_1 : decode cX8_sheet 1 = .ok (.i2l, 1) := by decide +kernel
theorem dX8_sheet_2 : decode cX8_sheet 2 = .ok (.lconst 0, 1) := by decide +kernel
theorem dX8_sheet_3 : decode cX8_sheet 3 = .ok (.ldc2_w 248, 3) := by decide +kernel
theorem dX8_sheet_6 : decode cX8_sheet 6 = .ok (.invokestatic 73, 3) := by decide +kernel
theorem dX8_sheet_9 : decode cX8_sheet 9 = .ok (.ifCond .eq 21, 3) := by decide +kernel
theorem dX8_sheet_12 : decode cX8_sheet 12 = .ok (.iload_n 2, 1) := by decide +kernel
theorem dX8_sheet_13 : decode cX8_sheet 13 = .ok (.i2l, 1) := by decide +kernel
theorem dX8_sheet_14 : decode cX8_sheet 14 = .ok (.lconst 0, 1) := by decide +kernel
theorem dX8_sheet_15 : decode cX8_sheet 15 = .ok (.ldc2_w 240, 3) := by decide +kernel
theorem dX8_sheet_18 : decode cX8_sheet 18 = .ok (.invokestatic 73, 3) := by decide +kernel
theorem dX8_sheet_21 : decode cX8_sheet 21 = .ok (.ifCond .eq 9, 3) := by decide +kernel
theorem dX8_sheet_24 : decode cX8_sheet 24 = .ok (.iload_n 3, 1) := by decide +kernel
theorem dX8_sheet_25 : decode cX8_sheet 25 = .ok (.bipush 40, 2) := by decide +kernel
theorem dX8_sheet_27 : decode cX8_sheet 27 = .ok (.if_icmp .le 5, 3) := by decide +kernel
theorem dX8_sheet_30 : decode cX8_sheet 30 = .ok (.iconst (-1), 1) := by decide +kernel
theorem dX8_sheet_31 : decode cX8_sheet 31 = .ok (.ireturn, 1) := by decide +kernel
theorem dX8_sheet_32 : decode cX8_sheet 32 = .ok (.iload_n 3, 1) := by decide +kernel
theorem dX8_sheet_33 : decode cX8_sheet 33 = .ok (.ifCond .ge 6, 3) := by decide +kernel
theorem dX8_sheet_36 : decode cX8_sheet 36 = .ok (.bipush (-14), 2) := by decide +kernel
theorem dX8_sheet_38 : decode cX8_sheet 38 = .ok (.ireturn, 1) := by decide +kernel
theorem dX8_sheet_39 : decode cX8_sheet 39 = .ok (.aload_n 0, 1) := by decide +kernel
theorem dX8_sheet_40 : decode cX8_sheet 40 = .ok (.getfield 62, 3) := by decide +kernel
theorem dX8_sheet_43 : decode cX8_sheet 43 = .ok (.iload_n 1, 1) := by decide +kernel
theorem dX8_sheet_44 : decode cX8_sheet 44 = .ok (.iload_n 2, 1) := by decide +kernel
theorem dX8_sheet_45 : decode cX8_sheet 45 = .ok (.iastore, 1) := by decide +kernel
theorem dX8_sheet_46 : decode cX8_sheet 46 = .ok (.aload_n 0, 1) := by decide +kernel
theorem dX8_sheet_47 : decode cX8_sheet 47 = .ok (.getfield 65, 3) := by decide +kernel
theorem dX8_sheet_50 : decode cX8_sheet 50 = .ok (.iload_n 1, 1) := by decide +kernel
theorem dX8_sheet_51 : decode cX8_sheet 51 = .ok (.iload_n 3, 1) := by decide +kernel
theorem dX8_sheet_52 : decode cX8_sheet 52 = .ok (.iastore, 1) := by decide +kernel
theorem dX8_sheet_53 : decode cX8_sheet 53 = .ok (.iconst 0, 1) := by decide +kernel
theorem dX8_sheet_54 : decode cX8_sheet 54 = .ok (.istore 4, 2) := by decide +kernel
theorem dX8_sheet_56 : decode cX8_sheet 56 = .ok (.iload 4, 2) := by decide +kernel
theorem dX8_sheet_58 : decode cX8_sheet 58 = .ok (.bipush 40, 2) := by decide +kernel
theorem dX8_sheet_60 : decode cX8_sheet 60 = .ok (.if_icmp .ge 22, 3) := by decide +kernel
theorem dX8_sheet_63 : decode cX8_sheet 63 = .ok (.aload_n 0, 1) := by decide +kernel
theorem dX8_sheet_64 : decode cX8_sheet 64 = .ok (.getfield 68, 3) := by decide +kernel
theorem dX8_sheet_67 : decode cX8_sheet 67 = .ok (.bipush 40, 2) := by decide +kernel
theorem dX8_sheet_69 : decode cX8_sheet 69 = .ok (.iload_n 1, 1) := by decide +kernel
theorem dX8_sheet_70 : decode cX8_sheet 70 = .ok (.imul, 1) := by decide +kernel
theorem dX8_sheet_71 : decode cX8_sheet 71 = .ok (.iload 4, 2) := by decide +kernel
theorem dX8_sheet_73 : decode cX8_sheet 73 = .ok (.iadd, 1) := by decide +kernel
theorem dX8_sheet_74 : decode cX8_sheet 74 = .ok (.iconst 0, 1) := by decide +kernel
theorem dX8_sheet_75 : decode cX8_sheet 75 = .ok (.iastore, 1) := by decide +kernel
theorem dX8_sheet_76 : decode cX8_sheet 76 = .ok (.iinc 4 1, 3) := by decide +kernel
theorem dX8_sheet_79 : decode cX8_sheet 79 = .ok (.goto (-23), 3) := by decide +kernel
theorem dX8_sheet_82 : decode cX8_sheet 82 = .ok (.iconst 1, 1) := by decide +kernel
theorem dX8_sheet_83 : decode cX8_sheet 83 = .ok (.ireturn, 1) := by decide +kernel
theorem dX8_lay_0 : decode cX8_lay 0 = .ok (.iload_n 1, 1) := by decide +kernel
theorem dX8_lay_1 : decode cX8_lay 1 = .ok (.i2l, 1) := by decide +kernel
theorem dX8_lay_2 : decode cX8_lay 2 = .ok (.lconst 0, 1) := by decide +kernel
theorem dX8_lay_3 : decode cX8_lay 3 = .ok (.ldc2_w 248, 3) := by decide +kernel
theorem dX8_lay_6 : decode cX8_lay 6 = .ok (.invokestatic 73, 3) := by decide +kernel
theorem dX8_lay_9 : decode cX8_lay 9 = .ok (.ifCond .ne 5, 3) := by decide +kernel
theorem dX8_lay_12 : decode cX8_lay 12 = .ok (.iconst (-1), 1) := by decide +kernel
theorem dX8_lay_13 : decode cX8_lay 13 = .ok (.ireturn, 1) := by decide +kernel
theorem dX8_lay_14 : decode cX8_lay 14 = .ok (.aload_n 0, 1) := by decide +kernel
theorem dX8_lay_15 : decode cX8_lay 15 = .ok (.getfield 62, 3) := by decide +kernel
theorem dX8_lay_18 : decode cX8_lay 18 = .ok (.iload_n 1, 1) := by decide +kernel
theorem dX8_lay_19 : decode cX8_lay 19 = .ok (.iaload, 1) := by decide +kernel
theorem dX8_lay_20 : decode cX8_lay 20 = .ok (.bipush (-4), 2) := by decide +kernel
theorem dX8_lay_22 : decode cX8_lay 22 = .ok (.if_icmp .ne 6, 3) := by decide +kernel
theorem dX8_lay_25 : decode cX8_lay 25 = .ok (.bipush (-11), 2) := by decide +kernel
theorem dX8_lay_27 : decode cX8_lay 27 = .ok (.ireturn, 1) := by decide +kernel
theorem dX8_lay_28 : decode cX8_lay 28 = .ok (.iload_n 2, 1) := by decide +kernel
theorem dX8_lay_29 : decode cX8_lay 29 = .ok (.i2l, 1) := by decide +kernel
theorem dX8_lay_30 : decode cX8_lay 30 = .ok (.lconst 0, 1) := by decide +kernel
theorem dX8_lay_31 : decode cX8_lay 31 = .ok (.aload_n 0, 1) := by decide +kernel
theorem dX8_lay_32 : decode cX8_lay 32 = .ok (.getfield 65, 3) := by decide +kernel
theorem dX8_lay_35 : decode cX8_lay 35 = .ok (.iload_n 1, 1) := by decide +kernel
theorem dX8_lay_36 : decode cX8_lay 36 = .ok (.iaload, 1) := by decide +kernel
theorem dX8_lay_37 : decode cX8_lay 37 = .ok (.iconst 1, 1) := by decide +kernel
theorem dX8_lay_38 : decode cX8_lay 38 = .ok (.isub, 1) := by decide +kernel
theorem dX8_lay_39 : decode cX8_lay 39 = .ok (.i2l, 1) := by decide +kernel
theorem dX8_lay_40 : decode cX8_lay 40 = .ok (.invokestatic 73, 3) := by decide +kernel
theorem dX8_lay_43 : decode cX8_lay 43 = .ok (.ifCond .ne 6, 3) := by decide +kernel
theorem dX8_lay_46 : decode cX8_lay 46 = .ok (.bipush (-12), 2) := by decide +kernel
theorem dX8_lay_48 : decode cX8_lay 48 = .ok (.ireturn, 1) := by decide +kernel
theorem dX8_lay_49 : decode cX8_lay 49 = .ok (.aload_n 0, 1) := by decide +kernel
theorem dX8_lay_50 : decode cX8_lay 50 = .ok (.getfield 68, 3) := by decide +kernel
theorem dX8_lay_53 : decode cX8_lay 53 = .ok (.bipush 40, 2) := by decide +kernel
theorem dX8_lay_55 : decode cX8_lay 55 = .ok (.iload_n 1, 1) := by decide +kernel
theorem dX8_lay_56 : decode cX8_lay 56 = .ok (.imul, 1) := by decide +kernel
theorem dX8_lay_57 : decode cX8_lay 57 = .ok (.iload_n 2, 1) := by decide +kernel
theorem dX8_lay_58 : decode cX8_lay 58 = .ok (.iadd, 1) := by decide +kernel
theorem dX8_lay_59 : decode cX8_lay 59 = .ok (.aload_n 0, 1) := by decide +kernel
theorem dX8_lay_60 : decode cX8_lay 60 = .ok (.getfield 62, 3) := by decide +kernel
theorem dX8_lay_63 : decode cX8_lay 63 = .ok (.iload_n 1, 1) := by decide +kernel
theorem dX8_lay_64 : decode cX8_lay 64 = .ok (.iaload, 1) := by decide +kernel
theorem dX8_lay_65 : decode cX8_lay 65 = .ok (.ifCond .ne 13, 3) := by decide +kernel
theorem dX8_lay_68 : decode cX8_lay 68 = .ok (.iload_n 3, 1) := by decide +kernel
theorem dX8_lay_69 : decode cX8_lay 69 = .ok (.bipush 24, 2) := by decide +kernel
theorem dX8_lay_71 : decode cX8_lay 71 = .ok (.ishl, 1) := by decide +kernel
theorem dX8_lay_72 : decode cX8_lay 72 = .ok (.bipush 24, 2) := by decide +kernel
theorem dX8_lay_74 : decode cX8_lay 74 = .ok (.ishr, 1) := by decide +kernel
theorem dX8_lay_75 : decode cX8_lay 75 = .ok (.goto 24, 3) := by decide +kernel
theorem dX8_lay_78 : decode cX8_lay 78 = .ok (.aload_n 0, 1) := by decide +kernel
theorem dX8_lay_79 : decode cX8_lay 79 = .ok (.getfield 62, 3) := by decide +kernel
theorem dX8_lay_82 : decode cX8_lay 82 = .ok (.iload_n 1, 1) := by decide +kernel
theorem dX8_lay_83 : decode cX8_lay 83 = .ok (.iaload, 1) := by decide +kernel
theorem dX8_lay_84 : decode cX8_lay 84 = .ok (.iconst 1, 1) := by decide +kernel
theorem dX8_lay_85 : decode cX8_lay 85 = .ok (.if_icmp .ne 13, 3) := by decide +kernel
theorem dX8_lay_88 : decode cX8_lay 88 = .ok (.iload_n 3, 1) := by decide +kernel
theorem dX8_lay_89 : decode cX8_lay 89 = .ok (.bipush 16, 2) := by decide +kernel
theorem dX8_lay_91 : decode cX8_lay 91 = .ok (.ishl, 1) := by decide +kernel
theorem dX8_lay_92 : decode cX8_lay 92 = .ok (.bipush 16, 2) := by decide +kernel
theorem dX8_lay_94 : decode cX8_lay 94 = .ok (.ishr, 1) := by decide +kernel
theorem dX8_lay_95 : decode cX8_lay 95 = .ok (.goto 4, 3) := by decide +kernel
theorem dX8_lay_98 : decode cX8_lay 98 = .ok (.iload_n 3, 1) := by decide +kernel
theorem dX8_lay_99 : decode cX8_lay 99 = .ok (.iastore, 1) := by decide +kernel
theorem dX8_lay_100 : decode cX8_lay 100 = .ok (.iconst 1, 1) := by decide +kernel
theorem dX8_lay_101 : decode cX8_lay 101 = .ok (.ireturn, 1) := by decide +kernel
theorem dX8_setsAside_0 : decode cX8_setsAside 0 = .ok (.aload_n 0, 1) := by decide +kernel
theorem dX8_setsAside_1 : decode cX8_setsAside 1 = .ok (.iconst 0, 1) := by decide +kernel
theorem dX8_setsAside_2 : decode cX8_setsAside 2 = .ok (.sipush 480, 3) := by decide +kernel
theorem dX8_setsAside_5 : decode cX8_setsAside 5 = .ok (.invokevirtual 135, 3) := by decide +kernel
theorem dX8_setsAside_8 : decode cX8_setsAside 8 = .ok (.iconst 0, 1) := by decide +kernel
theorem dX8_setsAside_9 : decode cX8_setsAside 9 = .ok (.istore_n 1, 1) := by decide +kernel
theorem dX8_setsAside_10 : decode cX8_setsAside 10 = .ok (.iload_n 1, 1) := by decide +kernel
theorem dX8_setsAside_11 : decode cX8_setsAside 11 = .ok (.bipush 100, 2) := by decide +kernel
theorem dX8_setsAside_13 : decode cX8_setsAside 13 = .ok (.if_icmp .ge 21, 3) := by decide +kernel
theorem dX8_setsAside_16 : decode cX8_setsAside 16 = .ok (.aload_n 0, 1) := by decide +kernel
theorem dX8_setsAside_17 : decode cX8_setsAside 17 = .ok (.getfield 53, 3) := by decide +kernel
theorem dX8_setsAside_20 : decode cX8_setsAside 20 = .ok (.iload_n 1, 1) := by decide +kernel
theorem dX8_setsAside_21 : decode cX8_setsAside 21 = .ok (.aload_n 0, 1) := by decide +kernel
theorem dX8_setsAside_22 : decode cX8_setsAside 22 = .ok (.getfield 50, 3) := by decide +kernel
theorem dX8_setsAside_25 : decode cX8_setsAside 25 = .ok (.iload_n 1, 1) := by decide +kernel
theorem dX8_setsAside_26 : decode cX8_setsAside 26 = .ok (.iaload, 1) := by decide +kernel
theorem dX8_setsAside_27 : decode cX8_setsAside 27 = .ok (.iastore, 1) := by decide +kernel
theorem dX8_setsAside_28 : decode cX8_setsAside 28 = .ok (.iinc 1 1, 3) := by decide +kernel
theorem dX8_setsAside_31 : decode cX8_setsAside 31 = .ok (.goto (-21), 3) := by decide +kernel
theorem dX8_setsAside_34 : decode cX8_setsAside 34 = .ok (.aload_n 0, 1) := by decide +kernel
theorem dX8_setsAside_35 : decode cX8_setsAside 35 = .ok (.getfield 53, 3) := by decide +kernel
theorem dX8_setsAside_38 : decode cX8_setsAside 38 = .ok (.bipush 100, 2) := by decide +kernel
theorem dX8_setsAside_40 : decode cX8_setsAside 40 = .ok (.aload_n 0, 1) := by decide +kernel
theorem dX8_setsAside_41 : decode cX8_setsAside 41 = .ok (.getfield 146, 3) := by decide +kernel
theorem dX8_setsAside_44 : decode cX8_setsAside 44 = .ok (.iastore, 1) := by decide +kernel
theorem dX8_setsAside_45 : decode cX8_setsAside 45 = .ok (.aload_n 0, 1) := by decide +kernel
theorem dX8_setsAside_46 : decode cX8_setsAside 46 = .ok (.getfield 53, 3) := by decide +kernel
theorem dX8_setsAside_49 : decode cX8_setsAside 49 = .ok (.bipush 101, 2) := by decide +kernel
theorem dX8_setsAside_51 : decode cX8_setsAside 51 = .ok (.aload_n 0, 1) := by decide +kernel
theorem dX8_setsAside_52 : decode cX8_setsAside 52 = .ok (.getfield 216, 3) := by decide +kernel
theorem dX8_setsAside_55 : decode cX8_setsAside 55 = .ok (.iastore, 1) := by decide +kernel
theorem dX8_setsAside_56 : decode cX8_setsAside 56 = .ok (.aload_n 0, 1) := by decide +kernel
theorem dX8_setsAside_57 : decode cX8_setsAside 57 = .ok (.getfield 53, 3) := by decide +kernel
theorem dX8_setsAside_60 : decode cX8_setsAside 60 = .ok (.bipush 102, 2) := by decide +kernel
theorem dX8_setsAside_62 : decode cX8_setsAside 62 = .ok (.aload_n 0, 1) := by decide +kernel
theorem dX8_setsAside_63 : decode cX8_setsAside 63 = .ok (.getfield 213, 3) := by decide +kernel
theorem dX8_setsAside_66 : decode cX8_setsAside 66 = .ok (.iastore, 1) := by decide +kernel
theorem dX8_setsAside_67 : decode cX8_setsAside 67 = .ok (.aload_n 0, 1) := by decide +kernel
theorem dX8_setsAside_68 : decode cX8_setsAside 68 = .ok (.aload_n 0, 1) := by decide +kernel
theorem dX8_setsAside_69 : decode cX8_setsAside 69 = .ok (.getfield 142, 3) := by decide +kernel
theorem dX8_setsAside_72 : decode cX8_setsAside 72 = .ok (.putfield 250, 3) := by decide +kernel
theorem dX8_setsAside_75 : decode cX8_setsAside 75 = .ok (.return_, 1) := by decide +kernel
theorem dX8_getsAside_0 : decode cX8_getsAside 0 = .ok (.aload_n 0, 1) := by decide +kernel
theorem dX8_getsAside_1 : decode cX8_getsAside 1 = .ok (.sipush 480, 3) := by decide +kernel
theorem dX8_getsAside_4 : decode cX8_getsAside 4 = .ok (.iconst 0, 1) := by decide +kernel
theorem dX8_getsAside_5 : decode cX8_getsAside 5 = .ok (.invokevirtual 135, 3) := by decide +kernel
theorem dX8_getsAside_8 : decode cX8_getsAside 8 = .ok (.aload_n 0, 1) := by decide +kernel
theorem dX8_getsAside_9 : decode cX8_getsAside 9 = .ok (.invokevirtual 139, 3) := by decide +kernel
theorem dX8_getsAside_12 : decode cX8_getsAside 12 = .ok (.iconst 0, 1) := by decide +kernel
theorem dX8_getsAside_13 : decode cX8_getsAside 13 = .ok (.istore_n 1, 1) := by decide +kernel
theorem dX8_getsAside_14 : decode cX8_getsAside 14 = .ok (.iload_n 1, 1) := by decide +kernel
theorem dX8_getsAside_15 : decode cX8_getsAside 15 = .ok (.bipush 100, 2) := by decide +kernel
theorem dX8_getsAside_17 : decode cX8_getsAside 17 = .ok (.if_icmp .ge 21, 3) := by decide +kernel
theorem dX8_getsAside_20 : decode cX8_getsAside 20 = .ok (.aload_n 0, 1) := by decide +kernel
theorem dX8_getsAside_21 : decode cX8_getsAside 21 = .ok (.getfield 50, 3) := by decide +kernel
theorem dX8_getsAside_24 : decode cX8_getsAside 24 = .ok (.iload_n 1, 1) := by decide +kernel
theorem dX8_getsAside_25 : decode cX8_getsAside 25 = .ok (.aload_n 0, 1) := by decide +kernel
theorem dX8_getsAside_26 : decode cX8_getsAside 26 = .ok (.getfield 53, 3) := by decide +kernel
theorem dX8_getsAside_29 : decode cX8_getsAside 29 = .ok (.iload_n 1, 1) := by decide +kernel
theorem dX8_getsAside_30 : decode cX8_getsAside 30 = .ok (.iaload, 1) := by decide +kernel
theorem dX8_getsAside_31 : decode cX8_getsAside 31 = .ok (.iastore, 1) := by decide +kernel
theorem dX8_getsAside_32 : decode cX8_getsAside 32 = .ok (.iinc 1 1, 3) := by decide +kernel
theorem dX8_getsAside_35 : decode cX8_getsAside 35 = .ok (.goto (-21), 3) := by decide +kernel
theorem dX8_getsAside_38 : decode cX8_getsAside 38 = .ok (.aload_n 0, 1) := by decide +kernel
theorem dX8_getsAside_39 : decode cX8_getsAside 39 = .ok (.aload_n 0, 1) := by decide +kernel
theorem dX8_getsAside_40 : decode cX8_getsAside 40 = .ok (.getfield 53, 3) := by decide +kernel
theorem dX8_getsAside_43 : decode cX8_getsAside 43 = .ok (.bipush 100, 2) := by decide +kernel
theorem dX8_getsAside_45 : decode cX8_getsAside 45 = .ok (.iaload, 1) := by decide +kernel
theorem dX8_getsAside_46 : decode cX8_getsAside 46 = .ok (.putfield 146, 3) := by decide +kernel
theorem dX8_getsAside_49 : decode cX8_getsAside 49 = .ok (.aload_n 0, 1) := by decide +kernel
theorem dX8_getsAside_50 : decode cX8_getsAside 50 = .ok (.aload_n 0, 1) := by decide +kernel
theorem dX8_getsAside_51 : decode cX8_getsAside 51 = .ok (.getfield 53, 3) := by decide +kernel
theorem dX8_getsAside_54 : decode cX8_getsAside 54 = .ok (.bipush 101, 2) := by decide +kernel
theorem dX8_getsAside_56 : decode cX8_getsAside 56 = .ok (.iaload, 1) := by decide +kernel
theorem dX8_getsAside_57 : decode cX8_getsAside 57 = .ok (.putfield 216, 3) := by decide +kernel
theorem dX8_getsAside_60 : decode cX8_getsAside 60 = .ok (.aload_n 0, 1) := by decide +kernel
theorem dX8_getsAside_61 : decode cX8_getsAside 61 = .ok (.aload_n 0, 1) := by decide +kernel
theorem dX8_getsAside_62 : decode cX8_getsAside 62 = .ok (.getfield 53, 3) := by decide +kernel
theorem dX8_getsAside_65 : decode cX8_getsAside 65 = .ok (.bipush 102, 2) := by decide +kernel
theorem dX8_getsAside_67 : decode cX8_getsAside 67 = .ok (.iaload, 1) := by decide +kernel
theorem dX8_getsAside_68 : decode cX8_getsAside 68 = .ok (.putfield 213, 3) := by decide +kernel
theorem dX8_getsAside_71 : decode cX8_getsAside 71 = .ok (.aload_n 0, 1) := by decide +kernel
theorem dX8_getsAside_72 : decode cX8_getsAside 72 = .ok (.aload_n 0, 1) := by decide +kernel
theorem dX8_getsAside_73 : decode cX8_getsAside 73 = .ok (.getfield 250, 3) := by decide +kernel
theorem dX8_getsAside_76 : decode cX8_getsAside 76 = .ok (.putfield 142, 3) := by decide +kernel
theorem dX8_getsAside_79 : decode cX8_getsAside 79 = .ok (.return_, 1) := by decide +kernel
theorem dX8_read_0 : decode cX8_read 0 = .ok (.iload_n 1, 1) := by decide +kernel
theorem dX8_read_1 : decode cX8_read 1 = .ok (.i2l, 1) := by decide +kernel
theorem dX8_read_2 : decode cX8_read 2 = .ok (.lconst 0, 1) := by decide +kernel
theorem dX8_read_3 : decode cX8_read 3 = .ok (.ldc2_w 248, 3) := by decide +kernel
theorem dX8_read_6 : decode cX8_read 6 = .ok (.invokestatic 73, 3) := by decide +kernel
theorem dX8_read_9 : decode cX8_read 9 = .ok (.ifCond .eq 28, 3) := by decide +kernel
theorem dX8_read_12 : decode cX8_read 12 = .ok (.iload_n 2, 1) := by decide +kernel
theorem dX8_read_13 : decode cX8_read 13 = .ok (.i2l, 1) := by decide +kernel
theorem dX8_read_14 : decode cX8_read 14 = .ok (.lconst 0, 1) := by decide +kernel
theorem dX8_read_15 : decode cX8_read 15 = .ok (.ldc2_w 240, 3) := by decide +kernel
theorem dX8_read_18 : decode cX8_read 18 = .ok (.invokestatic 73, 3) := by decide +kernel
theorem dX8_read_21 : decode cX8_read 21 = .ok (.ifCond .eq 16, 3) := by decide +kernel
theorem dX8_read_24 : decode cX8_read 24 = .ok (.iload 4, 2) := by decide +kernel
theorem dX8_read_26 : decode cX8_read 26 = .ok (.i2l, 1) := by decide +kernel
theorem dX8_read_27 : decode cX8_read 27 = .ok (.lconst 0, 1) := by decide +kernel
theorem dX8_read_28 : decode cX8_read 28 = .ok (.ldc2_w 209, 3) := by decide +kernel
theorem dX8_read_31 : decode cX8_read 31 = .ok (.invokestatic 73, 3) := by decide +kernel
theorem dX8_read_34 : decode cX8_read 34 = .ok (.ifCond .ne 5, 3) := by decide +kernel
theorem dX8_read_37 : decode cX8_read 37 = .ok (.iconst (-1), 1) := by decide +kernel
theorem dX8_read_38 : decode cX8_read 38 = .ok (.ireturn, 1) := by decide +kernel
theorem dX8_read_39 : decode cX8_read 39 = .ok (.aload_n 0, 1) := by decide +kernel
theorem dX8_read_40 : decode cX8_read 40 = .ok (.invokevirtual 253, 3) := by decide +kernel
theorem dX8_read_43 : decode cX8_read 43 = .ok (.iconst 0, 1) := by decide +kernel
theorem dX8_read_44 : decode cX8_read 44 = .ok (.istore 5, 2) := by decide +kernel
theorem dX8_read_46 : decode cX8_read 46 = .ok (.iconst 0, 1) := by decide +kernel
theorem dX8_read_47 : decode cX8_read 47 = .ok (.istore 6, 2) := by decide +kernel
theorem dX8_read_49 : decode cX8_read 49 = .ok (.iconst 0, 1) := by decide +kernel
theorem dX8_read_50 : decode cX8_read 50 = .ok (.istore 7, 2) := by decide +kernel
theorem dX8_read_52 : decode cX8_read 52 = .ok (.iload 7, 2) := by decide +kernel
theorem dX8_read_54 : decode cX8_read 54 = .ok (.iconst 5, 1) := by decide +kernel
theorem dX8_read_55 : decode cX8_read 55 = .ok (.iload 4, 2) := by decide +kernel
theorem dX8_read_57 : decode cX8_read 57 = .ok (.imul, 1) := by decide +kernel
theorem dX8_read_58 : decode cX8_read 58 = .ok (.if_icmp .ge 162, 3) := by decide +kernel
theorem dX8_read_61 : decode cX8_read 61 = .ok (.iload 5, 2) := by decide +kernel
theorem dX8_read_63 : decode cX8_read 63 = .ok (.ifCond .ne 157, 3) := by decide +kernel
theorem dX8_read_66 : decode cX8_read 66 = .ok (.iload_n 3, 1) := by decide +kernel
theorem dX8_read_67 : decode cX8_read 67 = .ok (.i2l, 1) := by decide +kernel
theorem dX8_read_68 : decode cX8_read 68 = .ok (.iload 7, 2) := by decide +kernel
theorem dX8_read_70 : decode cX8_read 70 = .ok (.i2l, 1) := by decide +kernel
theorem dX8_read_71 : decode cX8_read 71 = .ok (.ladd, 1) := by decide +kernel
theorem dX8_read_72 : decode cX8_read 72 = .ok (.lstore 8, 2) := by decide +kernel
theorem dX8_read_74 : decode cX8_read 74 = .ok (.aload_n 0, 1) := by decide +kernel
theorem dX8_read_75 : decode cX8_read 75 = .ok (.getfield 62, 3) := by decide +kernel
theorem dX8_read_78 : decode cX8_read 78 = .ok (.iload_n 1, 1) := by decide +kernel
theorem dX8_read_79 : decode cX8_read 79 = .ok (.iaload, 1) := by decide +kernel
theorem dX8_read_80 : decode cX8_read 80 = .ok (.bipush (-4), 2) := by decide +kernel
theorem dX8_read_82 : decode cX8_read 82 = .ok (.if_icmp .ne 7, 3) := by decide +kernel
theorem dX8_read_85 : decode cX8_read 85 = .ok (.iconst 1, 1) := by decide +kernel
theorem dX8_read_86 : decode cX8_read 86 = .ok (.goto 40, 3) := by decide +kernel
theorem dX8_read_89 : decode cX8_read 89 = .ok (.aload_n 0, 1) := by decide +kernel
theorem dX8_read_90 : decode cX8_read 90 = .ok (.getfield 62, 3) := by decide +kernel
theorem dX8_read_93 : decode cX8_read 93 = .ok (.iload_n 1, 1) := by decide +kernel
theorem dX8_read_94 : decode cX8_read 94 = .ok (.iaload, 1) := by decide +kernel
theorem dX8_read_95 : decode cX8_read 95 = .ok (.iload_n 2, 1) := by decide +kernel
theorem dX8_read_96 : decode cX8_read 96 = .ok (.if_icmp .eq 7, 3) := by decide +kernel
theorem dX8_read_99 : decode cX8_read 99 = .ok (.iconst 3, 1) := by decide +kernel
theorem dX8_read_100 : decode cX8_read 100 = .ok (.goto 26, 3) := by decide +kernel
theorem dX8_read_103 : decode cX8_read 103 = .ok (.lload 8, 2) := by decide +kernel
theorem dX8_read_105 : decode cX8_read 105 = .ok (.lconst 0, 1) := by decide +kernel
theorem dX8_read_106 : decode cX8_read 106 = .ok (.aload_n 0, 1) := by decide +kernel
theorem dX8_read_107 : decode cX8_read 107 = .ok (.getfield 65, 3) := by decide +kernel
theorem dX8_read_110 : decode cX8_read 110 = .ok (.iload_n 1, 1) := by decide +kernel
theorem dX8_read_111 : decode cX8_read 111 = .ok (.iaload, 1) := by decide +kernel
theorem dX8_read_112 : decode cX8_read 112 = .ok (.iconst 1, 1) := by decide +kernel
theorem dX8_read_113 : decode cX8_read 113 = .ok (.isub, 1) := by decide +kernel
theorem dX8_read_114 : decode cX8_read 114 = .ok (.i2l, 1) := by decide +kernel
theorem dX8_read_115 : decode cX8_read 115 = .ok (.invokestatic 73, 3) := by decide +kernel
theorem dX8_read_118 : decode cX8_read 118 = .ok (.ifCond .ne 7, 3) := by decide +kernel
theorem dX8_read_121 : decode cX8_read 121 = .ok (.iconst 2, 1) := by decide +kernel
theorem dX8_read_122 : decode cX8_read 122 = .ok (.goto 4, 3) := by decide +kernel
theorem dX8_read_125 : decode cX8_read 125 = .ok (.iconst 0, 1) := by decide +kernel
theorem dX8_read_126 : decode cX8_read 126 = .ok (.istore 5, 2) := by decide +kernel
theorem dX8_read_128 : decode cX8_read 128 = .ok (.iload 5, 2) := by decide +kernel
theorem dX8_read_130 : decode cX8_read 130 = .ok (.ifCond .ne 84, 3) := by decide +kernel
theorem dX8_read_133 : decode cX8_read 133 = .ok (.iload 7, 2) := by decide +kernel
theorem dX8_read_135 : decode cX8_read 135 = .ok (.iconst 5, 1) := by decide +kernel
theorem dX8_read_136 : decode cX8_read 136 = .ok (.irem, 1) := by decide +kernel
theorem dX8_read_137 : decode cX8_read 137 = .ok (.iconst 4, 1) := by decide +kernel
theorem dX8_read_138 : decode cX8_read 138 = .ok (.if_icmp .ne 76, 3) := by decide +kernel
theorem dX8_read_141 : decode cX8_read 141 = .ok (.bipush 40, 2) := by decide +kernel
theorem dX8_read_143 : decode cX8_read 143 = .ok (.iload_n 1, 1) := by decide +kernel
theorem dX8_read_144 : decode cX8_read 144 = .ok (.imul, 1) := by decide +kernel
theorem dX8_read_145 : decode cX8_read 145 = .ok (.lload 8, 2) := by decide +kernel
theorem dX8_read_147 : decode cX8_read 147 = .ok (.l2i, 1) := by decide +kernel
theorem dX8_read_148 : decode cX8_read 148 = .ok (.iadd, 1) := by decide +kernel
theorem dX8_read_149 : decode cX8_read 149 = .ok (.istore 10, 2) := by decide +kernel
theorem dX8_read_151 : decode cX8_read 151 = .ok (.aload_n 0, 1) := by decide +kernel
theorem dX8_read_152 : decode cX8_read 152 = .ok (.aload_n 0, 1) := by decide +kernel
theorem dX8_read_153 : decode cX8_read 153 = .ok (.getfield 68, 3) := by decide +kernel
theorem dX8_read_156 : decode cX8_read 156 = .ok (.iload 10, 2) := by decide +kernel
theorem dX8_read_158 : decode cX8_read 158 = .ok (.iconst 4, 1) := by decide +kernel
theorem dX8_read_159 : decode cX8_read 159 = .ok (.isub, 1) := by decide +kernel
theorem dX8_read_160 : decode cX8_read 160 = .ok (.iaload, 1) := by decide +kernel
theorem dX8_read_161 : decode cX8_read 161 = .ok (.aload_n 0, 1) := by decide +kernel
theorem dX8_read_162 : decode cX8_read 162 = .ok (.getfield 68, 3) := by decide +kernel
theorem dX8_read_165 : decode cX8_read 165 = .ok (.iload 10, 2) := by decide +kernel
theorem dX8_read_167 : decode cX8_read 167 = .ok (.iconst 3, 1) := by decide +kernel
theorem dX8_read_168 : decode cX8_read 168 = .ok (.isub, 1) := by decide +kernel
theorem dX8_read_169 : decode cX8_read 169 = .ok (.iaload, 1) := by decide +kernel
theorem dX8_read_170 : decode cX8_read 170 = .ok (.aload_n 0, 1) := by decide +kernel
theorem dX8_read_171 : decode cX8_read 171 = .ok (.getfield 68, 3) := by decide +kernel
theorem dX8_read_174 : decode cX8_read 174 = .ok (.iload 10, 2) := by decide +kernel
theorem dX8_read_176 : decode cX8_read 176 = .ok (.iconst 2, 1) := by decide +kernel
theorem dX8_read_177 : decode cX8_read 177 = .ok (.isub, 1) := by decide +kernel
theorem dX8_read_178 : decode cX8_read 178 = .ok (.iaload, 1) := by decide +kernel
theorem dX8_read_179 : decode cX8_read 179 = .ok (.aload_n 0, 1) := by decide +kernel
theorem dX8_read_180 : decode cX8_read 180 = .ok (.getfield 68, 3) := by decide +kernel
theorem dX8_read_183 : decode cX8_read 183 = .ok (.iload 10, 2) := by decide +kernel
theorem dX8_read_185 : decode cX8_read 185 = .ok (.iconst 1, 1) := by decide +kernel
theorem dX8_read_186 : decode cX8_read 186 = .ok (.isub, 1) := by decide +kernel
theorem dX8_read_187 : decode cX8_read 187 = .ok (.iaload, 1) := by decide +kernel
theorem dX8_read_188 : decode cX8_read 188 = .ok (.aload_n 0, 1) := by decide +kernel
theorem dX8_read_189 : decode cX8_read 189 = .ok (.getfield 68, 3) := by decide +kernel
theorem dX8_read_192 : decode cX8_read 192 = .ok (.iload 10, 2) := by decide +kernel
theorem dX8_read_194 : decode cX8_read 194 = .ok (.iaload, 1) := by decide +kernel
theorem dX8_read_195 : decode cX8_read 195 = .ok (.invokevirtual 236, 3) := by decide +kernel
theorem dX8_read_198 : decode cX8_read 198 = .ok (.ifCond .ge 13, 3) := by decide +kernel
theorem dX8_read_201 : decode cX8_read 201 = .ok (.aload_n 0, 1) := by decide +kernel
theorem dX8_read_202 : decode cX8_read 202 = .ok (.invokevirtual 256, 3) := by decide +kernel
theorem dX8_read_205 : decode cX8_read 205 = .ok (.bipush (-20), 2) := by decide +kernel
theorem dX8_read_207 : decode cX8_read 207 = .ok (.iload 6, 2) := by decide +kernel
theorem dX8_read_209 : decode cX8_read 209 = .ok (.isub, 1) := by decide +kernel
theorem dX8_read_210 : decode cX8_read 210 = .ok (.ireturn, 1) := by decide +kernel
theorem dX8_read_211 : decode cX8_read 211 = .ok (.iinc 6 1, 3) := by decide +kernel
theorem dX8_read_214 : decode cX8_read 214 = .ok (.iinc 7 1, 3) := by decide +kernel
theorem dX8_read_217 : decode cX8_read 217 = .ok (.goto (-165), 3) := by decide +kernel
theorem dX8_read_220 : decode cX8_read 220 = .ok (.aload_n 0, 1) := by decide +kernel
theorem dX8_read_221 : decode cX8_read 221 = .ok (.iload 5, 2) := by decide +kernel
theorem dX8_read_223 : decode cX8_read 223 = .ok (.putfield 259, 3) := by decide +kernel
theorem dX8_read_226 : decode cX8_read 226 = .ok (.iload 6, 2) := by decide +kernel
theorem dX8_read_228 : decode cX8_read 228 = .ok (.ireturn, 1) := by decide +kernel
theorem dX8_torn_0 : decode cX8_torn 0 = .ok (.aload_n 0, 1) := by decide +kernel
theorem dX8_torn_1 : decode cX8_torn 1 = .ok (.getfield 259, 3) := by decide +kernel
theorem dX8_torn_4 : decode cX8_torn 4 = .ok (.ireturn, 1) := by decide +kernel
theorem dX8_count_0 : decode cX8_count 0 = .ok (.aload_n 0, 1) := by decide +kernel
theorem dX8_count_1 : decode cX8_count 1 = .ok (.invokevirtual 183, 3) := by decide +kernel
theorem dX8_count_4 : decode cX8_count 4 = .ok (.iconst 0, 1) := by decide +kernel
theorem dX8_count_5 : decode cX8_count 5 = .ok (.istore_n 2, 1) := by decide +kernel
theorem dX8_count_6 : decode cX8_count 6 = .ok (.iconst 0, 1) := by decide +kernel
theorem dX8_count_7 : decode cX8_count 7 = .ok (.istore_n 3, 1) := by decide +kernel
theorem dX8_count_8 : decode cX8_count 8 = .ok (.iconst 0, 1) := by decide +kernel
theorem dX8_count_9 : decode cX8_count 9 = .ok (.istore 4, 2) := by decide +kernel
theorem dX8_count_11 : decode cX8_count 11 = .ok (.iload 4, 2) := by decide +kernel
theorem dX8_count_13 : decode cX8_count 13 = .ok (.bipush 30, 2) := by decide +kernel
theorem dX8_count_15 : decode cX8_count 15 = .ok (.if_icmp .ge 51, 3) := by decide +kernel
theorem dX8_count_18 : decode cX8_count 18 = .ok (.iload_n 2, 1) := by decide +kernel
theorem dX8_count_19 : decode cX8_count 19 = .ok (.aload_n 0, 1) := by decide +kernel
theorem dX8_count_20 : decode cX8_count 20 = .ok (.getfield 7, 3) := by decide +kernel
theorem dX8_count_23 : decode cX8_count 23 = .ok (.iload 4, 2) := by decide +kernel
theorem dX8_count_25 : decode cX8_count 25 = .ok (.iaload, 1) := by decide +kernel
theorem dX8_count_26 : decode cX8_count 26 = .ok (.bipush 6, 2) := by decide +kernel
theorem dX8_count_28 : decode cX8_count 28 = .ok (.if_icmp .eq 15, 3) := by decide +kernel
theorem dX8_count_31 : decode cX8_count 31 = .ok (.aload_n 0, 1) := by decide +kernel
theorem dX8_count_32 : decode cX8_count 32 = .ok (.getfield 7, 3) := by decide +kernel
theorem dX8_count_35 : decode cX8_count 35 = .ok (.iload 4, 2) := by decide +kernel
theorem dX8_count_37 : decode cX8_count 37 = .ok (.iaload, 1) := by decide +kernel
theorem dX8_count_38 : decode cX8_count 38 = .ok (.bipush 7, 2) := by decide +kernel
theorem dX8_count_40 : decode cX8_count 40 = .ok (.if_icmp .ne 7, 3) := by decide +kernel
theorem dX8_count_43 : decode cX8_count 43 = .ok (.iconst 1, 1) := by decide +kernel
theorem dX8_count_44 : decode cX8_count 44 = .ok (.goto 4, 3) := by decide +kernel
theorem dX8_count_47 : decode cX8_count 47 = .ok (.iconst 0, 1) := by decide +kernel
theorem dX8_count_48 : decode cX8_count 48 = .ok (.iadd, 1) := by decide +kernel
theorem dX8_count_49 : decode cX8_count 49 = .ok (.istore_n 2, 1) := by decide +kernel
theorem dX8_count_50 : decode cX8_count 50 = .ok (.iload_n 3, 1) := by decide +kernel
theorem dX8_count_51 : decode cX8_count 51 = .ok (.aload_n 0, 1) := by decide +kernel
theorem dX8_count_52 : decode cX8_count 52 = .ok (.getfield 22, 3) := by decide +kernel
theorem dX8_count_55 : decode cX8_count 55 = .ok (.iload 4, 2) := by decide +kernel
theorem dX8_count_57 : decode cX8_count 57 = .ok (.iaload, 1) := by decide +kernel
theorem dX8_count_58 : decode cX8_count 58 = .ok (.iadd, 1) := by decide +kernel
theorem dX8_count_59 : decode cX8_count 59 = .ok (.istore_n 3, 1) := by decide +kernel
theorem dX8_count_60 : decode cX8_count 60 = .ok (.iinc 4 1, 3) := by decide +kernel
theorem dX8_count_63 : decode cX8_count 63 = .ok (.goto (-52), 3) := by decide +kernel
theorem dX8_count_66 : decode cX8_count 66 = .ok (.iload_n 1, 1) := by decide +kernel
theorem dX8_count_67 : decode cX8_count 67 = .ok (.tableswitch 95 0 4 #[33, 63, 68, 91, 93], 33) := by decide +kernel
theorem dX8_count_100 : decode cX8_count 100 = .ok (.aload_n 0, 1) := by decide +kernel
theorem dX8_count_101 : decode cX8_count 101 = .ok (.getfield 59, 3) := by decide +kernel
theorem dX8_count_104 : decode cX8_count 104 = .ok (.iconst 0, 1) := by decide +kernel
theorem dX8_count_105 : decode cX8_count 105 = .ok (.baload, 1) := by decide +kernel
theorem dX8_count_106 : decode cX8_count 106 = .ok (.ifCond .eq 7, 3) := by decide +kernel
theorem dX8_count_109 : decode cX8_count 109 = .ok (.iconst 1, 1) := by decide +kernel
theorem dX8_count_110 : decode cX8_count 110 = .ok (.goto 4, 3) := by decide +kernel
theorem dX8_count_113 : decode cX8_count 113 = .ok (.iconst 0, 1) := by decide +kernel
theorem dX8_count_114 : decode cX8_count 114 = .ok (.aload_n 0, 1) := by decide +kernel
theorem dX8_count_115 : decode cX8_count 115 = .ok (.getfield 59, 3) := by decide +kernel
theorem dX8_count_118 : decode cX8_count 118 = .ok (.iconst 1, 1) := by decide +kernel
theorem dX8_count_119 : decode cX8_count 119 = .ok (.baload, 1) := by decide +kernel
theorem dX8_count_120 : decode cX8_count 120 = .ok (.ifCond .eq 7, 3) := by decide +kernel
theorem dX8_count_123 : decode cX8_count 123 = .ok (.iconst 1, 1) := by decide +kernel
theorem dX8_count_124 : decode cX8_count 124 = .ok (.goto 4, 3) := by decide +kernel
theorem dX8_count_127 : decode cX8_count 127 = .ok (.iconst 0, 1) := by decide +kernel
theorem dX8_count_128 : decode cX8_count 128 = .ok (.iadd, 1) := by decide +kernel
theorem dX8_count_129 : decode cX8_count 129 = .ok (.ireturn, 1) := by decide +kernel
theorem dX8_count_130 : decode cX8_count 130 = .ok (.aload_n 0, 1) := by decide +kernel
theorem dX8_count_131 : decode cX8_count 131 = .ok (.getfield 77, 3) := by decide +kernel
theorem dX8_count_134 : decode cX8_count 134 = .ok (.ireturn, 1) := by decide +kernel
theorem dX8_count_135 : decode cX8_count 135 = .ok (.aload_n 0, 1) := by decide +kernel
theorem dX8_count_136 : decode cX8_count 136 = .ok (.getfield 62, 3) := by decide +kernel
theorem dX8_count_139 : decode cX8_count 139 = .ok (.iconst 0, 1) := by decide +kernel
theorem dX8_count_140 : decode cX8_count 140 = .ok (.iaload, 1) := by decide +kernel
theorem dX8_count_141 : decode cX8_count 141 = .ok (.bipush (-4), 2) := by decide +kernel
theorem dX8_count_143 : decode cX8_count 143 = .ok (.if_icmp .ne 8, 3) := by decide +kernel
theorem dX8_count_146 : decode cX8_count 146 = .ok (.bipush (-4), 2) := by decide +kernel
theorem dX8_count_148 : decode cX8_count 148 = .ok (.goto 9, 3) := by decide +kernel
theorem dX8_count_151 : decode cX8_count 151 = .ok (.aload_n 0, 1) := by decide +kernel
theorem dX8_count_152 : decode cX8_count 152 = .ok (.getfield 65, 3) := by decide +kernel
theorem dX8_count_155 : decode cX8_count 155 = .ok (.iconst 0, 1) := by decide +kernel
theorem dX8_count_156 : decode cX8_count 156 = .ok (.iaload, 1) := by decide +kernel
theorem dX8_count_157 : decode cX8_count 157 = .ok (.ireturn, 1) := by decide +kernel
theorem dX8_count_158 : decode cX8_count 158 = .ok (.iload_n 2, 1) := by decide +kernel
theorem dX8_count_159 : decode cX8_count 159 = .ok (.ireturn, 1) := by decide +kernel
theorem dX8_count_160 : decode cX8_count 160 = .ok (.iload_n 3, 1) := by decide +kernel
theorem dX8_count_161 : decode cX8_count 161 = .ok (.ireturn, 1) := by decide +kernel
theorem dX8_count_162 : decode cX8_count 162 = .ok (.iconst (-1), 1) := by decide +kernel
theorem dX8_count_163 : decode cX8_count 163 = .ok (.ireturn, 1) := by decide +kernel
