theorem dX7_init_0 : decode cX7_init 0 = .ok (.aload_n 0, 1) := by decide +kernel
theorem dX7_init_1 : decode cX7_init 1 = .ok (.invokespecial 1, 3) := by decide +kernel
theorem dX7_init_4 : decode cX7_init 4 = .ok (.aload_n 0, 1) := by decide +kernel
theorem dX7_init_5 : decode cX7_init 5 = .ok (.new 7, 3) := by decide +kernel
theorem dX7_init_8 : decode cX7_init 8 = .ok (.dup, 1) := by decide +kernel
theorem dX7_init_9 : decode cX7_init 9 = .ok (.invokespecial 9, 3) := by decide +kernel
theorem dX7_init_12 : decode cX7_init 12 = .ok (.putfield 10, 3) := by decide +kernel
theorem dX7_init_15 : decode cX7_init 15 = .ok (.aload_n 0, 1) := by decide +kernel
theorem dX7_init_16 : decode cX7_init 16 = .ok (.new 16, 3) := by decide +kernel
theorem dX7_init_19 : decode cX7_init 19 = .ok (.dup, 1) := by decide +kernel
theorem dX7_init_20 : decode cX7_init 20 = .ok (.invokespecial 18, 3) := by decide +kernel
theorem dX7_init_23 : decode cX7_init 23 = .ok (.putfield 19, 3) := by decide +kernel
theorem dX7_init_26 : decode cX7_init 26 = .ok (.aload_n 0, 1) := by decide +kernel
theorem dX7_init_27 : decode cX7_init 27 = .ok (.new 23, 3) := by decide +kernel
theorem dX7_init_30 : decode cX7_init 30 = .ok (.dup, 1) := by decide +kernel
theorem dX7_init_31 : decode cX7_init 31 = .ok (.invokespecial 25, 3) := by decide +kernel
theorem dX7_init_34 : decode cX7_init 34 = .ok (.putfield 26, 3) := by decide +kernel
theorem dX7_init_37 : decode cX7_init 37 = .ok (.aload_n 0, 1) := by decide +kernel
theorem dX7_init_38 : decode cX7_init 38 = .ok (.new 30, 3) := by decide +kernel
theorem dX7_init_41 : decode cX7_init 41 = .ok (.dup, 1) := by decide +kernel
theorem dX7_init_42 : decode cX7_init 42 = .ok (.invokespecial 32, 3) := by decide +kernel
theorem dX7_init_45 : decode cX7_init 45 = .ok (.putfield 33, 3) := by decide +kernel
theorem dX7_init_48 : decode cX7_init 48 = .ok (.aload_n 0, 1) := by decide +kernel
theorem dX7_init_49 : decode cX7_init 49 = .ok (.new 30, 3) := by decide +kernel
theorem dX7_init_52 : decode cX7_init 52 = .ok (.dup, 1) := by decide +kernel
theorem dX7_init_53 : decode cX7_init 53 = .ok (.invokespecial 32, 3) := by decide +kernel
theorem dX7_init_56 : decode cX7_init 56 = .ok (.putfield 37, 3) := by decide +kernel
theorem dX7_init_59 : decode cX7_init 59 = .ok (.aload_n 0, 1) := by decide +kernel
theorem dX7_init_60 : decode cX7_init 60 = .ok (.new 40, 3) := by decide +kernel
theorem dX7_init_63 : decode cX7_init 63 = .ok (.dup, 1) := by decide +kernel
theorem dX7_init_64 : decode cX7_init 64 = .ok (.invokespecial 42, 3) := by decide +kernel
theorem dX7_init_67 : decode cX7_init 67 = .ok (.putfield 43, 3) := by decide +kernel
theorem dX7_init_70 : decode cX7_init 70 = .ok (.aload_n 0, 1) := by decide +kernel
theorem dX7_init_71 : decode cX7_init 71 = .ok (.new 40, 3) := by decide +kernel
theorem dX7_init_74 : decode cX7_init 74 = .ok (.dup, 1) := by decide +kernel
theorem dX7_init_75 : decode cX7_init 75 = .ok (.invokespecial 42, 3) := by decide +kernel
theorem dX7_init_78 : decode cX7_init 78 = .ok (.putfield 47, 3) := by decide +kernel
theorem dX7_init_81 : decode cX7_init 81 = .ok (.aload_n 0, 1) := by decide +kernel
theorem dX7_init_82 : decode cX7_init 82 = .ok (.new 50, 3) := by decide +kernel
theorem dX7_init_85 : decode cX7_init 85 = .ok (.dup, 1) := by decide +kernel
theorem dX7_init_86 : decode cX7_init 86 = .ok (.invokespecial 52, 3) := by decide +kernel
theorem dX7_init_89 : decode cX7_init 89 = .ok (.putfield 53, 3) := by decide +kernel
theorem dX7_init_92 : decode cX7_init 92 = .ok (.aload_n 0, 1) := by decide +kernel
theorem dX7_init_93 : decode cX7_init 93 = .ok (.iconst 2, 1) := by decide +kernel
theorem dX7_init_94 : decode cX7_init 94 = .ok (.anewarray 23, 3) := by decide +kernel
theorem dX7_init_97 : decode cX7_init 97 = .ok (.putfield 57, 3) := by decide +kernel
theorem dX7_init_100 : decode cX7_init 100 = .ok (.aload_n 0, 1) := by decide +kernel
theorem dX7_init_101 : decode cX7_init 101 = .ok (.iconst 2, 1) := by decide +kernel
theorem dX7_init_102 : decode cX7_init 102 = .ok (.newarray .boolean, 2) := by decide +kernel
theorem dX7_init_104 : decode cX7_init 104 = .ok (.putfield 61, 3) := by decide +kernel
theorem dX7_init_107 : decode cX7_init 107 = .ok (.aload_n 0, 1) := by decide +kernel
theorem dX7_init_108 : decode cX7_init 108 = .ok (.iconst 4, 1) := by decide +kernel
theorem dX7_init_109 : decode cX7_init 109 = .ok (.anewarray 65, 3) := by decide +kernel
theorem dX7_init_112 : decode cX7_init 112 = .ok (.putfield 67, 3) := by decide +kernel
theorem dX7_init_115 : decode cX7_init 115 = .ok (.iconst 0, 1) := by decide +kernel
theorem dX7_init_116 : decode cX7_init 116 = .ok (.istore_n 1, 1) := by decide +kernel
theorem dX7_init_117 : decode cX7_init 117 = .ok (.iload_n 1, 1) := by decide +kernel
theorem dX7_init_118 : decode cX7_init 118 = .ok (.iconst 2, 1) := by decide +kernel
theorem dX7_init_119 : decode cX7_init 119 = .ok (.if_icmp .ge 22, 3) := by decide +kernel
theorem dX7_init_122 : decode cX7_init 122 = .ok (.aload_n 0, 1) := by decide +kernel
theorem dX7_init_123 : decode cX7_init 123 = .ok (.getfield 57, 3) := by decide +kernel
theorem dX7_init_126 : decode cX7_init 126 = .ok (.iload_n 1, 1) := by decide +kernel
theorem dX7_init_127 : decode cX7_init 127 = .ok (.new 23, 3) := by decide +kernel
theorem dX7_init_130 : decode cX7_init 130 = .ok (.dup, 1) := by decide +kernel
theorem dX7_init_131 : decode cX7_init 131 = .ok (.invokespecial 25, 3) := by decide +kernel
theorem dX7_init_134 : decode cX7_init 134 = .ok (.aastore, 1) := by decide +kernel
theorem dX7_init_135 : decode cX7_init 135 = .ok (.iinc 1 1, 3) := by decide +kernel
theorem dX7_init_138 : decode cX7_init 138 = .ok (.goto (-21), 3) := by decide +kernel
theorem dX7_init_141 : decode cX7_init 141 = .ok (.iconst 0, 1) := by decide +kernel
theorem dX7_init_142 : decode cX7_init 142 = .ok (.istore_n 1, 1) := by decide +kernel
theorem dX7_init_143 : decode cX7_init 143 = .ok (.iload_n 1, 1) := by decide +kernel
theorem dX7_init_144 : decode cX7_init 144 = .ok (.iconst 4, 1) := by decide +kernel
theorem dX7_init_145 : decode cX7_init 145 = .ok (.if_icmp .ge 22, 3) := by decide +kernel
theorem dX7_init_148 : decode cX7_init 148 = .ok (.aload_n 0, 1) := by decide +kernel
theorem dX7_init_149 : decode cX7_init 149 = .ok (.getfield 67, 3) := by decide +kernel
theorem dX7_init_152 : decode cX7_init 152 = .ok (.iload_n 1, 1) := by decide +kernel
theorem dX7_init_153 : decode cX7_init 153 = .ok (.new 65, 3) := by decide +kernel
theorem dX7_init_156 : decode cX7_init 156 = .ok (.dup, 1) := by decide +kernel
theorem dX7_init_157 : decode cX7_init 157 = .ok (.invokespecial 71, 3) := by decide +kernel
theorem dX7_init_160 : decode cX7_init 160 = .ok (.aastore, 1) := by decide +kernel
theorem dX7_init_161 : decode cX7_init 161 = .ok (.iinc 1 1, 3) := by decide +kernel
theorem dX7_init_164 : decode cX7_init 164 = .ok (.goto (-21), 3) := by decide +kernel
theorem dX7_init_167 : decode cX7_init 167 = .ok (.aload_n 0, 1) := by decide +kernel
theorem dX7_init_168 : decode cX7_init 168 = .ok (.getfield 33, 3) := by decide +kernel
theorem dX7_init_171 : decode cX7_init 171 = .ok (.aload_n 0, 1) := by decide +kernel
theorem dX7_init_172 : decode cX7_init 172 = .ok (.getfield 26, 3) := by decide +kernel
theorem dX7_init_175 : decode cX7_init 175 = .ok (.invokevirtual 72, 3) := by decide +kernel
theorem dX7_init_178 : decode cX7_init 178 = .ok (.return_, 1) := by decide +kernel
theorem dX7_feed_0 : decode cX7_feed 0 = .ok (.iload_n 1, 1) := by decide +kernel
theorem dX7_feed_1 : decode cX7_feed 1 = .ok (.ifCond .lt 9, 3) := by decide +kernel
theorem dX7_feed_4 : decode cX7_feed 4 = .ok (.iload_n 1, 1) := by decide +kernel
theorem dX7_feed_5 : decode cX7_feed 5 = .ok (.bipush 127, 2) := by decide +kernel
theorem dX7_feed_7 : decode cX7_feed 7 = .ok (.if_icmp .le 5, 3) := by decide +kernel
theorem dX7_feed_10 : decode cX7_feed 10 = .ok (.iconst (-1), 1) := by decide +kernel
theorem dX7_feed_11 : decode cX7_feed 11 = .ok (.ireturn, 1) := by decide +kernel
theorem dX7_feed_12 : decode cX7_feed 12 = .ok (.aload_n 0, 1) := by decide +kernel
theorem dX7_feed_13 : decode cX7_feed 13 = .ok (.getfield 10, 3) := by decide +kernel
theorem dX7_feed_16 : decode cX7_feed 16 = .ok (.getfield 76, 3) := by decide +kernel
theorem dX7_feed_19 : decode cX7_feed 19 = .ok (.sipush 320, 3) := by decide +kernel
theorem dX7_feed_22 : decode cX7_feed 22 = .ok (.if_icmp .lt 6, 3) := by decide +kernel
theorem dX7_feed_25 : decode cX7_feed 25 = .ok (.bipush (-3), 2) := by decide +kernel
theorem dX7_feed_27 : decode cX7_feed 27 = .ok (.ireturn, 1) := by decide +kernel
theorem dX7_feed_28 : decode cX7_feed 28 = .ok (.aload_n 0, 1) := by decide +kernel
theorem dX7_feed_29 : decode cX7_feed 29 = .ok (.getfield 10, 3) := by decide +kernel
theorem dX7_feed_32 : decode cX7_feed 32 = .ok (.iload_n 1, 1) := by decide +kernel
theorem dX7_feed_33 : decode cX7_feed 33 = .ok (.invokevirtual 80, 3) := by decide +kernel
theorem dX7_feed_36 : decode cX7_feed 36 = .ok (.aload_n 0, 1) := by decide +kernel
theorem dX7_feed_37 : decode cX7_feed 37 = .ok (.getfield 10, 3) := by decide +kernel
theorem dX7_feed_40 : decode cX7_feed 40 = .ok (.getfield 76, 3) := by decide +kernel
theorem dX7_feed_43 : decode cX7_feed 43 = .ok (.ireturn, 1) := by decide +kernel
theorem dX7_end_0 : decode cX7_end 0 = .ok (.iload_n 1, 1) := by decide +kernel
theorem dX7_end_1 : decode cX7_end 1 = .ok (.ifCond .lt 14, 3) := by decide +kernel
theorem dX7_end_4 : decode cX7_end 4 = .ok (.iload_n 1, 1) := by decide +kernel
theorem dX7_end_5 : decode cX7_end 5 = .ok (.aload_n 0, 1) := by decide +kernel
theorem dX7_end_6 : decode cX7_end 6 = .ok (.getfield 10, 3) := by decide +kernel
theorem dX7_end_9 : decode cX7_end 9 = .ok (.getfield 76, 3) := by decide +kernel
theorem dX7_end_12 : decode cX7_end 12 = .ok (.if_icmp .le 5, 3) := by decide +kernel
theorem dX7_end_15 : decode cX7_end 15 = .ok (.iconst (-1), 1) := by decide +kernel
theorem dX7_end_16 : decode cX7_end 16 = .ok (.ireturn, 1) := by decide +kernel
theorem dX7_end_17 : decode cX7_end 17 = .ok (.aload_n 0, 1) := by decide +kernel
theorem dX7_end_18 : decode cX7_end 18 = .ok (.getfield 10, 3) := by decide +kernel
theorem dX7_end_21 : decode cX7_end 21 = .ok (.getfield 76, 3) := by decide +kernel
theorem dX7_end_24 : decode cX7_end 24 = .ok (.istore_n 2, 1) := by decide +kernel
theorem dX7_end_25 : decode cX7_end 25 = .ok (.aload_n 0, 1) := by decide +kernel
theorem dX7_end_26 : decode cX7_end 26 = .ok (.getfield 10, 3) := by decide +kernel
theorem dX7_end_29 : decode cX7_end 29 = .ok (.iload_n 1, 1) := by decide +kernel
theorem dX7_end_30 : decode cX7_end 30 = .ok (.putfield 76, 3) := by decide +kernel
theorem dX7_end_33 : decode cX7_end 33 = .ok (.iload_n 2, 1) := by decide +kernel
theorem dX7_end_34 : decode cX7_end 34 = .ok (.ireturn, 1) := by decide +kernel
theorem dX7_text_0 : decode cX7_text 0 = .ok (.aload_n 0, 1) := by decide +kernel
theorem dX7_text_1 : decode cX7_text 1 = .ok (.getfield 19, 3) := by decide +kernel
theorem dX7_text_4 : decode cX7_text 4 = .ok (.aload_n 0, 1) := by decide +kernel
theorem dX7_text_5 : decode cX7_text 5 = .ok (.getfield 10, 3) := by decide +kernel
theorem dX7_text_8 : decode cX7_text 8 = .ok (.invokevirtual 84, 3) := by decide +kernel
theorem dX7_text_11 : decode cX7_text 11 = .ok (.istore_n 1, 1) := by decide +kernel
theorem dX7_text_12 : decode cX7_text 12 = .ok (.aload_n 0, 1) := by decide +kernel
theorem dX7_text_13 : decode cX7_text 13 = .ok (.getfield 10, 3) := by decide +kernel
theorem dX7_text_16 : decode cX7_text 16 = .ok (.iconst 0, 1) := by decide +kernel
theorem dX7_text_17 : decode cX7_text 17 = .ok (.putfield 76, 3) := by decide +kernel
theorem dX7_text_20 : decode cX7_text 20 = .ok (.iload_n 1, 1) := by decide +kernel
theorem dX7_text_21 : decode cX7_text 21 = .ok (.ifCond .ne 14, 3) := by decide +kernel
theorem dX7_text_24 : decode cX7_text 24 = .ok (.bipush (-10), 2) := by decide +kernel
theorem dX7_text_26 : decode cX7_text 26 = .ok (.aload_n 0, 1) := by decide +kernel
theorem dX7_text_27 : decode cX7_text 27 = .ok (.getfield 10, 3) := by decide +kernel
theorem dX7_text_30 : decode cX7_text 30 = .ok (.getfield 88, 3) := by decide +kernel
theorem dX7_text_33 : decode cX7_text 33 = .ok (.isub, 1) := by decide +kernel
theorem dX7_text_34 : decode cX7_text 34 = .ok (.ireturn, 1) := by decide +kernel
theorem dX7_text_35 : decode cX7_text 35 = .ok (.iconst 0, 1) := by decide +kernel
theorem dX7_text_36 : decode cX7_text 36 = .ok (.istore_n 2, 1) := by decide +kernel
theorem dX7_text_37 : decode cX7_text 37 = .ok (.iload_n 2, 1) := by decide +kernel
theorem dX7_text_38 : decode cX7_text 38 = .ok (.iconst 2, 1) := by decide +kernel
theorem dX7_text_39 : decode cX7_text 39 = .ok (.if_icmp .ge 16, 3) := by decide +kernel
theorem dX7_text_42 : decode cX7_text 42 = .ok (.aload_n 0, 1) := by decide +kernel
theorem dX7_text_43 : decode cX7_text 43 = .ok (.getfield 61, 3) := by decide +kernel
theorem dX7_text_46 : decode cX7_text 46 = .ok (.iload_n 2, 1) := by decide +kernel
theorem dX7_text_47 : decode cX7_text 47 = .ok (.iconst 0, 1) := by decide +kernel
theorem dX7_text_48 : decode cX7_text 48 = .ok (.bastore, 1) := by decide +kernel
theorem dX7_text_49 : decode cX7_text 49 = .ok (.iinc 2 1, 3) := by decide +kernel
theorem dX7_text_52 : decode cX7_text 52 = .ok (.goto (-15), 3) := by decide +kernel
theorem dX7_text_55 : decode cX7_text 55 = .ok (.aload_n 0, 1) := by decide +kernel
theorem dX7_text_56 : decode cX7_text 56 = .ok (.aload_n 0, 1) := by decide +kernel
theorem dX7_text_57 : decode cX7_text 57 = .ok (.getfield 19, 3) := by decide +kernel
theorem dX7_text_60 : decode cX7_text 60 = .ok (.getfield 91, 3) := by decide +kernel
theorem dX7_text_63 : decode cX7_text 63 = .ok (.invokevirtual 94, 3) := by decide +kernel
theorem dX7_text_66 : decode cX7_text 66 = .ok (.aload_n 0, 1) := by decide +kernel
theorem dX7_text_67 : decode cX7_text 67 = .ok (.getfield 19, 3) := by decide +kernel
theorem dX7_text_70 : decode cX7_text 70 = .ok (.getfield 97, 3) := by decide +kernel
theorem dX7_text_73 : decode cX7_text 73 = .ok (.ireturn, 1) := by decide +kernel
theorem dX7_fault_0 : decode cX7_fault 0 = .ok (.aload_n 0, 1) := by decide +kernel
theorem dX7_fault_1 : decode cX7_fault 1 = .ok (.getfield 19, 3) := by decide +kernel
theorem dX7_fault_4 : decode cX7_fault 4 = .ok (.getfield 100, 3) := by decide +kernel
theorem dX7_fault_7 : decode cX7_fault 7 = .ok (.ireturn, 1) := by decide +kernel
theorem dX7_rule_0 : decode cX7_rule 0 = .ok (.iload_n 1, 1) := by decide +kernel
theorem dX7_rule_1 : decode cX7_rule 1 = .ok (.tableswitch 123 0 7 #[47, 55, 66, 80, 91, 99, 107, 115], 47) := by decide +kernel
theorem dX7_rule_48 : decode cX7_rule 48 = .ok (.aload_n 0, 1) := by decide +kernel
theorem dX7_rule_49 : decode cX7_rule 49 = .ok (.getfield 26, 3) := by decide +kernel
theorem dX7_rule_52 : decode cX7_rule 52 = .ok (.invokevirtual 103, 3) := by decide +kernel
theorem dX7_rule_55 : decode cX7_rule 55 = .ok (.ireturn, 1) := by decide +kernel
theorem dX7_rule_56 : decode cX7_rule 56 = .ok (.aload_n 0, 1) := by decide +kernel
theorem dX7_rule_57 : decode cX7_rule 57 = .ok (.getfield 33, 3) := by decide +kernel
theorem dX7_rule_60 : decode cX7_rule 60 = .ok (.getfield 107, 3) := by decide +kernel
theorem dX7_rule_63 : decode cX7_rule 63 = .ok (.invokestatic 110, 3) := by decide +kernel
theorem dX7_rule_66 : decode cX7_rule 66 = .ok (.ireturn, 1) := by decide +kernel
theorem dX7_rule_67 : decode cX7_rule 67 = .ok (.bipush 30, 2) := by decide +kernel
theorem dX7_rule_69 : decode cX7_rule 69 = .ok (.aload_n 0, 1) := by decide +kernel
theorem dX7_rule_70 : decode cX7_rule 70 = .ok (.getfield 33, 3) := by decide +kernel
theorem dX7_rule_73 : decode cX7_rule 73 = .ok (.getfield 107, 3) := by decide +kernel
theorem dX7_rule_76 : decode cX7_rule 76 = .ok (.invokestatic 110, 3) := by decide +kernel
theorem dX7_rule_79 : decode cX7_rule 79 = .ok (.isub, 1) := by decide +kernel
theorem dX7_rule_80 : decode cX7_rule 80 = .ok (.ireturn, 1) := by decide +kernel
theorem dX7_rule_81 : decode cX7_rule 81 = .ok (.aload_n 0, 1) := by decide +kernel
theorem dX7_rule_82 : decode cX7_rule 82 = .ok (.getfield 33, 3) := by decide +kernel
theorem dX7_rule_85 : decode cX7_rule 85 = .ok (.getfield 116, 3) := by decide +kernel
theorem dX7_rule_88 : decode cX7_rule 88 = .ok (.invokestatic 110, 3) := by decide +kernel
theorem dX7_rule_91 : decode cX7_rule 91 = .ok (.ireturn, 1) := by decide +kernel
theorem dX7_rule_92 : decode cX7_rule 92 = .ok (.aload_n 0, 1) := by decide +kernel
theorem dX7_rule_93 : decode cX7_rule 93 = .ok (.getfield 33, 3) := by decide +kernel
theorem dX7_rule_96 : decode cX7_rule 96 = .ok (.getfield 119, 3) := by decide +kernel
theorem dX7_rule_99 : decode cX7_rule 99 = .ok (.ireturn, 1) := by decide +kernel
theorem dX7_rule_100 : decode cX7_rule 100 = .ok (.aload_n 0, 1) := by decide +kernel
theorem dX7_rule_101 : decode cX7_rule 101 = .ok (.getfield 33, 3) := by decide +kernel
theorem dX7_rule_104 : decode cX7_rule 104 = .ok (.invokevirtual 122, 3) := by decide +kernel
theorem dX7_rule_107 : decode cX7_rule 107 = .ok (.ireturn, 1) := by decide +kernel
theorem dX7_rule_108 : decode cX7_rule 108 = .ok (.aload_n 0, 1) := by decide +kernel
theorem dX7_rule_109 : decode cX7_rule 109 = .ok (.getfield 33, 3) := by decide +kernel
theorem dX7_rule_112 : decode cX7_rule 112 = .ok (.invokevirtual 125, 3) := by decide +kernel
theorem dX7_rule_115 : decode cX7_rule 115 = .ok (.ireturn, 1) := by decide +kernel
theorem dX7_rule_116 : decode cX7_rule 116 = .ok (.aload_n 0, 1) := by decide +kernel
theorem dX7_rule_117 : decode cX7_rule 117 = .ok (.getfield 53, 3) := by decide +kernel
theorem dX7_rule_120 : decode cX7_rule 120 = .ok (.getfield 128, 3) := by decide +kernel
theorem dX7_rule_123 : decode cX7_rule 123 = .ok (.ireturn, 1) := by decide +kernel
theorem dX7_rule_124 : decode cX7_rule 124 = .ok (.iconst (-1), 1) := by decide +kernel
theorem dX7_rule_125 : decode cX7_rule 125 = .ok (.ireturn, 1) := by decide +kernel
theorem dX7_cell_0 : decode cX7_cell 0 = .ok (.iload_n 1, 1) := by decide +kernel
theorem dX7_cell_1 : decode cX7_cell 1 = .ok (.invokestatic 129, 3) := by decide +kernel
theorem dX7_cell_4 : decode cX7_cell 4 = .ok (.ifCond .ne 5, 3) := by decide +kernel
theorem dX7_cell_7 : decode cX7_cell 7 = .ok (.iconst (-1), 1) := by decide +kernel
theorem dX7_cell_8 : decode cX7_cell 8 = .ok (.ireturn, 1) := by decide +kernel
theorem dX7_cell_9 : decode cX7_cell 9 = .ok (.iload_n 2, 1) := by decide +kernel
theorem dX7_cell_10 : decode cX7_cell 10 = .ok (.tableswitch 136 0 8 #[50, 50, 50, 50, 60, 69, 98, 108, 121], 50) := by decide +kernel
theorem dX7_cell_60 : decode cX7_cell 60 = .ok (.aload_n 0, 1) := by decide +kernel
theorem dX7_cell_61 : decode cX7_cell 61 = .ok (.getfield 26, 3) := by decide +kernel
theorem dX7_cell_64 : decode cX7_cell 64 = .ok (.iload_n 1, 1) := by decide +kernel
theorem dX7_cell_65 : decode cX7_cell 65 = .ok (.iload_n 2, 1) := by decide +kernel
theorem dX7_cell_66 : decode cX7_cell 66 = .ok (.invokevirtual 133, 3) := by decide +kernel
theorem dX7_cell_69 : decode cX7_cell 69 = .ok (.ireturn, 1) := by decide +kernel
theorem dX7_cell_70 : decode cX7_cell 70 = .ok (.aload_n 0, 1) := by decide +kernel
theorem dX7_cell_71 : decode cX7_cell 71 = .ok (.getfield 33, 3) := by decide +kernel
theorem dX7_cell_74 : decode cX7_cell 74 = .ok (.iload_n 1, 1) := by decide +kernel
theorem dX7_cell_75 : decode cX7_cell 75 = .ok (.invokevirtual 137, 3) := by decide +kernel
theorem dX7_cell_78 : decode cX7_cell 78 = .ok (.ireturn, 1) := by decide +kernel
theorem dX7_cell_79 : decode cX7_cell 79 = .ok (.aload_n 0, 1) := by decide +kernel
theorem dX7_cell_80 : decode cX7_cell 80 = .ok (.getfield 33, 3) := by decide +kernel
theorem dX7_cell_83 : decode cX7_cell 83 = .ok (.getfield 107, 3) := by decide +kernel
theorem dX7_cell_86 : decode cX7_cell 86 = .ok (.iload_n 1, 1) := by decide +kernel
theorem dX7_cell_87 : decode cX7_cell 87 = .ok (.invokestatic 140, 3) := by decide +kernel
theorem dX7_cell_90 : decode cX7_cell 90 = .ok (.ifCond .eq 15, 3) := by decide +kernel
theorem dX7_cell_93 : decode cX7_cell 93 = .ok (.aload_n 0, 1) := by decide +kernel
theorem dX7_cell_94 : decode cX7_cell 94 = .ok (.getfield 33, 3) := by decide +kernel
theorem dX7_cell_97 : decode cX7_cell 97 = .ok (.getfield 144, 3) := by decide +kernel
theorem dX7_cell_100 : decode cX7_cell 100 = .ok (.iload_n 1, 1) := by decide +kernel
theorem dX7_cell_101 : decode cX7_cell 101 = .ok (.iaload, 1) := by decide +kernel
theorem dX7_cell_102 : decode cX7_cell 102 = .ok (.goto 5, 3) := by decide +kernel
theorem dX7_cell_105 : decode cX7_cell 105 = .ok (.bipush (-4), 2) := by decide +kernel
theorem dX7_cell_107 : decode cX7_cell 107 = .ok (.ireturn, 1) := by decide +kernel
theorem dX7_cell_108 : decode cX7_cell 108 = .ok (.aload_n 0, 1) := by decide +kernel
theorem dX7_cell_109 : decode cX7_cell 109 = .ok (.getfield 33, 3) := by decide +kernel
theorem dX7_cell_112 : decode cX7_cell 112 = .ok (.getfield 148, 3) := by decide +kernel
theorem dX7_cell_115 : decode cX7_cell 115 = .ok (.iload_n 1, 1) := by decide +kernel
theorem dX7_cell_116 : decode cX7_cell 116 = .ok (.iaload, 1) := by decide +kernel
theorem dX7_cell_117 : decode cX7_cell 117 = .ok (.ireturn, 1) := by decide +kernel
theorem dX7_cell_118 : decode cX7_cell 118 = .ok (.aload_n 0, 1) := by decide +kernel
theorem dX7_cell_119 : decode cX7_cell 119 = .ok (.getfield 33, 3) := by decide +kernel
theorem dX7_cell_122 : decode cX7_cell 122 = .ok (.getfield 151, 3) := by decide +kernel
theorem dX7_cell_125 : decode cX7_cell 125 = .ok (.iload_n 1, 1) := by decide +kernel
theorem dX7_cell_126 : decode cX7_cell 126 = .ok (.iaload, 1) := by decide +kernel
theorem dX7_cell_127 : decode cX7_cell 127 = .ok (.invokestatic 110, 3) := by decide +kernel
theorem dX7_cell_130 : decode cX7_cell 130 = .ok (.ireturn, 1) := by decide +kernel
theorem dX7_cell_131 : decode cX7_cell 131 = .ok (.aload_n 0, 1) := by decide +kernel
theorem dX7_cell_132 : decode cX7_cell 132 = .ok (.getfield 33, 3) := by decide +kernel
theorem dX7_cell_135 : decode cX7_cell 135 = .ok (.iload_n 1, 1) := by decide +kernel
theorem dX7_cell_136 : decode cX7_cell 136 = .ok (.invokestatic 154, 3) := by decide +kernel
theorem dX7_cell_139 : decode cX7_cell 139 = .ok (.invokevirtual 157, 3) := by decide +kernel
theorem dX7_cell_142 : decode cX7_cell 142 = .ok (.invokestatic 110, 3) := by decide +kernel
theorem dX7_cell_145 : decode cX7_cell 145 = .ok (.ireturn, 1) := by decide +kernel
theorem dX7_cell_146 : decode cX7_cell 146 = .ok (.iconst (-1), 1) := by decide +kernel
theorem dX7_cell_147 : decode cX7_cell 147 = .ok (.ireturn, 1) := by decide +kernel
theorem dX7_value_0 : decode cX7_value 0 = .ok (.iload_n 1, 1) := by decide +kernel
theorem dX7_value_1 : decode cX7_value 1 = .ok (.invokestatic 129, 3) := by decide +kernel
theorem dX7_value_4 : decode cX7_value 4 = .ok (.ifCond .eq 29, 3) := by decide +kernel
theorem dX7_value_7 : decode cX7_value 7 = .ok (.aload_n 0, 1) := by decide +kernel
theorem dX7_value_8 : decode cX7_value 8 = .ok (.getfield 33, 3) := by decide +kernel
theorem dX7_value_11 : decode cX7_value 11 = .ok (.getfield 107, 3) := by decide +kernel
theorem dX7_value_14 : decode cX7_value 14 = .ok (.iload_n 1, 1) := by decide +kernel
theorem dX7_value_15 : decode cX7_value 15 = .ok (.invokestatic 140, 3) := by decide +kernel
theorem dX7_value_18 : decode cX7_value 18 = .ok (.ifCond .eq 15, 3) := by decide +kernel
theorem dX7_value_21 : decode cX7_value 21 = .ok (.aload_n 0, 1) := by decide +kernel
theorem dX7_value_22 : decode cX7_value 22 = .ok (.getfield 33, 3) := by decide +kernel
theorem dX7_value_25 : decode cX7_value 25 = .ok (.getfield 160, 3) := by decide +kernel
theorem dX7_value_28 : decode cX7_value 28 = .ok (.iload_n 1, 1) := by decide +kernel
theorem dX7_value_29 : decode cX7_value 29 = .ok (.iaload, 1) := by decide +kernel
theorem dX7_value_30 : decode cX7_value 30 = .ok (.goto 4, 3) := by decide +kernel
theorem dX7_value_33 : decode cX7_value 33 = .ok (.iconst 0, 1) := by decide +kernel
theorem dX7_value_34 : decode cX7_value 34 = .ok (.ireturn, 1) := by decide +kernel
theorem dX7_reads_0 : decode cX7_reads 0 = .ok (.iload_n 1, 1) := by decide +kernel
theorem dX7_reads_1 : decode cX7_reads 1 = .ok (.invokestatic 129, 3) := by decide +kernel
theorem dX7_reads_4 : decode cX7_reads 4 = .ok (.ifCond .eq 7, 3) := by decide +kernel
theorem dX7_reads_7 : decode cX7_reads 7 = .ok (.iload_n 2, 1) := by decide +kernel
theorem dX7_reads_8 : decode cX7_reads 8 = .ok (.ifCond .ge 5, 3) := by decide +kernel
theorem dX7_reads_11 : decode cX7_reads 11 = .ok (.iconst (-1), 1) := by decide +kernel
theorem dX7_reads_12 : decode cX7_reads 12 = .ok (.ireturn, 1) := by decide +kernel
theorem dX7_reads_13 : decode cX7_reads 13 = .ok (.aload_n 0, 1) := by decide +kernel
theorem dX7_reads_14 : decode cX7_reads 14 = .ok (.getfield 33, 3) := by decide +kernel
theorem dX7_reads_17 : decode cX7_reads 17 = .ok (.getfield 151, 3) := by decide +kernel
theorem dX7_reads_20 : decode cX7_reads 20 = .ok (.iload_n 1, 1) := by decide +kernel
theorem dX7_reads_21 : decode cX7_reads 21 = .ok (.iaload, 1) := by decide +kernel
theorem dX7_reads_22 : decode cX7_reads 22 = .ok (.istore_n 3, 1) := by decide +kernel
theorem dX7_reads_23 : decode cX7_reads 23 = .ok (.iload_n 3, 1) := by decide +kernel
theorem dX7_reads_24 : decode cX7_reads 24 = .ok (.ifCond .ne 6, 3) := by decide +kernel
theorem dX7_reads_27 : decode cX7_reads 27 = .ok (.bipush (-4), 2) := by decide +kernel
theorem dX7_reads_29 : decode cX7_reads 29 = .ok (.ireturn, 1) := by decide +kernel
theorem dX7_reads_30 : decode cX7_reads 30 = .ok (.aload_n 0, 1) := by decide +kernel
theorem dX7_reads_31 : decode cX7_reads 31 = .ok (.getfield 26, 3) := by decide +kernel
theorem dX7_reads_34 : decode cX7_reads 34 = .ok (.iload_n 1, 1) := by decide +kernel
theorem dX7_reads_35 : decode cX7_reads 35 = .ok (.iconst 1, 1) := by decide +kernel
theorem dX7_reads_36 : decode cX7_reads 36 = .ok (.invokevirtual 133, 3) := by decide +kernel
theorem dX7_reads_39 : decode cX7_reads 39 = .ok (.istore 4, 2) := by decide +kernel
theorem dX7_reads_41 : decode cX7_reads 41 = .ok (.iload_n 2, 1) := by decide +kernel
theorem dX7_reads_42 : decode cX7_reads 42 = .ok (.ifCond .ne 8, 3) := by decide +kernel
theorem dX7_reads_45 : decode cX7_reads 45 = .ok (.iload 4, 2) := by decide +kernel
theorem dX7_reads_47 : decode cX7_reads 47 = .ok (.goto 18, 3) := by decide +kernel
theorem dX7_reads_50 : decode cX7_reads 50 = .ok (.iload_n 3, 1) := by decide +kernel
theorem dX7_reads_51 : decode cX7_reads 51 = .ok (.iload 4, 2) := by decide +kernel
theorem dX7_reads_53 : decode cX7_reads 53 = .ok (.invokestatic 154, 3) := by decide +kernel
theorem dX7_reads_56 : decode cX7_reads 56 = .ok (.iconst (-1), 1) := by decide +kernel
theorem dX7_reads_57 : decode cX7_reads 57 = .ok (.ixor, 1) := by decide +kernel
theorem dX7_reads_58 : decode cX7_reads 58 = .ok (.iand, 1) := by decide +kernel
theorem dX7_reads_59 : decode cX7_reads 59 = .ok (.iload_n 2, 1) := by decide +kernel
theorem dX7_reads_60 : decode cX7_reads 60 = .ok (.iconst 1, 1) := by decide +kernel
theorem dX7_reads_61 : decode cX7_reads 61 = .ok (.isub, 1) := by decide +kernel
theorem dX7_reads_62 : decode cX7_reads 62 = .ok (.invokestatic 163, 3) := by decide +kernel
theorem dX7_reads_65 : decode cX7_reads 65 = .ok (.ireturn, 1) := by decide +kernel
theorem dX7_reader_0 : decode cX7_reader 0 = .ok (.iload_n 1, 1) := by decide +kernel
theorem dX7_reader_1 : decode cX7_reader 1 = .ok (.invokestatic 129, 3) := by decide +kernel
theorem dX7_reader_4 : decode cX7_reader 4 = .ok (.ifCond .eq 7, 3) := by decide +kernel
theorem dX7_reader_7 : decode cX7_reader 7 = .ok (.iload_n 2, 1) := by decide +kernel
theorem dX7_reader_8 : decode cX7_reader 8 = .ok (.ifCond .ge 5, 3) := by decide +kernel
theorem dX7_reader_11 : decode cX7_reader 11 = .ok (.iconst (-1), 1) := by decide +kernel
theorem dX7_reader_12 : decode cX7_reader 12 = .ok (.ireturn, 1) := by decide +kernel
theorem dX7_reader_13 : decode cX7_reader 13 = .ok (.aload_n 0, 1) := by decide +kernel
theorem dX7_reader_14 : decode cX7_reader 14 = .ok (.getfield 33, 3) := by decide +kernel
theorem dX7_reader_17 : decode cX7_reader 17 = .ok (.iload_n 1, 1) := by decide +kernel
theorem dX7_reader_18 : decode cX7_reader 18 = .ok (.invokestatic 154, 3) := by decide +kernel
theorem dX7_reader_21 : decode cX7_reader 21 = .ok (.invokevirtual 157, 3) := by decide +kernel
theorem dX7_reader_24 : decode cX7_reader 24 = .ok (.iload_n 2, 1) := by decide +kernel
theorem dX7_reader_25 : decode cX7_reader 25 = .ok (.invokestatic 163, 3) := by decide +kernel
theorem dX7_reader_28 : decode cX7_reader 28 = .ok (.ireturn, 1) := by decide +kernel
theorem dX7_far_0 : decode cX7_far 0 = .ok (.iload_n 1, 1) := by decide +kernel
theorem dX7_far_1 : decode cX7_far 1 = .ok (.invokestatic 129, 3) := by decide +kernel
theorem dX7_far_4 : decode cX7_far 4 = .ok (.ifCond .eq 12, 3) := by decide +kernel
theorem dX7_far_7 : decode cX7_far 7 = .ok (.iload_n 2, 1) := by decide +kernel
theorem dX7_far_8 : decode cX7_far 8 = .ok (.ifCond .lt 8, 3) := by decide +kernel
theorem dX7_far_11 : decode cX7_far 11 = .ok (.iload_n 2, 1) := by decide +kernel
theorem dX7_far_12 : decode cX7_far 12 = .ok (.iconst 1, 1) := by decide +kernel
theorem dX7_far_13 : decode cX7_far 13 = .ok (.if_icmp .le 5, 3) := by decide +kernel
theorem dX7_far_16 : decode cX7_far 16 = .ok (.iconst (-1), 1) := by decide +kernel
theorem dX7_far_17 : decode cX7_far 17 = .ok (.ireturn, 1) := by decide +kernel
theorem dX7_far_18 : decode cX7_far 18 = .ok (.iload_n 2, 1) := by decide +kernel
theorem dX7_far_19 : decode cX7_far 19 = .ok (.ifCond .ne 14, 3) := by decide +kernel
theorem dX7_far_22 : decode cX7_far 22 = .ok (.aload_n 0, 1) := by decide +kernel
theorem dX7_far_23 : decode cX7_far 23 = .ok (.getfield 33, 3) := by decide +kernel
theorem dX7_far_26 : decode cX7_far 26 = .ok (.iload_n 1, 1) := by decide +kernel
theorem dX7_far_27 : decode cX7_far 27 = .ok (.invokevirtual 166, 3) := by decide +kernel
theorem dX7_far_30 : decode cX7_far 30 = .ok (.goto 11, 3) := by decide +kernel
theorem dX7_far_33 : decode cX7_far 33 = .ok (.aload_n 0, 1) := by decide +kernel
theorem dX7_far_34 : decode cX7_far 34 = .ok (.getfield 33, 3) := by decide +kernel
theorem dX7_far_37 : decode cX7_far 37 = .ok (.iload_n 1, 1) := by decide +kernel
theorem dX7_far_38 : decode cX7_far 38 = .ok (.invokevirtual 169, 3) := by decide +kernel
theorem dX7_far_41 : decode cX7_far 41 = .ok (.ireturn, 1) := by decide +kernel
theorem dX7_order_0 : decode cX7_order 0 = .ok (.iload_n 1, 1) := by decide +kernel
theorem dX7_order_1 : decode cX7_order 1 = .ok (.ifCond .ge 7, 3) := by decide +kernel
theorem dX7_order_4 : decode cX7_order 4 = .ok (.iconst (-1), 1) := by decide +kernel
theorem dX7_order_5 : decode cX7_order 5 = .ok (.goto 11, 3) := by decide +kernel
theorem dX7_order_8 : decode cX7_order 8 = .ok (.aload_n 0, 1) := by decide +kernel
theorem dX7_order_9 : decode cX7_order 9 = .ok (.getfield 33, 3) := by decide +kernel
theorem dX7_order_12 : decode cX7_order 12 = .ok (.iload_n 1, 1) := by decide +kernel
theorem dX7_order_13 : decode cX7_order 13 = .ok (.invokevirtual 172, 3) := by decide +kernel
theorem dX7_order_16 : decode cX7_order 16 = .ok (.ireturn, 1) := by decide +kernel
theorem dX7_circle_0 : decode cX7_circle 0 = .ok (.iload_n 1, 1) := by decide +kernel
theorem dX7_circle_1 : decode cX7_circle 1 = .ok (.invokestatic 129, 3) := by decide +kernel
theorem dX7_circle_4 : decode cX7_circle 4 = .ok (.ifCond .eq 7, 3) := by decide +kernel
theorem dX7_circle_7 : decode cX7_circle 7 = .ok (.iload_n 2, 1) := by decide +kernel
theorem dX7_circle_8 : decode cX7_circle 8 = .ok (.ifCond .ge 5, 3) := by decide +kernel
theorem dX7_circle_11 : decode cX7_circle 11 = .ok (.iconst (-1), 1) := by decide +kernel
theorem dX7_circle_12 : decode cX7_circle 12 = .ok (.ireturn, 1) := by decide +kernel
theorem dX7_circle_13 : decode cX7_circle 13 = .ok (.aload_n 0, 1) := by decide +kernel
theorem dX7_circle_14 : decode cX7_circle 14 = .ok (.getfield 33, 3) := by decide +kernel
theorem dX7_circle_17 : decode cX7_circle 17 = .ok (.iload_n 1, 1) := by decide +kernel
theorem dX7_circle_18 : decode cX7_circle 18 = .ok (.iload_n 2, 1) := by decide +kernel
theorem dX7_circle_19 : decode cX7_circle 19 = .ok (.invokevirtual 175, 3) := by decide +kernel
theorem dX7_circle_22 : decode cX7_circle 22 = .ok (.ireturn, 1) := by decide +kernel
theorem dX7_put_0 : decode cX7_put 0 = .ok (.aload_n 0, 1) := by decide +kernel
theorem dX7_put_1 : decode cX7_put 1 = .ok (.getfield 43, 3) := by decide +kernel
theorem dX7_put_4 : decode cX7_put 4 = .ok (.iload_n 1, 1) := by decide +kernel
theorem dX7_put_5 : decode cX7_put 5 = .ok (.iload_n 2, 1) := by decide +kernel
theorem dX7_put_6 : decode cX7_put 6 = .ok (.iload_n 3, 1) := by decide +kernel
theorem dX7_put_7 : decode cX7_put 7 = .ok (.iload 4, 2) := by decide +kernel
theorem dX7_put_9 : decode cX7_put 9 = .ok (.iload 5, 2) := by decide +kernel
theorem dX7_put_11 : decode cX7_put 11 = .ok (.invokevirtual 178, 3) := by decide +kernel
theorem dX7_put_14 : decode cX7_put 14 = .ok (.aload_n 0, 1) := by decide +kernel
theorem dX7_put_15 : decode cX7_put 15 = .ok (.getfield 43, 3) := by decide +kernel
theorem dX7_put_18 : decode cX7_put 18 = .ok (.invokevirtual 182, 3) := by decide +kernel
theorem dX7_put_21 : decode cX7_put 21 = .ok (.ifCond .ne 5, 3) := by decide +kernel
theorem dX7_put_24 : decode cX7_put 24 = .ok (.iconst (-1), 1) := by decide +kernel
theorem dX7_put_25 : decode cX7_put 25 = .ok (.ireturn, 1) := by decide +kernel
theorem dX7_put_26 : decode cX7_put 26 = .ok (.aload_n 0, 1) := by decide +kernel
theorem dX7_put_27 : decode cX7_put 27 = .ok (.invokevirtual 186, 3) := by decide +kernel
theorem dX7_put_30 : decode cX7_put 30 = .ok (.aload_n 0, 1) := by decide +kernel
theorem dX7_put_31 : decode cX7_put 31 = .ok (.invokevirtual 189, 3) := by decide +kernel
theorem dX7_put_34 : decode cX7_put 34 = .ok (.ireturn, 1) := by decide +kernel
theorem dX7_would_0 : decode cX7_would 0 = .ok (.aload_n 0, 1) := by decide +kernel
theorem dX7_would_1 : decode cX7_would 1 = .ok (.getfield 43, 3) := by decide +kernel
theorem dX7_would_4 : decode cX7_would 4 = .ok (.iload_n 1, 1) := by decide +kernel
theorem dX7_would_5 : decode cX7_would 5 = .ok (.iload_n 2, 1) := by decide +kernel
theorem dX7_would_6 : decode cX7_would 6 = .ok (.iload_n 3, 1) := by decide +kernel
theorem dX7_would_7 : decode cX7_would 7 = .ok (.iload 4, 2) := by decide +kernel
theorem dX7_would_9 : decode cX7_would 9 = .ok (.iload 5, 2) := by decide +kernel
theorem dX7_would_11 : decode cX7_would 11 = .ok (.invokevirtual 178, 3) := by decide +kernel
theorem dX7_would_14 : decode cX7_would 14 = .ok (.aload_n 0, 1) := by decide +kernel
theorem dX7_would_15 : decode cX7_would 15 = .ok (.getfield 43, 3) := by decide +kernel
theorem dX7_would_18 : decode cX7_would 18 = .ok (.invokevirtual 182, 3) := by decide +kernel
theorem dX7_would_21 : decode cX7_would 21 = .ok (.ifCond .eq 14, 3) := by decide +kernel
theorem dX7_would_24 : decode cX7_would 24 = .ok (.iload 6, 2) := by decide +kernel
theorem dX7_would_26 : decode cX7_would 26 = .ok (.ifCond .lt 9, 3) := by decide +kernel
theorem dX7_would_29 : decode cX7_would 29 = .ok (.iload 6, 2) := by decide +kernel
theorem dX7_would_31 : decode cX7_would 31 = .ok (.iconst 2, 1) := by decide +kernel
theorem dX7_would_32 : decode cX7_would 32 = .ok (.if_icmp .le 5, 3) := by decide +kernel
theorem dX7_would_35 : decode cX7_would 35 = .ok (.iconst (-1), 1) := by decide +kernel
theorem dX7_would_36 : decode cX7_would 36 = .ok (.ireturn, 1) := by decide +kernel
theorem dX7_would_37 : decode cX7_would 37 = .ok (.aload_n 0, 1) := by decide +kernel
theorem dX7_would_38 : decode cX7_would 38 = .ok (.getfield 47, 3) := by decide +kernel
theorem dX7_would_41 : decode cX7_would 41 = .ok (.aload_n 0, 1) := by decide +kernel
theorem dX7_would_42 : decode cX7_would 42 = .ok (.getfield 26, 3) := by decide +kernel
theorem dX7_would_45 : decode cX7_would 45 = .ok (.iload_n 1, 1) := by decide +kernel
theorem dX7_would_46 : decode cX7_would 46 = .ok (.invokevirtual 192, 3) := by decide +kernel
theorem dX7_would_49 : decode cX7_would 49 = .ok (.aload_n 0, 1) := by decide +kernel
theorem dX7_would_50 : decode cX7_would 50 = .ok (.getfield 26, 3) := by decide +kernel
theorem dX7_would_53 : decode cX7_would 53 = .ok (.aload_n 0, 1) := by decide +kernel
theorem dX7_would_54 : decode cX7_would 54 = .ok (.getfield 43, 3) := by decide +kernel
theorem dX7_would_57 : decode cX7_would 57 = .ok (.invokevirtual 196, 3) := by decide +kernel
theorem dX7_would_60 : decode cX7_would 60 = .ok (.aload_n 0, 1) := by decide +kernel
theorem dX7_would_61 : decode cX7_would 61 = .ok (.getfield 37, 3) := by decide +kernel
theorem dX7_would_64 : decode cX7_would 64 = .ok (.aload_n 0, 1) := by decide +kernel
theorem dX7_would_65 : decode cX7_would 65 = .ok (.getfield 26, 3) := by decide +kernel
theorem dX7_would_68 : decode cX7_would 68 = .ok (.invokevirtual 72, 3) := by decide +kernel
theorem dX7_would_71 : decode cX7_would 71 = .ok (.aload_n 0, 1) := by decide +kernel
theorem dX7_would_72 : decode cX7_would 72 = .ok (.getfield 26, 3) := by decide +kernel
theorem dX7_would_75 : decode cX7_would 75 = .ok (.aload_n 0, 1) := by decide +kernel
theorem dX7_would_76 : decode cX7_would 76 = .ok (.getfield 47, 3) := by decide +kernel
theorem dX7_would_79 : decode cX7_would 79 = .ok (.invokevirtual 196, 3) := by decide +kernel
theorem dX7_would_82 : decode cX7_would 82 = .ok (.iload 6, 2) := by decide +kernel
theorem dX7_would_84 : decode cX7_would 84 = .ok (.iconst 2, 1) := by decide +kernel
theorem dX7_would_85 : decode cX7_would 85 = .ok (.if_icmp .ne 14, 3) := by decide +kernel
theorem dX7_would_88 : decode cX7_would 88 = .ok (.aload_n 0, 1) := by decide +kernel
theorem dX7_would_89 : decode cX7_would 89 = .ok (.getfield 37, 3) := by decide +kernel
theorem dX7_would_92 : decode cX7_would 92 = .ok (.getfield 116, 3) := by decide +kernel
theorem dX7_would_95 : decode cX7_would 95 = .ok (.invokestatic 110, 3) := by decide +kernel
theorem dX7_would_98 : decode cX7_would 98 = .ok (.ireturn, 1) := by decide +kernel
theorem dX7_would_99 : decode cX7_would 99 = .ok (.aload_n 0, 1) := by decide +kernel
theorem dX7_would_100 : decode cX7_would 100 = .ok (.getfield 33, 3) := by decide +kernel
theorem dX7_would_103 : decode cX7_would 103 = .ok (.aload_n 0, 1) := by decide +kernel
theorem dX7_would_104 : decode cX7_would 104 = .ok (.getfield 37, 3) := by decide +kernel
theorem dX7_would_107 : decode cX7_would 107 = .ok (.invokevirtual 200, 3) := by decide +kernel
theorem dX7_would_110 : decode cX7_would 110 = .ok (.istore 7, 2) := by decide +kernel
theorem dX7_would_112 : decode cX7_would 112 = .ok (.iload 6, 2) := by decide +kernel
theorem dX7_would_114 : decode cX7_would 114 = .ok (.iconst 1, 1) := by decide +kernel
theorem dX7_would_115 : decode cX7_would 115 = .ok (.if_icmp .ne 8, 3) := by decide +kernel
theorem dX7_would_118 : decode cX7_would 118 = .ok (.iload 7, 2) := by decide +kernel
theorem dX7_would_120 : decode cX7_would 120 = .ok (.goto 17, 3) := by decide +kernel
theorem dX7_would_123 : decode cX7_would 123 = .ok (.aload_n 0, 1) := by decide +kernel
theorem dX7_would_124 : decode cX7_would 124 = .ok (.getfield 33, 3) := by decide +kernel
theorem dX7_would_127 : decode cX7_would 127 = .ok (.iload 7, 2) := by decide +kernel
theorem dX7_would_129 : decode cX7_would 129 = .ok (.invokevirtual 157, 3) := by decide +kernel
theorem dX7_would_132 : decode cX7_would 132 = .ok (.iload_n 1, 1) := by decide +kernel
theorem dX7_would_133 : decode cX7_would 133 = .ok (.invokestatic 154, 3) := by decide +kernel
theorem dX7_would_136 : decode cX7_would 136 = .ok (.ior, 1) := by decide +kernel
theorem dX7_would_137 : decode cX7_would 137 = .ok (.invokestatic 110, 3) := by decide +kernel
theorem dX7_would_140 : decode cX7_would 140 = .ok (.ireturn, 1) := by decide +kernel
theorem dX7_latest_0 : decode cX7_latest 0 = .ok (.iload_n 1, 1) := by decide +kernel
theorem dX7_latest_1 : decode cX7_latest 1 = .ok (.ifCond .lt 8, 3) := by decide +kernel
theorem dX7_latest_4 : decode cX7_latest 4 = .ok (.iload_n 1, 1) := by decide +kernel
theorem dX7_latest_5 : decode cX7_latest 5 = .ok (.iconst 2, 1) := by decide +kernel
theorem dX7_latest_6 : decode cX7_latest 6 = .ok (.if_icmp .le 5, 3) := by decide +kernel
theorem dX7_latest_9 : decode cX7_latest 9 = .ok (.iconst (-1), 1) := by decide +kernel
theorem dX7_latest_10 : decode cX7_latest 10 = .ok (.ireturn, 1) := by decide +kernel
theorem dX7_latest_11 : decode cX7_latest 11 = .ok (.aload_n 0, 1) := by decide +kernel
theorem dX7_latest_12 : decode cX7_latest 12 = .ok (.getfield 204, 3) := by decide +kernel
theorem dX7_latest_15 : decode cX7_latest 15 = .ok (.ifCond .ne 6, 3) := by decide +kernel
theorem dX7_latest_18 : decode cX7_latest 18 = .ok (.bipush (-4), 2) := by decide +kernel
theorem dX7_latest_20 : decode cX7_latest 20 = .ok (.ireturn, 1) := by decide +kernel
theorem dX7_latest_21 : decode cX7_latest 21 = .ok (.iload_n 1, 1) := by decide +kernel
theorem dX7_latest_22 : decode cX7_latest 22 = .ok (.ifCond .ne 8, 3) := by decide +kernel
theorem dX7_latest_25 : decode cX7_latest 25 = .ok (.aload_n 0, 1) := by decide +kernel
theorem dX7_latest_26 : decode cX7_latest 26 = .ok (.getfield 208, 3) := by decide +kernel
theorem dX7_latest_29 : decode cX7_latest 29 = .ok (.ireturn, 1) := by decide +kernel
theorem dX7_latest_30 : decode cX7_latest 30 = .ok (.iload_n 1, 1) := by decide +kernel
theorem dX7_latest_31 : decode cX7_latest 31 = .ok (.iconst 1, 1) := by decide +kernel
theorem dX7_latest_32 : decode cX7_latest 32 = .ok (.if_icmp .ne 10, 3) := by decide +kernel
theorem dX7_latest_35 : decode cX7_latest 35 = .ok (.aload_n 0, 1) := by decide +kernel
theorem dX7_latest_36 : decode cX7_latest 36 = .ok (.getfield 211, 3) := by decide +kernel
theorem dX7_latest_39 : decode cX7_latest 39 = .ok (.goto 14, 3) := by decide +kernel
theorem dX7_latest_42 : decode cX7_latest 42 = .ok (.aload_n 0, 1) := by decide +kernel
theorem dX7_latest_43 : decode cX7_latest 43 = .ok (.getfield 208, 3) := by decide +kernel
theorem dX7_latest_46 : decode cX7_latest 46 = .ok (.aload_n 0, 1) := by decide +kernel
theorem dX7_latest_47 : decode cX7_latest 47 = .ok (.getfield 211, 3) := by decide +kernel
theorem dX7_latest_50 : decode cX7_latest 50 = .ok (.iconst (-1), 1) := by decide +kernel
theorem dX7_latest_51 : decode cX7_latest 51 = .ok (.ixor, 1) := by decide +kernel
theorem dX7_latest_52 : decode cX7_latest 52 = .ok (.iand, 1) := by decide +kernel
theorem dX7_latest_53 : decode cX7_latest 53 = .ok (.ireturn, 1) := by decide +kernel
theorem dX7_undo_0 : decode cX7_undo 0 = .ok (.aload_n 0, 1) := by decide +kernel
theorem dX7_undo_1 : decode cX7_undo 1 = .ok (.getfield 53, 3) := by decide +kernel
theorem dX7_undo_4 : decode cX7_undo 4 = .ok (.getfield 128, 3) := by decide +kernel
theorem dX7_undo_7 : decode cX7_undo 7 = .ok (.ifCond .ne 6, 3) := by decide +kernel
theorem dX7_undo_10 : decode cX7_undo 10 = .ok (.bipush (-2), 2) := by decide +kernel
theorem dX7_undo_12 : decode cX7_undo 12 = .ok (.ireturn, 1) := by decide +kernel
theorem dX7_undo_13 : decode cX7_undo 13 = .ok (.aload_n 0, 1) := by decide +kernel
theorem dX7_undo_14 : decode cX7_undo 14 = .ok (.getfield 53, 3) := by decide +kernel
theorem dX7_undo_17 : decode cX7_undo 17 = .ok (.aload_n 0, 1) := by decide +kernel
theorem dX7_undo_18 : decode cX7_undo 18 = .ok (.getfield 43, 3) := by decide +kernel
theorem dX7_undo_21 : decode cX7_undo 21 = .ok (.invokevirtual 214, 3) := by decide +kernel
theorem dX7_undo_24 : decode cX7_undo 24 = .ok (.aload_n 0, 1) := by decide +kernel
theorem dX7_undo_25 : decode cX7_undo 25 = .ok (.invokevirtual 189, 3) := by decide +kernel
theorem dX7_undo_28 : decode cX7_undo 28 = .ok (.ireturn, 1) := by decide +kernel
theorem dX7_storm_0 : decode cX7_storm 0 = .ok (.iload_n 2, 1) := by decide +kernel
theorem dX7_storm_1 : decode cX7_storm 1 = .ok (.iconst 1, 1) := by decide +kernel
theorem dX7_storm_2 : decode cX7_storm 2 = .ok (.if_icmp .lt 9, 3) := by decide +kernel
theorem dX7_storm_5 : decode cX7_storm 5 = .ok (.iload_n 2, 1) := by decide +kernel
theorem dX7_storm_6 : decode cX7_storm 6 = .ok (.bipush 20, 2) := by decide +kernel
theorem dX7_storm_8 : decode cX7_storm 8 = .ok (.if_icmp .le 5, 3) := by decide +kernel
theorem dX7_storm_11 : decode cX7_storm 11 = .ok (.iconst (-1), 1) := by decide +kernel
theorem dX7_storm_12 : decode cX7_storm 12 = .ok (.ireturn, 1) := by decide +kernel
theorem dX7_storm_13 : decode cX7_storm 13 = .ok (.iload_n 1, 1) := by decide +kernel
theorem dX7_storm_14 : decode cX7_storm 14 = .ok (.istore_n 3, 1) := by decide +kernel
theorem dX7_storm_15 : decode cX7_storm 15 = .ok (.iconst 0, 1) := by decide +kernel
theorem dX7_storm_16 : decode cX7_storm 16 = .ok (.istore 4, 2) := by decide +kernel
theorem dX7_storm_18 : decode cX7_storm 18 = .ok (.iconst 0, 1) := by decide +kernel
theorem dX7_storm_19 : decode cX7_storm 19 = .ok (.istore 5, 2) := by decide +kernel
theorem dX7_storm_21 : decode cX7_storm 21 = .ok (.iload 5, 2) := by decide +kernel
theorem dX7_storm_23 : decode cX7_storm 23 = .ok (.iload_n 2, 1) := by decide +kernel
theorem dX7_storm_24 : decode cX7_storm 24 = .ok (.if_icmp .ge 61, 3) := by decide +kernel
theorem dX7_storm_27 : decode cX7_storm 27 = .ok (.iload_n 3, 1) := by decide +kernel
theorem dX7_storm_28 : decode cX7_storm 28 = .ok (.invokestatic 217, 3) := by decide +kernel
theorem dX7_storm_31 : decode cX7_storm 31 = .ok (.istore_n 3, 1) := by decide +kernel
theorem dX7_storm_32 : decode cX7_storm 32 = .ok (.iload_n 3, 1) := by decide +kernel
theorem dX7_storm_33 : decode cX7_storm 33 = .ok (.invokestatic 220, 3) := by decide +kernel
theorem dX7_storm_36 : decode cX7_storm 36 = .ok (.istore 6, 2) := by decide +kernel
theorem dX7_storm_38 : decode cX7_storm 38 = .ok (.iload_n 3, 1) := by decide +kernel
theorem dX7_storm_39 : decode cX7_storm 39 = .ok (.invokestatic 217, 3) := by decide +kernel
theorem dX7_storm_42 : decode cX7_storm 42 = .ok (.istore_n 3, 1) := by decide +kernel
theorem dX7_storm_43 : decode cX7_storm 43 = .ok (.iload_n 3, 1) := by decide +kernel
theorem dX7_storm_44 : decode cX7_storm 44 = .ok (.invokestatic 220, 3) := by decide +kernel
theorem dX7_storm_47 : decode cX7_storm 47 = .ok (.istore 7, 2) := by decide +kernel
theorem dX7_storm_49 : decode cX7_storm 49 = .ok (.iload_n 3, 1) := by decide +kernel
theorem dX7_storm_50 : decode cX7_storm 50 = .ok (.invokestatic 217, 3) := by decide +kernel
theorem dX7_storm_53 : decode cX7_storm 53 = .ok (.istore_n 3, 1) := by decide +kernel
theorem dX7_storm_54 : decode cX7_storm 54 = .ok (.aload_n 0, 1) := by decide +kernel
theorem dX7_storm_55 : decode cX7_storm 55 = .ok (.iload 6, 2) := by decide +kernel
theorem dX7_storm_57 : decode cX7_storm 57 = .ok (.iload 7, 2) := by decide +kernel
theorem dX7_storm_59 : decode cX7_storm 59 = .ok (.iload_n 3, 1) := by decide +kernel
theorem dX7_storm_60 : decode cX7_storm 60 = .ok (.invokestatic 220, 3) := by decide +kernel
theorem dX7_storm_63 : decode cX7_storm 63 = .ok (.invokevirtual 223, 3) := by decide +kernel
theorem dX7_storm_66 : decode cX7_storm 66 = .ok (.aload_n 0, 1) := by decide +kernel
theorem dX7_storm_67 : decode cX7_storm 67 = .ok (.invokevirtual 186, 3) := by decide +kernel
theorem dX7_storm_70 : decode cX7_storm 70 = .ok (.iload 4, 2) := by decide +kernel
theorem dX7_storm_72 : decode cX7_storm 72 = .ok (.aload_n 0, 1) := by decide +kernel
theorem dX7_storm_73 : decode cX7_storm 73 = .ok (.invokevirtual 189, 3) := by decide +kernel
theorem dX7_storm_76 : decode cX7_storm 76 = .ok (.iadd, 1) := by decide +kernel
theorem dX7_storm_77 : decode cX7_storm 77 = .ok (.istore 4, 2) := by decide +kernel
theorem dX7_storm_79 : decode cX7_storm 79 = .ok (.iinc 5 1, 3) := by decide +kernel
theorem dX7_storm_82 : decode cX7_storm 82 = .ok (.goto (-61), 3) := by decide +kernel
theorem dX7_storm_85 : decode cX7_storm 85 = .ok (.iload 4, 2) := by decide +kernel
theorem dX7_storm_87 : decode cX7_storm 87 = .ok (.ireturn, 1) := by decide +kernel
theorem dX7_keep_0 : decode cX7_keep 0 = .ok (.iload_n 1, 1) := by decide +kernel
theorem dX7_keep_1 : decode cX7_keep 1 = .ok (.ifCond .lt 8, 3) := by decide +kernel
theorem dX7_keep_4 : decode cX7_keep 4 = .ok (.iload_n 1, 1) := by decide +kernel
theorem dX7_keep_5 : decode cX7_keep 5 = .ok (.iconst 2, 1) := by decide +kernel
theorem dX7_keep_6 : decode cX7_keep 6 = .ok (.if_icmp .lt 5, 3) := by decide +kernel
theorem dX7_keep_9 : decode cX7_keep 9 = .ok (.iconst (-1), 1) := by decide +kernel
theorem dX7_keep_10 : decode cX7_keep 10 = .ok (.ireturn, 1) := by decide +kernel
theorem dX7_keep_11 : decode cX7_keep 11 = .ok (.aload_n 0, 1) := by decide +kernel
theorem dX7_keep_12 : decode cX7_keep 12 = .ok (.getfield 61, 3) := by decide +kernel
theorem dX7_keep_15 : decode cX7_keep 15 = .ok (.iload_n 1, 1) := by decide +kernel
theorem dX7_keep_16 : decode cX7_keep 16 = .ok (.baload, 1) := by decide +kernel
theorem dX7_keep_17 : decode cX7_keep 17 = .ok (.ifCond .eq 7, 3) := by decide +kernel
theorem dX7_keep_20 : decode cX7_keep 20 = .ok (.iconst 1, 1) := by decide +kernel
theorem dX7_keep_21 : decode cX7_keep 21 = .ok (.goto 4, 3) := by decide +kernel
theorem dX7_keep_24 : decode cX7_keep 24 = .ok (.iconst 0, 1) := by decide +kernel
theorem dX7_keep_25 : decode cX7_keep 25 = .ok (.istore_n 2, 1) := by decide +kernel
theorem dX7_keep_26 : decode cX7_keep 26 = .ok (.aload_n 0, 1) := by decide +kernel
theorem dX7_keep_27 : decode cX7_keep 27 = .ok (.getfield 57, 3) := by decide +kernel
theorem dX7_keep_30 : decode cX7_keep 30 = .ok (.iload_n 1, 1) := by decide +kernel
theorem dX7_keep_31 : decode cX7_keep 31 = .ok (.aaload, 1) := by decide +kernel
theorem dX7_keep_32 : decode cX7_keep 32 = .ok (.aload_n 0, 1) := by decide +kernel
theorem dX7_keep_33 : decode cX7_keep 33 = .ok (.getfield 26, 3) := by decide +kernel
theorem dX7_keep_36 : decode cX7_keep 36 = .ok (.invokevirtual 227, 3) := by decide +kernel
theorem dX7_keep_39 : decode cX7_keep 39 = .ok (.aload_n 0, 1) := by decide +kernel
theorem dX7_keep_40 : decode cX7_keep 40 = .ok (.getfield 61, 3) := by decide +kernel
theorem dX7_keep_43 : decode cX7_keep 43 = .ok (.iload_n 1, 1) := by decide +kernel
theorem dX7_keep_44 : decode cX7_keep 44 = .ok (.iconst 1, 1) := by decide +kernel
theorem dX7_keep_45 : decode cX7_keep 45 = .ok (.bastore, 1) := by decide +kernel
theorem dX7_keep_46 : decode cX7_keep 46 = .ok (.iload_n 2, 1) := by decide +kernel
theorem dX7_keep_47 : decode cX7_keep 47 = .ok (.ireturn, 1) := by decide +kernel
theorem dX7_back_0 : decode cX7_back 0 = .ok (.iload_n 1, 1) := by decide +kernel
theorem dX7_back_1 : decode cX7_back 1 = .ok (.ifCond .lt 8, 3) := by decide +kernel
theorem dX7_back_4 : decode cX7_back 4 = .ok (.iload_n 1, 1) := by decide +kernel
theorem dX7_back_5 : decode cX7_back 5 = .ok (.iconst 2, 1) := by decide +kernel
theorem dX7_back_6 : decode cX7_back 6 = .ok (.if_icmp .lt 5, 3) := by decide +kernel
theorem dX7_back_9 : decode cX7_back 9 = .ok (.iconst (-1), 1) := by decide +kernel
theorem dX7_back_10 : decode cX7_back 10 = .ok (.ireturn, 1) := by decide +kernel
theorem dX7_back_11 : decode cX7_back 11 = .ok (.aload_n 0, 1) := by decide +kernel
theorem dX7_back_12 : decode cX7_back 12 = .ok (.getfield 61, 3) := by decide +kernel
theorem dX7_back_15 : decode cX7_back 15 = .ok (.iload_n 1, 1) := by decide +kernel
theorem dX7_back_16 : decode cX7_back 16 = .ok (.baload, 1) := by decide +kernel
theorem dX7_back_17 : decode cX7_back 17 = .ok (.ifCond .ne 6, 3) := by decide +kernel
theorem dX7_back_20 : decode cX7_back 20 = .ok (.bipush (-2), 2) := by decide +kernel
theorem dX7_back_22 : decode cX7_back 22 = .ok (.ireturn, 1) := by decide +kernel
theorem dX7_back_23 : decode cX7_back 23 = .ok (.aload_n 0, 1) := by decide +kernel
theorem dX7_back_24 : decode cX7_back 24 = .ok (.aload_n 0, 1) := by decide +kernel
theorem dX7_back_25 : decode cX7_back 25 = .ok (.getfield 57, 3) := by decide +kernel
theorem dX7_back_28 : decode cX7_back 28 = .ok (.iload_n 1, 1) := by decide +kernel
theorem dX7_back_29 : decode cX7_back 29 = .ok (.aaload, 1) := by decide +kernel
theorem dX7_back_30 : decode cX7_back 30 = .ok (.invokevirtual 94, 3) := by decide +kernel
theorem dX7_back_33 : decode cX7_back 33 = .ok (.aload_n 0, 1) := by decide +kernel
theorem dX7_back_34 : decode cX7_back 34 = .ok (.getfield 26, 3) := by decide +kernel
theorem dX7_back_37 : decode cX7_back 37 = .ok (.invokevirtual 103, 3) := by decide +kernel
theorem dX7_back_40 : decode cX7_back 40 = .ok (.ireturn, 1) := by decide +kernel
theorem dX7_sheet_0 : decode cX7_sheet 0 = .ok (.iload_n 1, 1) := by decide +kernel
theorem dX7_sheet_1 : decode cX7_sheet 1 = .ok (.ifCond .lt 23, 3) := by decide +kernel
theorem dX7_sheet_4 : decode cX7_sheet 4 = .ok (.iload_n 1, 1) := by decide +kernel
theorem dX7_sheet_5 : decode cX7_sheet 5 = .ok (.iconst 4, 1) := by decide +kernel
theorem dX7_sheet_6 : decode cX7_sheet 6 = .ok (.if_icmp .ge 18, 3) := by decide +kernel
theorem dX7_sheet_9 : decode cX7_sheet 9 = .ok (.iload_n 2, 1) := by decide +kernel
theorem dX7_sheet_10 : decode cX7_sheet 10 = .ok (.ifCond .lt 14, 3) := by decide +kernel
theorem dX7_sheet_13 : decode cX7_sheet 13 = .ok (.iload_n 2, 1) := by decide +kernel
theorem dX7_sheet_14 : decode cX7_sheet 14 = .ok (.iconst 3, 1) := by decide +kernel
theorem dX7_sheet_15 : decode cX7_sheet 15 = .ok (.if_icmp .ge 9, 3) := by decide +kernel
theorem dX7_sheet_18 : decode cX7_sheet 18 = .ok (.iload_n 3, 1) := by decide +kernel
theorem dX7_sheet_19 : decode cX7_sheet 19 = .ok (.bipush 40, 2) := by decide +kernel
theorem dX7_sheet_21 : decode cX7_sheet 21 = .ok (.if_icmp .le 5, 3) := by decide +kernel
theorem dX7_sheet_24 : decode cX7_sheet 24 = .ok (.iconst (-1), 1) := by decide +kernel
theorem dX7_sheet_25 : decode cX7_sheet 25 = .ok (.ireturn, 1) := by decide +kernel
theorem dX7_sheet_26 : decode cX7_sheet 26 = .ok (.iload_n 3, 1) := by decide +kernel
theorem dX7_sheet_27 : decode cX7_sheet 27 = .ok (.ifCond .ge 6, 3) := by decide +kernel
theorem dX7_sheet_30 : decode cX7_sheet 30 = .ok (.bipush (-14), 2) := by decide +kernel
theorem dX7_sheet_32 : decode cX7_sheet 32 = .ok (.ireturn, 1) := by decide +kernel
theorem dX7_sheet_33 : decode cX7_sheet 33 = .ok (.aload_n 0, 1) := by decide +kernel
theorem dX7_sheet_34 : decode cX7_sheet 34 = .ok (.getfield 67, 3) := by decide +kernel
theorem dX7_sheet_37 : decode cX7_sheet 37 = .ok (.iload_n 1, 1) := by decide +kernel
theorem dX7_sheet_38 : decode cX7_sheet 38 = .ok (.aaload, 1) := by decide +kernel
theorem dX7_sheet_39 : decode cX7_sheet 39 = .ok (.iload_n 2, 1) := by decide +kernel
theorem dX7_sheet_40 : decode cX7_sheet 40 = .ok (.iload_n 3, 1) := by decide +kernel
theorem dX7_sheet_41 : decode cX7_sheet 41 = .ok (.invokevirtual 230, 3) := by decide +kernel
theorem dX7_sheet_44 : decode cX7_sheet 44 = .ok (.iconst 1, 1) := by decide +kernel
theorem dX7_sheet_45 : decode cX7_sheet 45 = .ok (.ireturn, 1) := by decide +kernel
theorem dX7_lay_0 : decode cX7_lay 0 = .ok (.iload_n 1, 1) := by decide +kernel
theorem dX7_lay_1 : decode cX7_lay 1 = .ok (.ifCond .lt 8, 3) := by decide +kernel
theorem dX7_lay_4 : decode cX7_lay 4 = .ok (.iload_n 1, 1) := by decide +kernel
theorem dX7_lay_5 : decode cX7_lay 5 = .ok (.iconst 4, 1) := by decide +kernel
theorem dX7_lay_6 : decode cX7_lay 6 = .ok (.if_icmp .lt 5, 3) := by decide +kernel
theorem dX7_lay_9 : decode cX7_lay 9 = .ok (.iconst (-1), 1) := by decide +kernel
theorem dX7_lay_10 : decode cX7_lay 10 = .ok (.ireturn, 1) := by decide +kernel
theorem dX7_lay_11 : decode cX7_lay 11 = .ok (.aload_n 0, 1) := by decide +kernel
theorem dX7_lay_12 : decode cX7_lay 12 = .ok (.getfield 67, 3) := by decide +kernel
theorem dX7_lay_15 : decode cX7_lay 15 = .ok (.iload_n 1, 1) := by decide +kernel
theorem dX7_lay_16 : decode cX7_lay 16 = .ok (.aaload, 1) := by decide +kernel
theorem dX7_lay_17 : decode cX7_lay 17 = .ok (.aload_n 0, 1) := by decide +kernel
theorem dX7_lay_18 : decode cX7_lay 18 = .ok (.getfield 67, 3) := by decide +kernel
theorem dX7_lay_21 : decode cX7_lay 21 = .ok (.iload_n 1, 1) := by decide +kernel
theorem dX7_lay_22 : decode cX7_lay 22 = .ok (.aaload, 1) := by decide +kernel
theorem dX7_lay_23 : decode cX7_lay 23 = .ok (.getfield 234, 3) := by decide +kernel
theorem dX7_lay_26 : decode cX7_lay 26 = .ok (.iload_n 2, 1) := by decide +kernel
theorem dX7_lay_27 : decode cX7_lay 27 = .ok (.invokevirtual 237, 3) := by decide +kernel
theorem dX7_lay_30 : decode cX7_lay 30 = .ok (.istore 4, 2) := by decide +kernel
theorem dX7_lay_32 : decode cX7_lay 32 = .ok (.iload 4, 2) := by decide +kernel
theorem dX7_lay_34 : decode cX7_lay 34 = .ok (.ifCond .eq 9, 3) := by decide +kernel
theorem dX7_lay_37 : decode cX7_lay 37 = .ok (.bipush (-10), 2) := by decide +kernel
theorem dX7_lay_39 : decode cX7_lay 39 = .ok (.iload 4, 2) := by decide +kernel
theorem dX7_lay_41 : decode cX7_lay 41 = .ok (.isub, 1) := by decide +kernel
theorem dX7_lay_42 : decode cX7_lay 42 = .ok (.ireturn, 1) := by decide +kernel
theorem dX7_lay_43 : decode cX7_lay 43 = .ok (.aload_n 0, 1) := by decide +kernel
theorem dX7_lay_44 : decode cX7_lay 44 = .ok (.getfield 67, 3) := by decide +kernel
theorem dX7_lay_47 : decode cX7_lay 47 = .ok (.iload_n 1, 1) := by decide +kernel
theorem dX7_lay_48 : decode cX7_lay 48 = .ok (.aaload, 1) := by decide +kernel
theorem dX7_lay_49 : decode cX7_lay 49 = .ok (.iload_n 2, 1) := by decide +kernel
theorem dX7_lay_50 : decode cX7_lay 50 = .ok (.iload_n 3, 1) := by decide +kernel
theorem dX7_lay_51 : decode cX7_lay 51 = .ok (.invokevirtual 240, 3) := by decide +kernel
theorem dX7_lay_54 : decode cX7_lay 54 = .ok (.iconst 1, 1) := by decide +kernel
theorem dX7_lay_55 : decode cX7_lay 55 = .ok (.ireturn, 1) := by decide +kernel
theorem dX7_read_0 : decode cX7_read 0 = .ok (.iload_n 1, 1) := by decide +kernel
theorem dX7_read_1 : decode cX7_read 1 = .ok (.ifCond .lt 29, 3) := by decide +kernel
theorem dX7_read_4 : decode cX7_read 4 = .ok (.iload_n 1, 1) := by decide +kernel
theorem dX7_read_5 : decode cX7_read 5 = .ok (.iconst 4, 1) := by decide +kernel
theorem dX7_read_6 : decode cX7_read 6 = .ok (.if_icmp .ge 24, 3) := by decide +kernel
theorem dX7_read_9 : decode cX7_read 9 = .ok (.iload_n 2, 1) := by decide +kernel
theorem dX7_read_10 : decode cX7_read 10 = .ok (.ifCond .lt 20, 3) := by decide +kernel
theorem dX7_read_13 : decode cX7_read 13 = .ok (.iload_n 2, 1) := by decide +kernel
theorem dX7_read_14 : decode cX7_read 14 = .ok (.iconst 3, 1) := by decide +kernel
theorem dX7_read_15 : decode cX7_read 15 = .ok (.if_icmp .ge 15, 3) := by decide +kernel
theorem dX7_read_18 : decode cX7_read 18 = .ok (.iload 4, 2) := by decide +kernel
theorem dX7_read_20 : decode cX7_read 20 = .ok (.ifCond .lt 10, 3) := by decide +kernel
theorem dX7_read_23 : decode cX7_read 23 = .ok (.iload 4, 2) := by decide +kernel
theorem dX7_read_25 : decode cX7_read 25 = .ok (.bipush 8, 2) := by decide +kernel
theorem dX7_read_27 : decode cX7_read 27 = .ok (.if_icmp .le 5, 3) := by decide +kernel
theorem dX7_read_30 : decode cX7_read 30 = .ok (.iconst (-1), 1) := by decide +kernel
theorem dX7_read_31 : decode cX7_read 31 = .ok (.ireturn, 1) := by decide +kernel
theorem dX7_read_32 : decode cX7_read 32 = .ok (.iconst 0, 1) := by decide +kernel
theorem dX7_read_33 : decode cX7_read 33 = .ok (.istore 5, 2) := by decide +kernel
theorem dX7_read_35 : decode cX7_read 35 = .ok (.iconst 0, 1) := by decide +kernel
theorem dX7_read_36 : decode cX7_read 36 = .ok (.istore 6, 2) := by decide +kernel
theorem dX7_read_38 : decode cX7_read 38 = .ok (.iload 5, 2) := by decide +kernel
theorem dX7_read_40 : decode cX7_read 40 = .ok (.iload 4, 2) := by decide +kernel
theorem dX7_read_42 : decode cX7_read 42 = .ok (.if_icmp .ge 72, 3) := by decide +kernel
theorem dX7_read_45 : decode cX7_read 45 = .ok (.iload 6, 2) := by decide +kernel
theorem dX7_read_47 : decode cX7_read 47 = .ok (.ifCond .ne 67, 3) := by decide +kernel
theorem dX7_read_50 : decode cX7_read 50 = .ok (.aload_n 0, 1) := by decide +kernel
theorem dX7_read_51 : decode cX7_read 51 = .ok (.getfield 67, 3) := by decide +kernel
theorem dX7_read_54 : decode cX7_read 54 = .ok (.iload_n 1, 1) := by decide +kernel
theorem dX7_read_55 : decode cX7_read 55 = .ok (.aaload, 1) := by decide +kernel
theorem dX7_read_56 : decode cX7_read 56 = .ok (.iload_n 2, 1) := by decide +kernel
theorem dX7_read_57 : decode cX7_read 57 = .ok (.iload_n 3, 1) := by decide +kernel
theorem dX7_read_58 : decode cX7_read 58 = .ok (.iconst 5, 1) := by decide +kernel
theorem dX7_read_59 : decode cX7_read 59 = .ok (.iload 5, 2) := by decide +kernel
theorem dX7_read_61 : decode cX7_read 61 = .ok (.imul, 1) := by decide +kernel
theorem dX7_read_62 : decode cX7_read 62 = .ok (.iadd, 1) := by decide +kernel
theorem dX7_read_63 : decode cX7_read 63 = .ok (.invokevirtual 243, 3) := by decide +kernel
theorem dX7_read_66 : decode cX7_read 66 = .ok (.istore 6, 2) := by decide +kernel
theorem dX7_read_68 : decode cX7_read 68 = .ok (.iload 6, 2) := by decide +kernel
theorem dX7_read_70 : decode cX7_read 70 = .ok (.ifCond .ne (-32), 3) := by decide +kernel
theorem dX7_read_73 : decode cX7_read 73 = .ok (.aload_n 0, 1) := by decide +kernel
theorem dX7_read_74 : decode cX7_read 74 = .ok (.getfield 67, 3) := by decide +kernel
theorem dX7_read_77 : decode cX7_read 77 = .ok (.iload_n 1, 1) := by decide +kernel
theorem dX7_read_78 : decode cX7_read 78 = .ok (.aaload, 1) := by decide +kernel
theorem dX7_read_79 : decode cX7_read 79 = .ok (.iload_n 3, 1) := by decide +kernel
theorem dX7_read_80 : decode cX7_read 80 = .ok (.iconst 5, 1) := by decide +kernel
theorem dX7_read_81 : decode cX7_read 81 = .ok (.iload 5, 2) := by decide +kernel
theorem dX7_read_83 : decode cX7_read 83 = .ok (.imul, 1) := by decide +kernel
theorem dX7_read_84 : decode cX7_read 84 = .ok (.iadd, 1) := by decide +kernel
theorem dX7_read_85 : decode cX7_read 85 = .ok (.aload_n 0, 1) := by decide +kernel
theorem dX7_read_86 : decode cX7_read 86 = .ok (.getfield 43, 3) := by decide +kernel
theorem dX7_read_89 : decode cX7_read 89 = .ok (.invokevirtual 246, 3) := by decide +kernel
theorem dX7_read_92 : decode cX7_read 92 = .ok (.aload_n 0, 1) := by decide +kernel
theorem dX7_read_93 : decode cX7_read 93 = .ok (.getfield 43, 3) := by decide +kernel
theorem dX7_read_96 : decode cX7_read 96 = .ok (.invokevirtual 182, 3) := by decide +kernel
theorem dX7_read_99 : decode cX7_read 99 = .ok (.ifCond .ne 9, 3) := by decide +kernel
theorem dX7_read_102 : decode cX7_read 102 = .ok (.bipush (-20), 2) := by decide +kernel
theorem dX7_read_104 : decode cX7_read 104 = .ok (.iload 5, 2) := by decide +kernel
theorem dX7_read_106 : decode cX7_read 106 = .ok (.isub, 1) := by decide +kernel
theorem dX7_read_107 : decode cX7_read 107 = .ok (.ireturn, 1) := by decide +kernel
theorem dX7_read_108 : decode cX7_read 108 = .ok (.iinc 5 1, 3) := by decide +kernel
theorem dX7_read_111 : decode cX7_read 111 = .ok (.goto (-73), 3) := by decide +kernel
theorem dX7_read_114 : decode cX7_read 114 = .ok (.iconst 0, 1) := by decide +kernel
theorem dX7_read_115 : decode cX7_read 115 = .ok (.istore 7, 2) := by decide +kernel
theorem dX7_read_117 : decode cX7_read 117 = .ok (.iload 7, 2) := by decide +kernel
theorem dX7_read_119 : decode cX7_read 119 = .ok (.iload 5, 2) := by decide +kernel
theorem dX7_read_121 : decode cX7_read 121 = .ok (.if_icmp .ge 37, 3) := by decide +kernel
theorem dX7_read_124 : decode cX7_read 124 = .ok (.aload_n 0, 1) := by decide +kernel
theorem dX7_read_125 : decode cX7_read 125 = .ok (.getfield 67, 3) := by decide +kernel
theorem dX7_read_128 : decode cX7_read 128 = .ok (.iload_n 1, 1) := by decide +kernel
theorem dX7_read_129 : decode cX7_read 129 = .ok (.aaload, 1) := by decide +kernel
theorem dX7_read_130 : decode cX7_read 130 = .ok (.iload_n 3, 1) := by decide +kernel
theorem dX7_read_131 : decode cX7_read 131 = .ok (.iconst 5, 1) := by decide +kernel
theorem dX7_read_132 : decode cX7_read 132 = .ok (.iload 7, 2) := by decide +kernel
theorem dX7_read_134 : decode cX7_read 134 = .ok (.imul, 1) := by decide +kernel
theorem dX7_read_135 : decode cX7_read 135 = .ok (.iadd, 1) := by decide +kernel
theorem dX7_read_136 : decode cX7_read 136 = .ok (.aload_n 0, 1) := by decide +kernel
theorem dX7_read_137 : decode cX7_read 137 = .ok (.getfield 43, 3) := by decide +kernel
theorem dX7_read_140 : decode cX7_read 140 = .ok (.invokevirtual 246, 3) := by decide +kernel
theorem dX7_read_143 : decode cX7_read 143 = .ok (.aload_n 0, 1) := by decide +kernel
theorem dX7_read_144 : decode cX7_read 144 = .ok (.invokevirtual 186, 3) := by decide +kernel
theorem dX7_read_147 : decode cX7_read 147 = .ok (.aload_n 0, 1) := by decide +kernel
theorem dX7_read_148 : decode cX7_read 148 = .ok (.invokevirtual 189, 3) := by decide +kernel
theorem dX7_read_151 : decode cX7_read 151 = .ok (.pop, 1) := by decide +kernel
theorem dX7_read_152 : decode cX7_read 152 = .ok (.iinc 7 1, 3) := by decide +kernel
theorem dX7_read_155 : decode cX7_read 155 = .ok (.goto (-38), 3) := by decide +kernel
theorem dX7_read_158 : decode cX7_read 158 = .ok (.aload_n 0, 1) := by decide +kernel
theorem dX7_read_159 : decode cX7_read 159 = .ok (.iload 6, 2) := by decide +kernel
theorem dX7_read_161 : decode cX7_read 161 = .ok (.putfield 250, 3) := by decide +kernel
theorem dX7_read_164 : decode cX7_read 164 = .ok (.iload 5, 2) := by decide +kernel
theorem dX7_read_166 : decode cX7_read 166 = .ok (.ireturn, 1) := by decide +kernel
theorem dX7_torn_0 : decode cX7_torn 0 = .ok (.aload_n 0, 1) := by decide +kernel
theorem dX7_torn_1 : decode cX7_torn 1 = .ok (.getfield 250, 3) := by decide +kernel
theorem dX7_torn_4 : decode cX7_torn 4 = .ok (.ireturn, 1) := by decide +kernel
theorem dX7_count_0 : decode cX7_count 0 = .ok (.iload_n 1, 1) := by decide +kernel
theorem dX7_count_1 : decode cX7_count 1 = .ok (.tableswitch 91 0 4 #[35, 40, 48, 75, 83], 35) := by decide +kernel
theorem dX7_count_36 : decode cX7_count 36 = .ok (.aload_n 0, 1) := by decide +kernel
theorem dX7_count_37 : decode cX7_count 37 = .ok (.invokevirtual 253, 3) := by decide +kernel
theorem dX7_count_40 : decode cX7_count 40 = .ok (.ireturn, 1) := by decide +kernel
theorem dX7_count_41 : decode cX7_count 41 = .ok (.aload_n 0, 1) := by decide +kernel
theorem dX7_count_42 : decode cX7_count 42 = .ok (.getfield 10, 3) := by decide +kernel
theorem dX7_count_45 : decode cX7_count 45 = .ok (.getfield 76, 3) := by decide +kernel
theorem dX7_count_48 : decode cX7_count 48 = .ok (.ireturn, 1) := by decide +kernel
theorem dX7_count_49 : decode cX7_count 49 = .ok (.aload_n 0, 1) := by decide +kernel
theorem dX7_count_50 : decode cX7_count 50 = .ok (.getfield 67, 3) := by decide +kernel
theorem dX7_count_53 : decode cX7_count 53 = .ok (.iconst 0, 1) := by decide +kernel
theorem dX7_count_54 : decode cX7_count 54 = .ok (.aaload, 1) := by decide +kernel
theorem dX7_count_55 : decode cX7_count 55 = .ok (.invokevirtual 256, 3) := by decide +kernel
theorem dX7_count_58 : decode cX7_count 58 = .ok (.ifCond .eq 8, 3) := by decide +kernel
theorem dX7_count_61 : decode cX7_count 61 = .ok (.bipush (-4), 2) := by decide +kernel
theorem dX7_count_63 : decode cX7_count 63 = .ok (.goto 12, 3) := by decide +kernel
theorem dX7_count_66 : decode cX7_count 66 = .ok (.aload_n 0, 1) := by decide +kernel
theorem dX7_count_67 : decode cX7_count 67 = .ok (.getfield 67, 3) := by decide +kernel
theorem dX7_count_70 : decode cX7_count 70 = .ok (.iconst 0, 1) := by decide +kernel
theorem dX7_count_71 : decode cX7_count 71 = .ok (.aaload, 1) := by decide +kernel
theorem dX7_count_72 : decode cX7_count 72 = .ok (.getfield 259, 3) := by decide +kernel
theorem dX7_count_75 : decode cX7_count 75 = .ok (.ireturn, 1) := by decide +kernel
theorem dX7_count_76 : decode cX7_count 76 = .ok (.aload_n 0, 1) := by decide +kernel
theorem dX7_count_77 : decode cX7_count 77 = .ok (.getfield 26, 3) := by decide +kernel
theorem dX7_count_80 : decode cX7_count 80 = .ok (.invokevirtual 260, 3) := by decide +kernel
theorem dX7_count_83 : decode cX7_count 83 = .ok (.ireturn, 1) := by decide +kernel
theorem dX7_count_84 : decode cX7_count 84 = .ok (.aload_n 0, 1) := by decide +kernel
theorem dX7_count_85 : decode cX7_count 85 = .ok (.getfield 33, 3) := by decide +kernel
theorem dX7_count_88 : decode cX7_count 88 = .ok (.invokevirtual 263, 3) := by decide +kernel
theorem dX7_count_91 : decode cX7_count 91 = .ok (.ireturn, 1) := by decide +kernel
theorem dX7_count_92 : decode cX7_count 92 = .ok (.iconst (-1), 1) := by decide +kernel
theorem dX7_count_93 : decode cX7_count 93 = .ok (.ireturn, 1) := by decide +kernel
theorem dX7_beginWith_0 : decode cX7_beginWith 0 = .ok (.aload_n 0, 1) := by decide +kernel
theorem dX7_beginWith_1 : decode cX7_beginWith 1 = .ok (.getfield 26, 3) := by decide +kernel
theorem dX7_beginWith_4 : decode cX7_beginWith 4 = .ok (.aload_n 1, 1) := by decide +kernel
theorem dX7_beginWith_5 : decode cX7_beginWith 5 = .ok (.invokevirtual 227, 3) := by decide +kernel
theorem dX7_beginWith_8 : decode cX7_beginWith 8 = .ok (.aload_n 0, 1) := by decide +kernel
theorem dX7_beginWith_9 : decode cX7_beginWith 9 = .ok (.getfield 33, 3) := by decide +kernel
theorem dX7_beginWith_12 : decode cX7_beginWith 12 = .ok (.aload_n 0, 1) := by decide +kernel
theorem dX7_beginWith_13 : decode cX7_beginWith 13 = .ok (.getfield 26, 3) := by decide +kernel
theorem dX7_beginWith_16 : decode cX7_beginWith 16 = .ok (.invokevirtual 72, 3) := by decide +kernel
theorem dX7_beginWith_19 : decode cX7_beginWith 19 = .ok (.aload_n 0, 1) := by decide +kernel
theorem dX7_beginWith_20 : decode cX7_beginWith 20 = .ok (.getfield 53, 3) := by decide +kernel
theorem dX7_beginWith_23 : decode cX7_beginWith 23 = .ok (.invokevirtual 266, 3) := by decide +kernel
theorem dX7_beginWith_26 : decode cX7_beginWith 26 = .ok (.aload_n 0, 1) := by decide +kernel
theorem dX7_beginWith_27 : decode cX7_beginWith 27 = .ok (.iconst 0, 1) := by decide +kernel
theorem dX7_beginWith_28 : decode cX7_beginWith 28 = .ok (.putfield 204, 3) := by decide +kernel
theorem dX7_beginWith_31 : decode cX7_beginWith 31 = .ok (.return_, 1) := by decide +kernel
theorem dX7_remember_0 : decode cX7_remember 0 = .ok (.aload_n 0, 1) := by decide +kernel
theorem dX7_remember_1 : decode cX7_remember 1 = .ok (.getfield 47, 3) := by decide +kernel
theorem dX7_remember_4 : decode cX7_remember 4 = .ok (.aload_n 0, 1) := by decide +kernel
theorem dX7_remember_5 : decode cX7_remember 5 = .ok (.getfield 26, 3) := by decide +kernel
theorem dX7_remember_8 : decode cX7_remember 8 = .ok (.aload_n 0, 1) := by decide +kernel
theorem dX7_remember_9 : decode cX7_remember 9 = .ok (.getfield 43, 3) := by decide +kernel
theorem dX7_remember_12 : decode cX7_remember 12 = .ok (.getfield 269, 3) := by decide +kernel
theorem dX7_remember_15 : decode cX7_remember 15 = .ok (.invokevirtual 192, 3) := by decide +kernel
theorem dX7_remember_18 : decode cX7_remember 18 = .ok (.aload_n 0, 1) := by decide +kernel
theorem dX7_remember_19 : decode cX7_remember 19 = .ok (.getfield 53, 3) := by decide +kernel
theorem dX7_remember_22 : decode cX7_remember 22 = .ok (.aload_n 0, 1) := by decide +kernel
theorem dX7_remember_23 : decode cX7_remember 23 = .ok (.getfield 47, 3) := by decide +kernel
theorem dX7_remember_26 : decode cX7_remember 26 = .ok (.invokevirtual 272, 3) := by decide +kernel
theorem dX7_remember_29 : decode cX7_remember 29 = .ok (.return_, 1) := by decide +kernel
theorem dX7_make_0 : decode cX7_make 0 = .ok (.aload_n 0, 1) := by decide +kernel
theorem dX7_make_1 : decode cX7_make 1 = .ok (.getfield 26, 3) := by decide +kernel
theorem dX7_make_4 : decode cX7_make 4 = .ok (.aload_n 0, 1) := by decide +kernel
theorem dX7_make_5 : decode cX7_make 5 = .ok (.getfield 43, 3) := by decide +kernel
theorem dX7_make_8 : decode cX7_make 8 = .ok (.invokevirtual 196, 3) := by decide +kernel
theorem dX7_make_11 : decode cX7_make 11 = .ok (.aload_n 0, 1) := by decide +kernel
theorem dX7_make_12 : decode cX7_make 12 = .ok (.getfield 37, 3) := by decide +kernel
theorem dX7_make_15 : decode cX7_make 15 = .ok (.aload_n 0, 1) := by decide +kernel
theorem dX7_make_16 : decode cX7_make 16 = .ok (.getfield 26, 3) := by decide +kernel
theorem dX7_make_19 : decode cX7_make 19 = .ok (.invokevirtual 72, 3) := by decide +kernel
theorem dX7_make_22 : decode cX7_make 22 = .ok (.aload_n 0, 1) := by decide +kernel
theorem dX7_make_23 : decode cX7_make 23 = .ok (.aload_n 0, 1) := by decide +kernel
theorem dX7_make_24 : decode cX7_make 24 = .ok (.getfield 33, 3) := by decide +kernel
theorem dX7_make_27 : decode cX7_make 27 = .ok (.aload_n 0, 1) := by decide +kernel
theorem dX7_make_28 : decode cX7_make 28 = .ok (.getfield 37, 3) := by decide +kernel
theorem dX7_make_31 : decode cX7_make 31 = .ok (.invokevirtual 200, 3) := by decide +kernel
theorem dX7_make_34 : decode cX7_make 34 = .ok (.putfield 211, 3) := by decide +kernel
theorem dX7_make_37 : decode cX7_make 37 = .ok (.aload_n 0, 1) := by decide +kernel
theorem dX7_make_38 : decode cX7_make 38 = .ok (.aload_n 0, 1) := by decide +kernel
theorem dX7_make_39 : decode cX7_make 39 = .ok (.getfield 33, 3) := by decide +kernel
theorem dX7_make_42 : decode cX7_make 42 = .ok (.aload_n 0, 1) := by decide +kernel
theorem dX7_make_43 : decode cX7_make 43 = .ok (.getfield 211, 3) := by decide +kernel
theorem dX7_make_46 : decode cX7_make 46 = .ok (.invokevirtual 157, 3) := by decide +kernel
theorem dX7_make_49 : decode cX7_make 49 = .ok (.aload_n 0, 1) := by decide +kernel
theorem dX7_make_50 : decode cX7_make 50 = .ok (.getfield 43, 3) := by decide +kernel
theorem dX7_make_53 : decode cX7_make 53 = .ok (.getfield 269, 3) := by decide +kernel
theorem dX7_make_56 : decode cX7_make 56 = .ok (.invokestatic 154, 3) := by decide +kernel
theorem dX7_make_59 : decode cX7_make 59 = .ok (.ior, 1) := by decide +kernel
theorem dX7_make_60 : decode cX7_make 60 = .ok (.putfield 208, 3) := by decide +kernel
theorem dX7_make_63 : decode cX7_make 63 = .ok (.aload_n 0, 1) := by decide +kernel
theorem dX7_make_64 : decode cX7_make 64 = .ok (.getfield 33, 3) := by decide +kernel
theorem dX7_make_67 : decode cX7_make 67 = .ok (.astore_n 1, 1) := by decide +kernel
theorem dX7_make_68 : decode cX7_make 68 = .ok (.aload_n 0, 1) := by decide +kernel
theorem dX7_make_69 : decode cX7_make 69 = .ok (.aload_n 0, 1) := by decide +kernel
theorem dX7_make_70 : decode cX7_make 70 = .ok (.getfield 37, 3) := by decide +kernel
theorem dX7_make_73 : decode cX7_make 73 = .ok (.putfield 33, 3) := by decide +kernel
theorem dX7_make_76 : decode cX7_make 76 = .ok (.aload_n 0, 1) := by decide +kernel
theorem dX7_make_77 : decode cX7_make 77 = .ok (.aload_n 1, 1) := by decide +kernel
theorem dX7_make_78 : decode cX7_make 78 = .ok (.putfield 37, 3) := by decide +kernel
theorem dX7_make_81 : decode cX7_make 81 = .ok (.aload_n 0, 1) := by decide +kernel
theorem dX7_make_82 : decode cX7_make 82 = .ok (.iconst 1, 1) := by decide +kernel
theorem dX7_make_83 : decode cX7_make 83 = .ok (.putfield 204, 3) := by decide +kernel
theorem dX7_make_86 : decode cX7_make 86 = .ok (.aload_n 0, 1) := by decide +kernel
theorem dX7_make_87 : decode cX7_make 87 = .ok (.getfield 208, 3) := by decide +kernel
theorem dX7_make_90 : decode cX7_make 90 = .ok (.invokestatic 110, 3) := by decide +kernel
theorem dX7_make_93 : decode cX7_make 93 = .ok (.ireturn, 1) := by decide +kernel
theorem dX7_askByDraws_0 : decode cX7_askByDraws 0 = .ok (.iload_n 1, 1) := by decide +kernel
theorem dX7_askByDraws_1 : decode cX7_askByDraws 1 = .ok (.bipush 32, 2) := by decide +kernel
theorem dX7_askByDraws_3 : decode cX7_askByDraws 3 = .ok (.idiv, 1) := by decide +kernel
theorem dX7_askByDraws_4 : decode cX7_askByDraws 4 = .ok (.bipush 9, 2) := by decide +kernel
theorem dX7_askByDraws_6 : decode cX7_askByDraws 6 = .ok (.irem, 1) := by decide +kernel
theorem dX7_askByDraws_7 : decode cX7_askByDraws 7 = .ok (.istore 4, 2) := by decide +kernel
theorem dX7_askByDraws_9 : decode cX7_askByDraws 9 = .ok (.iload_n 2, 1) := by decide +kernel
theorem dX7_askByDraws_10 : decode cX7_askByDraws 10 = .ok (.bipush 30, 2) := by decide +kernel
theorem dX7_askByDraws_12 : decode cX7_askByDraws 12 = .ok (.irem, 1) := by decide +kernel
theorem dX7_askByDraws_13 : decode cX7_askByDraws 13 = .ok (.istore 5, 2) := by decide +kernel
theorem dX7_askByDraws_15 : decode cX7_askByDraws 15 = .ok (.iload_n 2, 1) := by decide +kernel
theorem dX7_askByDraws_16 : decode cX7_askByDraws 16 = .ok (.bipush 32, 2) := by decide +kernel
theorem dX7_askByDraws_18 : decode cX7_askByDraws 18 = .ok (.idiv, 1) := by decide +kernel
theorem dX7_askByDraws_19 : decode cX7_askByDraws 19 = .ok (.bipush 30, 2) := by decide +kernel
theorem dX7_askByDraws_21 : decode cX7_askByDraws 21 = .ok (.irem, 1) := by decide +kernel
theorem dX7_askByDraws_22 : decode cX7_askByDraws 22 = .ok (.istore 6, 2) := by decide +kernel
theorem dX7_askByDraws_24 : decode cX7_askByDraws 24 = .ok (.iload 4, 2) := by decide +kernel
theorem dX7_askByDraws_26 : decode cX7_askByDraws 26 = .ok (.invokestatic 275, 3) := by decide +kernel
theorem dX7_askByDraws_29 : decode cX7_askByDraws 29 = .ok (.ifCond .eq 34, 3) := by decide +kernel
theorem dX7_askByDraws_32 : decode cX7_askByDraws 32 = .ok (.aload_n 0, 1) := by decide +kernel
theorem dX7_askByDraws_33 : decode cX7_askByDraws 33 = .ok (.getfield 43, 3) := by decide +kernel
theorem dX7_askByDraws_36 : decode cX7_askByDraws 36 = .ok (.iload_n 1, 1) := by decide +kernel
theorem dX7_askByDraws_37 : decode cX7_askByDraws 37 = .ok (.bipush 30, 2) := by decide +kernel
theorem dX7_askByDraws_39 : decode cX7_askByDraws 39 = .ok (.irem, 1) := by decide +kernel
theorem dX7_askByDraws_40 : decode cX7_askByDraws 40 = .ok (.iload 4, 2) := by decide +kernel
theorem dX7_askByDraws_42 : decode cX7_askByDraws 42 = .ok (.iload 5, 2) := by decide +kernel
theorem dX7_askByDraws_44 : decode cX7_askByDraws 44 = .ok (.iload 6, 2) := by decide +kernel
theorem dX7_askByDraws_46 : decode cX7_askByDraws 46 = .ok (.invokestatic 278, 3) := by decide +kernel
theorem dX7_askByDraws_49 : decode cX7_askByDraws 49 = .ok (.iload 5, 2) := by decide +kernel
theorem dX7_askByDraws_51 : decode cX7_askByDraws 51 = .ok (.iload 6, 2) := by decide +kernel
theorem dX7_askByDraws_53 : decode cX7_askByDraws 53 = .ok (.invokestatic 283, 3) := by decide +kernel
theorem dX7_askByDraws_56 : decode cX7_askByDraws 56 = .ok (.iconst 0, 1) := by decide +kernel
theorem dX7_askByDraws_57 : decode cX7_askByDraws 57 = .ok (.invokevirtual 178, 3) := by decide +kernel
theorem dX7_askByDraws_60 : decode cX7_askByDraws 60 = .ok (.goto 24, 3) := by decide +kernel
theorem dX7_askByDraws_63 : decode cX7_askByDraws 63 = .ok (.aload_n 0, 1) := by decide +kernel
theorem dX7_askByDraws_64 : decode cX7_askByDraws 64 = .ok (.getfield 43, 3) := by decide +kernel
theorem dX7_askByDraws_67 : decode cX7_askByDraws 67 = .ok (.iload_n 1, 1) := by decide +kernel
theorem dX7_askByDraws_68 : decode cX7_askByDraws 68 = .ok (.bipush 30, 2) := by decide +kernel
theorem dX7_askByDraws_70 : decode cX7_askByDraws 70 = .ok (.irem, 1) := by decide +kernel
theorem dX7_askByDraws_71 : decode cX7_askByDraws 71 = .ok (.iload 4, 2) := by decide +kernel
theorem dX7_askByDraws_73 : decode cX7_askByDraws 73 = .ok (.iload 5, 2) := by decide +kernel
theorem dX7_askByDraws_75 : decode cX7_askByDraws 75 = .ok (.iload 6, 2) := by decide +kernel
theorem dX7_askByDraws_77 : decode cX7_askByDraws 77 = .ok (.iload_n 3, 1) := by decide +kernel
theorem dX7_askByDraws_78 : decode cX7_askByDraws 78 = .ok (.bipush 30, 2) := by decide +kernel
theorem dX7_askByDraws_80 : decode cX7_askByDraws 80 = .ok (.irem, 1) := by decide +kernel
theorem dX7_askByDraws_81 : decode cX7_askByDraws 81 = .ok (.invokevirtual 178, 3) := by decide +kernel
theorem dX7_askByDraws_84 : decode cX7_askByDraws 84 = .ok (.return_, 1) := by decide +kernel
theorem dX7_countImages_0 : decode cX7_countImages 0 = .ok (.iconst 0, 1) := by decide +kernel
theorem dX7_countImages_1 : decode cX7_countImages 1 = .ok (.istore_n 1, 1) := by decide +kernel
theorem dX7_countImages_2 : decode cX7_countImages 2 = .ok (.iconst 0, 1) := by decide +kernel
theorem dX7_countImages_3 : decode cX7_countImages 3 = .ok (.istore_n 2, 1) := by decide +kernel
theorem dX7_countImages_4 : decode cX7_countImages 4 = .ok (.iload_n 2, 1) := by decide +kernel
theorem dX7_countImages_5 : decode cX7_countImages 5 = .ok (.iconst 2, 1) := by decide +kernel
theorem dX7_countImages_6 : decode cX7_countImages 6 = .ok (.if_icmp .ge 26, 3) := by decide +kernel
theorem dX7_countImages_9 : decode cX7_countImages 9 = .ok (.iload_n 1, 1) := by decide +kernel
theorem dX7_countImages_10 : decode cX7_countImages 10 = .ok (.aload_n 0, 1) := by decide +kernel
theorem dX7_countImages_11 : decode cX7_countImages 11 = .ok (.getfield 61, 3) := by decide +kernel
theorem dX7_countImages_14 : decode cX7_countImages 14 = .ok (.iload_n 2, 1) := by decide +kernel
theorem dX7_countImages_15 : decode cX7_countImages 15 = .ok (.baload, 1) := by decide +kernel
theorem dX7_countImages_16 : decode cX7_countImages 16 = .ok (.ifCond .eq 7, 3) := by decide +kernel
theorem dX7_countImages_19 : decode cX7_countImages 19 = .ok (.iconst 1, 1) := by decide +kernel
theorem dX7_countImages_20 : decode cX7_countImages 20 = .ok (.goto 4, 3) := by decide +kernel
theorem dX7_countImages_23 : decode cX7_countImages 23 = .ok (.iconst 0, 1) := by decide +kernel
theorem dX7_countImages_24 : decode cX7_countImages 24 = .ok (.iadd, 1) := by decide +kernel
theorem dX7_countImages_25 : decode cX7_countImages 25 = .ok (.istore_n 1, 1) := by decide +kernel
theorem dX7_countImages_26 : decode cX7_countImages 26 = .ok (.iinc 2 1, 3) := by decide +kernel
theorem dX7_countImages_29 : decode cX7_countImages 29 = .ok (.goto (-25), 3) := by decide +kernel
theorem dX7_countImages_32 : decode cX7_countImages 32 = .ok (.iload_n 1, 1) := by decide +kernel
theorem dX7_countImages_33 : decode cX7_countImages 33 = .ok (.ireturn, 1) := by decide +kernel
theorem dX7_stir_0 : decode cX7_stir 0 = .ok (.iload_n 0, 1) := by decide +kernel
theorem dX7_stir_1 : decode cX7_stir 1 = .ok (.ldc_w 286, 3) := by decide +kernel
theorem dX7_stir_4 : decode cX7_stir 4 = .ok (.imul, 1) := by decide +kernel
theorem dX7_stir_5 : decode cX7_stir 5 = .ok (.sipush 12345, 3) := by decide +kernel
theorem dX7_stir_8 : decode cX7_stir 8 = .ok (.iadd, 1) := by decide +kernel
theorem dX7_stir_9 : decode cX7_stir 9 = .ok (.ireturn, 1) := by decide +kernel
theorem dX7_drawn_0 : decode cX7_drawn 0 = .ok (.iload_n 0, 1) := by decide +kernel
theorem dX7_drawn_1 : decode cX7_drawn 1 = .ok (.bipush 16, 2) := by decide +kernel
theorem dX7_drawn_3 : decode cX7_drawn 3 = .ok (.iushr, 1) := by decide +kernel
theorem dX7_drawn_4 : decode cX7_drawn 4 = .ok (.sipush 32767, 3) := by decide +kernel
theorem dX7_drawn_7 : decode cX7_drawn 7 = .ok (.iand, 1) := by decide +kernel
theorem dX7_drawn_8 : decode cX7_drawn 8 = .ok (.ireturn, 1) := by decide +kernel
theorem dX7_isCell_0 : decode cX7_isCell 0 = .ok (.iload_n 0, 1) := by decide +kernel
theorem dX7_isCell_1 : decode cX7_isCell 1 = .ok (.ifCond .lt 13, 3) := by decide +kernel
theorem dX7_isCell_4 : decode cX7_isCell 4 = .ok (.iload_n 0, 1) := by decide +kernel
theorem dX7_isCell_5 : decode cX7_isCell 5 = .ok (.bipush 30, 2) := by decide +kernel
theorem dX7_isCell_7 : decode cX7_isCell 7 = .ok (.if_icmp .ge 7, 3) := by decide +kernel
theorem dX7_isCell_10 : decode cX7_isCell 10 = .ok (.iconst 1, 1) := by decide +kernel
theorem dX7_isCell_11 : decode cX7_isCell 11 = .ok (.goto 4, 3) := by decide +kernel
theorem dX7_isCell_14 : decode cX7_isCell 14 = .ok (.iconst 0, 1) := by decide +kernel
theorem dX7_isCell_15 : decode cX7_isCell 15 = .ok (.ireturn, 1) := by decide +kernel
theorem dX7_isSpan_0 : decode cX7_isSpan 0 = .ok (.iload_n 0, 1) := by decide +kernel
theorem dX7_isSpan_1 : decode cX7_isSpan 1 = .ok (.bipush 6, 2) := by decide +kernel
theorem dX7_isSpan_3 : decode cX7_isSpan 3 = .ok (.if_icmp .eq 9, 3) := by decide +kernel
theorem dX7_isSpan_6 : decode cX7_isSpan 6 = .ok (.iload_n 0, 1) := by decide +kernel
theorem dX7_isSpan_7 : decode cX7_isSpan 7 = .ok (.bipush 7, 2) := by decide +kernel
theorem dX7_isSpan_9 : decode cX7_isSpan 9 = .ok (.if_icmp .ne 7, 3) := by decide +kernel
theorem dX7_isSpan_12 : decode cX7_isSpan 12 = .ok (.iconst 1, 1) := by decide +kernel
theorem dX7_isSpan_13 : decode cX7_isSpan 13 = .ok (.goto 4, 3) := by decide +kernel
theorem dX7_isSpan_16 : decode cX7_isSpan 16 = .ok (.iconst 0, 1) := by decide +kernel
theorem dX7_isSpan_17 : decode cX7_isSpan 17 = .ok (.ireturn, 1) := by decide +kernel
theorem dX7_operandsOf_0 : decode cX7_operandsOf 0 = .ok (.iload_n 0, 1) := by decide +kernel
theorem dX7_operandsOf_1 : decode cX7_operandsOf 1 = .ok (.ifCond .lt 17, 3) := by decide +kernel
theorem dX7_operandsOf_4 : decode cX7_operandsOf 4 = .ok (.iload_n 0, 1) := by decide +kernel
theorem dX7_operandsOf_5 : decode cX7_operandsOf 5 = .ok (.bipush 9, 2) := by decide +kernel
theorem dX7_operandsOf_7 : decode cX7_operandsOf 7 = .ok (.if_icmp .ge 11, 3) := by decide +kernel
theorem dX7_operandsOf_10 : decode cX7_operandsOf 10 = .ok (.getstatic 287, 3) := by decide +kernel
theorem dX7_operandsOf_13 : decode cX7_operandsOf 13 = .ok (.iload_n 0, 1) := by decide +kernel
theorem dX7_operandsOf_14 : decode cX7_operandsOf 14 = .ok (.iaload, 1) := by decide +kernel
theorem dX7_operandsOf_15 : decode cX7_operandsOf 15 = .ok (.goto 4, 3) := by decide +kernel
theorem dX7_operandsOf_18 : decode cX7_operandsOf 18 = .ok (.iconst 0, 1) := by decide +kernel
theorem dX7_operandsOf_19 : decode cX7_operandsOf 19 = .ok (.ireturn, 1) := by decide +kernel
theorem dX7_bit_0 : decode cX7_bit 0 = .ok (.iconst 1, 1) := by decide +kernel
theorem dX7_bit_1 : decode cX7_bit 1 = .ok (.iload_n 0, 1) := by decide +kernel
theorem dX7_bit_2 : decode cX7_bit 2 = .ok (.ishl, 1) := by decide +kernel
theorem dX7_bit_3 : decode cX7_bit 3 = .ok (.ireturn, 1) := by decide +kernel
theorem dX7_has_0 : decode cX7_has 0 = .ok (.iload_n 0, 1) := by decide +kernel
theorem dX7_has_1 : decode cX7_has 1 = .ok (.iload_n 1, 1) := by decide +kernel
theorem dX7_has_2 : decode cX7_has 2 = .ok (.iushr, 1) := by decide +kernel
theorem dX7_has_3 : decode cX7_has 3 = .ok (.iconst 1, 1) := by decide +kernel
theorem dX7_has_4 : decode cX7_has 4 = .ok (.iand, 1) := by decide +kernel
theorem dX7_has_5 : decode cX7_has 5 = .ok (.ifCond .eq 7, 3) := by decide +kernel
theorem dX7_has_8 : decode cX7_has 8 = .ok (.iconst 1, 1) := by decide +kernel
theorem dX7_has_9 : decode cX7_has 9 = .ok (.goto 4, 3) := by decide +kernel
theorem dX7_has_12 : decode cX7_has 12 = .ok (.iconst 0, 1) := by decide +kernel
theorem dX7_has_13 : decode cX7_has 13 = .ok (.ireturn, 1) := by decide +kernel
theorem dX7_nthOf_0 : decode cX7_nthOf 0 = .ok (.iconst 0, 1) := by decide +kernel
theorem dX7_nthOf_1 : decode cX7_nthOf 1 = .ok (.istore_n 2, 1) := by decide +kernel
theorem dX7_nthOf_2 : decode cX7_nthOf 2 = .ok (.iconst 0, 1) := by decide +kernel
theorem dX7_nthOf_3 : decode cX7_nthOf 3 = .ok (.istore_n 3, 1) := by decide +kernel
theorem dX7_nthOf_4 : decode cX7_nthOf 4 = .ok (.iload_n 3, 1) := by decide +kernel
theorem dX7_nthOf_5 : decode cX7_nthOf 5 = .ok (.bipush 30, 2) := by decide +kernel
theorem dX7_nthOf_7 : decode cX7_nthOf 7 = .ok (.if_icmp .ge 27, 3) := by decide +kernel
theorem dX7_nthOf_10 : decode cX7_nthOf 10 = .ok (.iload_n 0, 1) := by decide +kernel
theorem dX7_nthOf_11 : decode cX7_nthOf 11 = .ok (.iload_n 3, 1) := by decide +kernel
theorem dX7_nthOf_12 : decode cX7_nthOf 12 = .ok (.invokestatic 140, 3) := by decide +kernel
theorem dX7_nthOf_15 : decode cX7_nthOf 15 = .ok (.ifCond .eq 13, 3) := by decide +kernel
theorem dX7_nthOf_18 : decode cX7_nthOf 18 = .ok (.iload_n 2, 1) := by decide +kernel
theorem dX7_nthOf_19 : decode cX7_nthOf 19 = .ok (.iload_n 1, 1) := by decide +kernel
theorem dX7_nthOf_20 : decode cX7_nthOf 20 = .ok (.if_icmp .ne 5, 3) := by decide +kernel
theorem dX7_nthOf_23 : decode cX7_nthOf 23 = .ok (.iload_n 3, 1) := by decide +kernel
theorem dX7_nthOf_24 : decode cX7_nthOf 24 = .ok (.ireturn, 1) := by decide +kernel
theorem dX7_nthOf_25 : decode cX7_nthOf 25 = .ok (.iinc 2 1, 3) := by decide +kernel
theorem dX7_nthOf_28 : decode cX7_nthOf 28 = .ok (.iinc 3 1, 3) := by decide +kernel
theorem dX7_nthOf_31 : decode cX7_nthOf 31 = .ok (.goto (-27), 3) := by decide +kernel
theorem dX7_nthOf_34 : decode cX7_nthOf 34 = .ok (.bipush (-4), 2) := by decide +kernel
theorem dX7_nthOf_36 : decode cX7_nthOf 36 = .ok (.ireturn, 1) := by decide +kernel
