theorem dX0_init_0 : decode cX0_init 0 = .ok (.aload_n 0, 1) := by decide +kernel
theorem dX0_init_1 : decode cX0_init 1 = .ok (.invokespecial 3, 3) := by decide +kernel
theorem dX0_init_4 : decode cX0_init 4 = .ok (.return_, 1) := by decide +kernel
theorem dX0_tell_0 : decode cX0_tell 0 = .ok (.aload_n 0, 1) := by decide +kernel
theorem dX0_tell_1 : decode cX0_tell 1 = .ok (.iload_n 1, 1) := by decide +kernel
theorem dX0_tell_2 : decode cX0_tell 2 = .ok (.putfield 9, 3) := by decide +kernel
theorem dX0_tell_5 : decode cX0_tell 5 = .ok (.aload_n 0, 1) := by decide +kernel
theorem dX0_tell_6 : decode cX0_tell 6 = .ok (.iload_n 2, 1) := by decide +kernel
theorem dX0_tell_7 : decode cX0_tell 7 = .ok (.putfield 15, 3) := by decide +kernel
theorem dX0_tell_10 : decode cX0_tell 10 = .ok (.aload_n 0, 1) := by decide +kernel
theorem dX0_tell_11 : decode cX0_tell 11 = .ok (.iload_n 3, 1) := by decide +kernel
theorem dX0_tell_12 : decode cX0_tell 12 = .ok (.putfield 18, 3) := by decide +kernel
theorem dX0_tell_15 : decode cX0_tell 15 = .ok (.aload_n 0, 1) := by decide +kernel
theorem dX0_tell_16 : decode cX0_tell 16 = .ok (.iload 4, 2) := by decide +kernel
theorem dX0_tell_18 : decode cX0_tell 18 = .ok (.putfield 21, 3) := by decide +kernel
theorem dX0_tell_21 : decode cX0_tell 21 = .ok (.aload_n 0, 1) := by decide +kernel
theorem dX0_tell_22 : decode cX0_tell 22 = .ok (.iload 5, 2) := by decide +kernel
theorem dX0_tell_24 : decode cX0_tell 24 = .ok (.putfield 24, 3) := by decide +kernel
theorem dX0_tell_27 : decode cX0_tell 27 = .ok (.return_, 1) := by decide +kernel
theorem dX0_tellAsIn_0 : decode cX0_tellAsIn 0 = .ok (.aload_n 0, 1) := by decide +kernel
theorem dX0_tellAsIn_1 : decode cX0_tellAsIn 1 = .ok (.iload_n 2, 1) := by decide +kernel
theorem dX0_tellAsIn_2 : decode cX0_tellAsIn 2 = .ok (.aload_n 1, 1) := by decide +kernel
theorem dX0_tellAsIn_3 : decode cX0_tellAsIn 3 = .ok (.iload_n 2, 1) := by decide +kernel
theorem dX0_tellAsIn_4 : decode cX0_tellAsIn 4 = .ok (.iconst 0, 1) := by decide +kernel
theorem dX0_tellAsIn_5 : decode cX0_tellAsIn 5 = .ok (.invokevirtual 27, 3) := by decide +kernel
theorem dX0_tellAsIn_8 : decode cX0_tellAsIn 8 = .ok (.aload_n 1, 1) := by decide +kernel
theorem dX0_tellAsIn_9 : decode cX0_tellAsIn 9 = .ok (.iload_n 2, 1) := by decide +kernel
theorem dX0_tellAsIn_10 : decode cX0_tellAsIn 10 = .ok (.iconst 1, 1) := by decide +kernel
theorem dX0_tellAsIn_11 : decode cX0_tellAsIn 11 = .ok (.invokevirtual 27, 3) := by decide +kernel
theorem dX0_tellAsIn_14 : decode cX0_tellAsIn 14 = .ok (.aload_n 1, 1) := by decide +kernel
theorem dX0_tellAsIn_15 : decode cX0_tellAsIn 15 = .ok (.iload_n 2, 1) := by decide +kernel
theorem dX0_tellAsIn_16 : decode cX0_tellAsIn 16 = .ok (.iconst 2, 1) := by decide +kernel
theorem dX0_tellAsIn_17 : decode cX0_tellAsIn 17 = .ok (.invokevirtual 27, 3) := by decide +kernel
theorem dX0_tellAsIn_20 : decode cX0_tellAsIn 20 = .ok (.aload_n 1, 1) := by decide +kernel
theorem dX0_tellAsIn_21 : decode cX0_tellAsIn 21 = .ok (.iload_n 2, 1) := by decide +kernel
theorem dX0_tellAsIn_22 : decode cX0_tellAsIn 22 = .ok (.iconst 3, 1) := by decide +kernel
theorem dX0_tellAsIn_23 : decode cX0_tellAsIn 23 = .ok (.invokevirtual 27, 3) := by decide +kernel
theorem dX0_tellAsIn_26 : decode cX0_tellAsIn 26 = .ok (.invokevirtual 33, 3) := by decide +kernel
theorem dX0_tellAsIn_29 : decode cX0_tellAsIn 29 = .ok (.return_, 1) := by decide +kernel
theorem dX0_isAllowed_0 : decode cX0_isAllowed 0 = .ok (.aload_n 0, 1) := by decide +kernel
theorem dX0_isAllowed_1 : decode cX0_isAllowed 1 = .ok (.getfield 9, 3) := by decide +kernel
theorem dX0_isAllowed_4 : decode cX0_isAllowed 4 = .ok (.invokestatic 37, 3) := by decide +kernel
theorem dX0_isAllowed_7 : decode cX0_isAllowed 7 = .ok (.ifCond .eq 30, 3) := by decide +kernel
theorem dX0_isAllowed_10 : decode cX0_isAllowed 10 = .ok (.aload_n 0, 1) := by decide +kernel
theorem dX0_isAllowed_11 : decode cX0_isAllowed 11 = .ok (.getfield 15, 3) := by decide +kernel
theorem dX0_isAllowed_14 : decode cX0_isAllowed 14 = .ok (.ifCond .lt 23, 3) := by decide +kernel
theorem dX0_isAllowed_17 : decode cX0_isAllowed 17 = .ok (.aload_n 0, 1) := by decide +kernel
theorem dX0_isAllowed_18 : decode cX0_isAllowed 18 = .ok (.getfield 15, 3) := by decide +kernel
theorem dX0_isAllowed_21 : decode cX0_isAllowed 21 = .ok (.bipush 9, 2) := by decide +kernel
theorem dX0_isAllowed_23 : decode cX0_isAllowed 23 = .ok (.if_icmp .ge 14, 3) := by decide +kernel
theorem dX0_isAllowed_26 : decode cX0_isAllowed 26 = .ok (.aload_n 0, 1) := by decide +kernel
theorem dX0_isAllowed_27 : decode cX0_isAllowed 27 = .ok (.invokevirtual 41, 3) := by decide +kernel
theorem dX0_isAllowed_30 : decode cX0_isAllowed 30 = .ok (.ifCond .eq 7, 3) := by decide +kernel
theorem dX0_isAllowed_33 : decode cX0_isAllowed 33 = .ok (.iconst 1, 1) := by decide +kernel
theorem dX0_isAllowed_34 : decode cX0_isAllowed 34 = .ok (.goto 4, 3) := by decide +kernel
theorem dX0_isAllowed_37 : decode cX0_isAllowed 37 = .ok (.iconst 0, 1) := by decide +kernel
theorem dX0_isAllowed_38 : decode cX0_isAllowed 38 = .ok (.ireturn, 1) := by decide +kernel
theorem dX0_operandsFit_0 : decode cX0_operandsFit 0 = .ok (.aload_n 0, 1) := by decide +kernel
theorem dX0_operandsFit_1 : decode cX0_operandsFit 1 = .ok (.getfield 15, 3) := by decide +kernel
theorem dX0_operandsFit_4 : decode cX0_operandsFit 4 = .ok (.iconst 1, 1) := by decide +kernel
theorem dX0_operandsFit_5 : decode cX0_operandsFit 5 = .ok (.if_icmp .ne 26, 3) := by decide +kernel
theorem dX0_operandsFit_8 : decode cX0_operandsFit 8 = .ok (.aload_n 0, 1) := by decide +kernel
theorem dX0_operandsFit_9 : decode cX0_operandsFit 9 = .ok (.getfield 18, 3) := by decide +kernel
theorem dX0_operandsFit_12 : decode cX0_operandsFit 12 = .ok (.ifCond .lt 17, 3) := by decide +kernel
theorem dX0_operandsFit_15 : decode cX0_operandsFit 15 = .ok (.aload_n 0, 1) := by decide +kernel
theorem dX0_operandsFit_16 : decode cX0_operandsFit 16 = .ok (.getfield 18, 3) := by decide +kernel
theorem dX0_operandsFit_19 : decode cX0_operandsFit 19 = .ok (.sipush 999, 3) := by decide +kernel
theorem dX0_operandsFit_22 : decode cX0_operandsFit 22 = .ok (.if_icmp .gt 7, 3) := by decide +kernel
theorem dX0_operandsFit_25 : decode cX0_operandsFit 25 = .ok (.iconst 1, 1) := by decide +kernel
theorem dX0_operandsFit_26 : decode cX0_operandsFit 26 = .ok (.goto 4, 3) := by decide +kernel
theorem dX0_operandsFit_29 : decode cX0_operandsFit 29 = .ok (.iconst 0, 1) := by decide +kernel
theorem dX0_operandsFit_30 : decode cX0_operandsFit 30 = .ok (.ireturn, 1) := by decide +kernel
theorem dX0_operandsFit_31 : decode cX0_operandsFit 31 = .ok (.aload_n 0, 1) := by decide +kernel
theorem dX0_operandsFit_32 : decode cX0_operandsFit 32 = .ok (.getfield 15, 3) := by decide +kernel
theorem dX0_operandsFit_35 : decode cX0_operandsFit 35 = .ok (.invokestatic 45, 3) := by decide +kernel
theorem dX0_operandsFit_38 : decode cX0_operandsFit 38 = .ok (.istore_n 1, 1) := by decide +kernel
theorem dX0_operandsFit_39 : decode cX0_operandsFit 39 = .ok (.iload_n 1, 1) := by decide +kernel
theorem dX0_operandsFit_40 : decode cX0_operandsFit 40 = .ok (.iconst 1, 1) := by decide +kernel
theorem dX0_operandsFit_41 : decode cX0_operandsFit 41 = .ok (.if_icmp .lt 13, 3) := by decide +kernel
theorem dX0_operandsFit_44 : decode cX0_operandsFit 44 = .ok (.aload_n 0, 1) := by decide +kernel
theorem dX0_operandsFit_45 : decode cX0_operandsFit 45 = .ok (.getfield 18, 3) := by decide +kernel
theorem dX0_operandsFit_48 : decode cX0_operandsFit 48 = .ok (.invokestatic 37, 3) := by decide +kernel
theorem dX0_operandsFit_51 : decode cX0_operandsFit 51 = .ok (.ifCond .eq 37, 3) := by decide +kernel
theorem dX0_operandsFit_54 : decode cX0_operandsFit 54 = .ok (.iload_n 1, 1) := by decide +kernel
theorem dX0_operandsFit_55 : decode cX0_operandsFit 55 = .ok (.iconst 2, 1) := by decide +kernel
theorem dX0_operandsFit_56 : decode cX0_operandsFit 56 = .ok (.if_icmp .lt 13, 3) := by decide +kernel
theorem dX0_operandsFit_59 : decode cX0_operandsFit 59 = .ok (.aload_n 0, 1) := by decide +kernel
theorem dX0_operandsFit_60 : decode cX0_operandsFit 60 = .ok (.getfield 21, 3) := by decide +kernel
theorem dX0_operandsFit_63 : decode cX0_operandsFit 63 = .ok (.invokestatic 37, 3) := by decide +kernel
theorem dX0_operandsFit_66 : decode cX0_operandsFit 66 = .ok (.ifCond .eq 22, 3) := by decide +kernel
theorem dX0_operandsFit_69 : decode cX0_operandsFit 69 = .ok (.iload_n 1, 1) := by decide +kernel
theorem dX0_operandsFit_70 : decode cX0_operandsFit 70 = .ok (.iconst 3, 1) := by decide +kernel
theorem dX0_operandsFit_71 : decode cX0_operandsFit 71 = .ok (.if_icmp .lt 13, 3) := by decide +kernel
theorem dX0_operandsFit_74 : decode cX0_operandsFit 74 = .ok (.aload_n 0, 1) := by decide +kernel
theorem dX0_operandsFit_75 : decode cX0_operandsFit 75 = .ok (.getfield 24, 3) := by decide +kernel
theorem dX0_operandsFit_78 : decode cX0_operandsFit 78 = .ok (.invokestatic 37, 3) := by decide +kernel
theorem dX0_operandsFit_81 : decode cX0_operandsFit 81 = .ok (.ifCond .eq 7, 3) := by decide +kernel
theorem dX0_operandsFit_84 : decode cX0_operandsFit 84 = .ok (.iconst 1, 1) := by decide +kernel
theorem dX0_operandsFit_85 : decode cX0_operandsFit 85 = .ok (.goto 4, 3) := by decide +kernel
theorem dX0_operandsFit_88 : decode cX0_operandsFit 88 = .ok (.iconst 0, 1) := by decide +kernel
theorem dX0_operandsFit_89 : decode cX0_operandsFit 89 = .ok (.istore_n 2, 1) := by decide +kernel
theorem dX0_operandsFit_90 : decode cX0_operandsFit 90 = .ok (.iload_n 2, 1) := by decide +kernel
theorem dX0_operandsFit_91 : decode cX0_operandsFit 91 = .ok (.ifCond .eq 28, 3) := by decide +kernel
theorem dX0_operandsFit_94 : decode cX0_operandsFit 94 = .ok (.aload_n 0, 1) := by decide +kernel
theorem dX0_operandsFit_95 : decode cX0_operandsFit 95 = .ok (.getfield 15, 3) := by decide +kernel
theorem dX0_operandsFit_98 : decode cX0_operandsFit 98 = .ok (.invokestatic 49, 3) := by decide +kernel
theorem dX0_operandsFit_101 : decode cX0_operandsFit 101 = .ok (.ifCond .eq 14, 3) := by decide +kernel
theorem dX0_operandsFit_104 : decode cX0_operandsFit 104 = .ok (.aload_n 0, 1) := by decide +kernel
theorem dX0_operandsFit_105 : decode cX0_operandsFit 105 = .ok (.getfield 18, 3) := by decide +kernel
theorem dX0_operandsFit_108 : decode cX0_operandsFit 108 = .ok (.aload_n 0, 1) := by decide +kernel
theorem dX0_operandsFit_109 : decode cX0_operandsFit 109 = .ok (.getfield 21, 3) := by decide +kernel
theorem dX0_operandsFit_112 : decode cX0_operandsFit 112 = .ok (.if_icmp .gt 7, 3) := by decide +kernel
theorem dX0_operandsFit_115 : decode cX0_operandsFit 115 = .ok (.iconst 1, 1) := by decide +kernel
theorem dX0_operandsFit_116 : decode cX0_operandsFit 116 = .ok (.goto 4, 3) := by decide +kernel
theorem dX0_operandsFit_119 : decode cX0_operandsFit 119 = .ok (.iconst 0, 1) := by decide +kernel
theorem dX0_operandsFit_120 : decode cX0_operandsFit 120 = .ok (.ireturn, 1) := by decide +kernel
theorem dX1_init_0 : decode cX1_init 0 = .ok (.aload_n 0, 1) := by decide +kernel
theorem dX1_init_1 : decode cX1_init 1 = .ok (.invokespecial 3, 3) := by decide +kernel
theorem dX1_init_4 : decode cX1_init 4 = .ok (.aload_n 0, 1) := by decide +kernel
theorem dX1_init_5 : decode cX1_init 5 = .ok (.bipush 120, 2) := by decide +kernel
theorem dX1_init_7 : decode cX1_init 7 = .ok (.newarray .int, 2) := by decide +kernel
theorem dX1_init_9 : decode cX1_init 9 = .ok (.putfield 9, 3) := by decide +kernel
theorem dX1_init_12 : decode cX1_init 12 = .ok (.return_, 1) := by decide +kernel
theorem dX1_part_0 : decode cX1_part 0 = .ok (.aload_n 0, 1) := by decide +kernel
theorem dX1_part_1 : decode cX1_part 1 = .ok (.getfield 9, 3) := by decide +kernel
theorem dX1_part_4 : decode cX1_part 4 = .ok (.iload_n 1, 1) := by decide +kernel
theorem dX1_part_5 : decode cX1_part 5 = .ok (.iconst 4, 1) := by decide +kernel
theorem dX1_part_6 : decode cX1_part 6 = .ok (.imul, 1) := by decide +kernel
theorem dX1_part_7 : decode cX1_part 7 = .ok (.iload_n 2, 1) := by decide +kernel
theorem dX1_part_8 : decode cX1_part 8 = .ok (.iadd, 1) := by decide +kernel
theorem dX1_part_9 : decode cX1_part 9 = .ok (.iaload, 1) := by decide +kernel
theorem dX1_part_10 : decode cX1_part 10 = .ok (.ireturn, 1) := by decide +kernel
theorem dX1_clear_0 : decode cX1_clear 0 = .ok (.aload_n 0, 1) := by decide +kernel
theorem dX1_clear_1 : decode cX1_clear 1 = .ok (.getfield 9, 3) := by decide +kernel
theorem dX1_clear_4 : decode cX1_clear 4 = .ok (.iconst 0, 1) := by decide +kernel
theorem dX1_clear_5 : decode cX1_clear 5 = .ok (.invokestatic 15, 3) := by decide +kernel
theorem dX1_clear_8 : decode cX1_clear 8 = .ok (.return_, 1) := by decide +kernel
theorem dX1_become_0 : decode cX1_become 0 = .ok (.aload_n 1, 1) := by decide +kernel
theorem dX1_become_1 : decode cX1_become 1 = .ok (.getfield 9, 3) := by decide +kernel
theorem dX1_become_4 : decode cX1_become 4 = .ok (.iconst 0, 1) := by decide +kernel
theorem dX1_become_5 : decode cX1_become 5 = .ok (.aload_n 0, 1) := by decide +kernel
theorem dX1_become_6 : decode cX1_become 6 = .ok (.getfield 9, 3) := by decide +kernel
theorem dX1_become_9 : decode cX1_become 9 = .ok (.iconst 0, 1) := by decide +kernel
theorem dX1_become_10 : decode cX1_become 10 = .ok (.aload_n 0, 1) := by decide +kernel
theorem dX1_become_11 : decode cX1_become 11 = .ok (.getfield 9, 3) := by decide +kernel
theorem dX1_become_14 : decode cX1_become 14 = .ok (.arraylength, 1) := by decide +kernel
theorem dX1_become_15 : decode cX1_become 15 = .ok (.invokestatic 21, 3) := by decide +kernel
theorem dX1_become_18 : decode cX1_become 18 = .ok (.return_, 1) := by decide +kernel
theorem dX1_begin_0 : decode cX1_begin 0 = .ok (.aload_n 0, 1) := by decide +kernel
theorem dX1_begin_1 : decode cX1_begin 1 = .ok (.getfield 9, 3) := by decide +kernel
theorem dX1_begin_4 : decode cX1_begin 4 = .ok (.iload_n 1, 1) := by decide +kernel
theorem dX1_begin_5 : decode cX1_begin 5 = .ok (.iconst 4, 1) := by decide +kernel
theorem dX1_begin_6 : decode cX1_begin 6 = .ok (.imul, 1) := by decide +kernel
theorem dX1_begin_7 : decode cX1_begin 7 = .ok (.iconst 0, 1) := by decide +kernel
theorem dX1_begin_8 : decode cX1_begin 8 = .ok (.iadd, 1) := by decide +kernel
theorem dX1_begin_9 : decode cX1_begin 9 = .ok (.iload_n 2, 1) := by decide +kernel
theorem dX1_begin_10 : decode cX1_begin 10 = .ok (.iastore, 1) := by decide +kernel
theorem dX1_begin_11 : decode cX1_begin 11 = .ok (.aload_n 0, 1) := by decide +kernel
theorem dX1_begin_12 : decode cX1_begin 12 = .ok (.getfield 9, 3) := by decide +kernel
theorem dX1_begin_15 : decode cX1_begin 15 = .ok (.iload_n 1, 1) := by decide +kernel
theorem dX1_begin_16 : decode cX1_begin 16 = .ok (.iconst 4, 1) := by decide +kernel
theorem dX1_begin_17 : decode cX1_begin 17 = .ok (.imul, 1) := by decide +kernel
theorem dX1_begin_18 : decode cX1_begin 18 = .ok (.iconst 1, 1) := by decide +kernel
theorem dX1_begin_19 : decode cX1_begin 19 = .ok (.iadd, 1) := by decide +kernel
theorem dX1_begin_20 : decode cX1_begin 20 = .ok (.iconst 0, 1) := by decide +kernel
theorem dX1_begin_21 : decode cX1_begin 21 = .ok (.iastore, 1) := by decide +kernel
theorem dX1_begin_22 : decode cX1_begin 22 = .ok (.aload_n 0, 1) := by decide +kernel
theorem dX1_begin_23 : decode cX1_begin 23 = .ok (.getfield 9, 3) := by decide +kernel
theorem dX1_begin_26 : decode cX1_begin 26 = .ok (.iload_n 1, 1) := by decide +kernel
theorem dX1_begin_27 : decode cX1_begin 27 = .ok (.iconst 4, 1) := by decide +kernel
theorem dX1_begin_28 : decode cX1_begin 28 = .ok (.imul, 1) := by decide +kernel
theorem dX1_begin_29 : decode cX1_begin 29 = .ok (.iconst 2, 1) := by decide +kernel
theorem dX1_begin_30 : decode cX1_begin 30 = .ok (.iadd, 1) := by decide +kernel
theorem dX1_begin_31 : decode cX1_begin 31 = .ok (.iconst 0, 1) := by decide +kernel
theorem dX1_begin_32 : decode cX1_begin 32 = .ok (.iastore, 1) := by decide +kernel
theorem dX1_begin_33 : decode cX1_begin 33 = .ok (.aload_n 0, 1) := by decide +kernel
theorem dX1_begin_34 : decode cX1_begin 34 = .ok (.getfield 9, 3) := by decide +kernel
theorem dX1_begin_37 : decode cX1_begin 37 = .ok (.iload_n 1, 1) := by decide +kernel
theorem dX1_begin_38 : decode cX1_begin 38 = .ok (.iconst 4, 1) := by decide +kernel
theorem dX1_begin_39 : decode cX1_begin 39 = .ok (.imul, 1) := by decide +kernel
theorem dX1_begin_40 : decode cX1_begin 40 = .ok (.iconst 3, 1) := by decide +kernel
theorem dX1_begin_41 : decode cX1_begin 41 = .ok (.iadd, 1) := by decide +kernel
theorem dX1_begin_42 : decode cX1_begin 42 = .ok (.iconst 0, 1) := by decide +kernel
theorem dX1_begin_43 : decode cX1_begin 43 = .ok (.iastore, 1) := by decide +kernel
theorem dX1_begin_44 : decode cX1_begin 44 = .ok (.return_, 1) := by decide +kernel
theorem dX1_setOperand_0 : decode cX1_setOperand 0 = .ok (.aload_n 0, 1) := by decide +kernel
theorem dX1_setOperand_1 : decode cX1_setOperand 1 = .ok (.getfield 9, 3) := by decide +kernel
theorem dX1_setOperand_4 : decode cX1_setOperand 4 = .ok (.iload_n 1, 1) := by decide +kernel
theorem dX1_setOperand_5 : decode cX1_setOperand 5 = .ok (.iconst 4, 1) := by decide +kernel
theorem dX1_setOperand_6 : decode cX1_setOperand 6 = .ok (.imul, 1) := by decide +kernel
theorem dX1_setOperand_7 : decode cX1_setOperand 7 = .ok (.iload_n 2, 1) := by decide +kernel
theorem dX1_setOperand_8 : decode cX1_setOperand 8 = .ok (.iadd, 1) := by decide +kernel
theorem dX1_setOperand_9 : decode cX1_setOperand 9 = .ok (.iload_n 3, 1) := by decide +kernel
theorem dX1_setOperand_10 : decode cX1_setOperand 10 = .ok (.iastore, 1) := by decide +kernel
theorem dX1_setOperand_11 : decode cX1_setOperand 11 = .ok (.return_, 1) := by decide +kernel
theorem dX1_take_0 : decode cX1_take 0 = .ok (.aload_n 1, 1) := by decide +kernel
theorem dX1_take_1 : decode cX1_take 1 = .ok (.getfield 27, 3) := by decide +kernel
theorem dX1_take_4 : decode cX1_take 4 = .ok (.invokestatic 33, 3) := by decide +kernel
theorem dX1_take_7 : decode cX1_take 7 = .ok (.istore_n 2, 1) := by decide +kernel
theorem dX1_take_8 : decode cX1_take 8 = .ok (.aload_n 0, 1) := by decide +kernel
theorem dX1_take_9 : decode cX1_take 9 = .ok (.aload_n 1, 1) := by decide +kernel
theorem dX1_take_10 : decode cX1_take 10 = .ok (.getfield 37, 3) := by decide +kernel
theorem dX1_take_13 : decode cX1_take 13 = .ok (.aload_n 1, 1) := by decide +kernel
theorem dX1_take_14 : decode cX1_take 14 = .ok (.getfield 27, 3) := by decide +kernel
theorem dX1_take_17 : decode cX1_take 17 = .ok (.invokevirtual 40, 3) := by decide +kernel
theorem dX1_take_20 : decode cX1_take 20 = .ok (.iload_n 2, 1) := by decide +kernel
theorem dX1_take_21 : decode cX1_take 21 = .ok (.iconst 1, 1) := by decide +kernel
theorem dX1_take_22 : decode cX1_take 22 = .ok (.if_icmp .lt 16, 3) := by decide +kernel
theorem dX1_take_25 : decode cX1_take 25 = .ok (.aload_n 0, 1) := by decide +kernel
theorem dX1_take_26 : decode cX1_take 26 = .ok (.aload_n 1, 1) := by decide +kernel
theorem dX1_take_27 : decode cX1_take 27 = .ok (.getfield 37, 3) := by decide +kernel
theorem dX1_take_30 : decode cX1_take 30 = .ok (.iconst 1, 1) := by decide +kernel
theorem dX1_take_31 : decode cX1_take 31 = .ok (.aload_n 1, 1) := by decide +kernel
theorem dX1_take_32 : decode cX1_take 32 = .ok (.getfield 44, 3) := by decide +kernel
theorem dX1_take_35 : decode cX1_take 35 = .ok (.invokevirtual 47, 3) := by decide +kernel
theorem dX1_take_38 : decode cX1_take 38 = .ok (.iload_n 2, 1) := by decide +kernel
theorem dX1_take_39 : decode cX1_take 39 = .ok (.iconst 2, 1) := by decide +kernel
theorem dX1_take_40 : decode cX1_take 40 = .ok (.if_icmp .lt 16, 3) := by decide +kernel
theorem dX1_take_43 : decode cX1_take 43 = .ok (.aload_n 0, 1) := by decide +kernel
theorem dX1_take_44 : decode cX1_take 44 = .ok (.aload_n 1, 1) := by decide +kernel
theorem dX1_take_45 : decode cX1_take 45 = .ok (.getfield 37, 3) := by decide +kernel
theorem dX1_take_48 : decode cX1_take 48 = .ok (.iconst 2, 1) := by decide +kernel
theorem dX1_take_49 : decode cX1_take 49 = .ok (.aload_n 1, 1) := by decide +kernel
theorem dX1_take_50 : decode cX1_take 50 = .ok (.getfield 51, 3) := by decide +kernel
theorem dX1_take_53 : decode cX1_take 53 = .ok (.invokevirtual 47, 3) := by decide +kernel
theorem dX1_take_56 : decode cX1_take 56 = .ok (.iload_n 2, 1) := by decide +kernel
theorem dX1_take_57 : decode cX1_take 57 = .ok (.iconst 3, 1) := by decide +kernel
theorem dX1_take_58 : decode cX1_take 58 = .ok (.if_icmp .lt 16, 3) := by decide +kernel
theorem dX1_take_61 : decode cX1_take 61 = .ok (.aload_n 0, 1) := by decide +kernel
theorem dX1_take_62 : decode cX1_take 62 = .ok (.aload_n 1, 1) := by decide +kernel
theorem dX1_take_63 : decode cX1_take 63 = .ok (.getfield 37, 3) := by decide +kernel
theorem dX1_take_66 : decode cX1_take 66 = .ok (.iconst 3, 1) := by decide +kernel
theorem dX1_take_67 : decode cX1_take 67 = .ok (.aload_n 1, 1) := by decide +kernel
theorem dX1_take_68 : decode cX1_take 68 = .ok (.getfield 54, 3) := by decide +kernel
theorem dX1_take_71 : decode cX1_take 71 = .ok (.invokevirtual 47, 3) := by decide +kernel
theorem dX1_take_74 : decode cX1_take 74 = .ok (.return_, 1) := by decide +kernel
theorem dX1_countTold_0 : decode cX1_countTold 0 = .ok (.iconst 0, 1) := by decide +kernel
theorem dX1_countTold_1 : decode cX1_countTold 1 = .ok (.istore_n 1, 1) := by decide +kernel
theorem dX1_countTold_2 : decode cX1_countTold 2 = .ok (.iconst 0, 1) := by decide +kernel
theorem dX1_countTold_3 : decode cX1_countTold 3 = .ok (.istore_n 2, 1) := by decide +kernel
theorem dX1_countTold_4 : decode cX1_countTold 4 = .ok (.iload_n 2, 1) := by decide +kernel
theorem dX1_countTold_5 : decode cX1_countTold 5 = .ok (.bipush 30, 2) := by decide +kernel
theorem dX1_countTold_7 : decode cX1_countTold 7 = .ok (.if_icmp .ge 26, 3) := by decide +kernel
theorem dX1_countTold_10 : decode cX1_countTold 10 = .ok (.iload_n 1, 1) := by decide +kernel
theorem dX1_countTold_11 : decode cX1_countTold 11 = .ok (.aload_n 0, 1) := by decide +kernel
theorem dX1_countTold_12 : decode cX1_countTold 12 = .ok (.iload_n 2, 1) := by decide +kernel
theorem dX1_countTold_13 : decode cX1_countTold 13 = .ok (.iconst 0, 1) := by decide +kernel
theorem dX1_countTold_14 : decode cX1_countTold 14 = .ok (.invokevirtual 57, 3) := by decide +kernel
theorem dX1_countTold_17 : decode cX1_countTold 17 = .ok (.ifCond .eq 7, 3) := by decide +kernel
theorem dX1_countTold_20 : decode cX1_countTold 20 = .ok (.iconst 1, 1) := by decide +kernel
theorem dX1_countTold_21 : decode cX1_countTold 21 = .ok (.goto 4, 3) := by decide +kernel
theorem dX1_countTold_24 : decode cX1_countTold 24 = .ok (.iconst 0, 1) := by decide +kernel
theorem dX1_countTold_25 : decode cX1_countTold 25 = .ok (.iadd, 1) := by decide +kernel
theorem dX1_countTold_26 : decode cX1_countTold 26 = .ok (.istore_n 1, 1) := by decide +kernel
theorem dX1_countTold_27 : decode cX1_countTold 27 = .ok (.iinc 2 1, 3) := by decide +kernel
theorem dX1_countTold_30 : decode cX1_countTold 30 = .ok (.goto (-26), 3) := by decide +kernel
theorem dX1_countTold_33 : decode cX1_countTold 33 = .ok (.iload_n 1, 1) := by decide +kernel
theorem dX1_countTold_34 : decode cX1_countTold 34 = .ok (.ireturn, 1) := by decide +kernel
theorem dX1_countSpans_0 : decode cX1_countSpans 0 = .ok (.iconst 0, 1) := by decide +kernel
theorem dX1_countSpans_1 : decode cX1_countSpans 1 = .ok (.istore_n 1, 1) := by decide +kernel
theorem dX1_countSpans_2 : decode cX1_countSpans 2 = .ok (.iconst 0, 1) := by decide +kernel
theorem dX1_countSpans_3 : decode cX1_countSpans 3 = .ok (.istore_n 2, 1) := by decide +kernel
theorem dX1_countSpans_4 : decode cX1_countSpans 4 = .ok (.iload_n 2, 1) := by decide +kernel
theorem dX1_countSpans_5 : decode cX1_countSpans 5 = .ok (.bipush 30, 2) := by decide +kernel
theorem dX1_countSpans_7 : decode cX1_countSpans 7 = .ok (.if_icmp .ge 29, 3) := by decide +kernel
theorem dX1_countSpans_10 : decode cX1_countSpans 10 = .ok (.iload_n 1, 1) := by decide +kernel
theorem dX1_countSpans_11 : decode cX1_countSpans 11 = .ok (.aload_n 0, 1) := by decide +kernel
theorem dX1_countSpans_12 : decode cX1_countSpans 12 = .ok (.iload_n 2, 1) := by decide +kernel
theorem dX1_countSpans_13 : decode cX1_countSpans 13 = .ok (.iconst 0, 1) := by decide +kernel
theorem dX1_countSpans_14 : decode cX1_countSpans 14 = .ok (.invokevirtual 57, 3) := by decide +kernel
theorem dX1_countSpans_17 : decode cX1_countSpans 17 = .ok (.invokestatic 61, 3) := by decide +kernel
theorem dX1_countSpans_20 : decode cX1_countSpans 20 = .ok (.ifCond .eq 7, 3) := by decide +kernel
theorem dX1_countSpans_23 : decode cX1_countSpans 23 = .ok (.iconst 1, 1) := by decide +kernel
theorem dX1_countSpans_24 : decode cX1_countSpans 24 = .ok (.goto 4, 3) := by decide +kernel
theorem dX1_countSpans_27 : decode cX1_countSpans 27 = .ok (.iconst 0, 1) := by decide +kernel
theorem dX1_countSpans_28 : decode cX1_countSpans 28 = .ok (.iadd, 1) := by decide +kernel
theorem dX1_countSpans_29 : decode cX1_countSpans 29 = .ok (.istore_n 1, 1) := by decide +kernel
theorem dX1_countSpans_30 : decode cX1_countSpans 30 = .ok (.iinc 2 1, 3) := by decide +kernel
theorem dX1_countSpans_33 : decode cX1_countSpans 33 = .ok (.goto (-29), 3) := by decide +kernel
theorem dX1_countSpans_36 : decode cX1_countSpans 36 = .ok (.iload_n 1, 1) := by decide +kernel
theorem dX1_countSpans_37 : decode cX1_countSpans 37 = .ok (.ireturn, 1) := by decide +kernel
theorem dX2_init_0 : decode cX2_init 0 = .ok (.aload_n 0, 1) := by decide +kernel
theorem dX2_init_1 : decode cX2_init 1 = .ok (.invokespecial 3, 3) := by decide +kernel
theorem dX2_init_4 : decode cX2_init 4 = .ok (.aload_n 0, 1) := by decide +kernel
theorem dX2_init_5 : decode cX2_init 5 = .ok (.bipush 100, 2) := by decide +kernel
theorem dX2_init_7 : decode cX2_init 7 = .ok (.newarray .int, 2) := by decide +kernel
theorem dX2_init_9 : decode cX2_init 9 = .ok (.putfield 9, 3) := by decide +kernel
theorem dX2_init_12 : decode cX2_init 12 = .ok (.return_, 1) := by decide +kernel
theorem dX2_clear_0 : decode cX2_clear 0 = .ok (.aload_n 0, 1) := by decide +kernel
theorem dX2_clear_1 : decode cX2_clear 1 = .ok (.iconst 0, 1) := by decide +kernel
theorem dX2_clear_2 : decode cX2_clear 2 = .ok (.putfield 15, 3) := by decide +kernel
theorem dX2_clear_5 : decode cX2_clear 5 = .ok (.return_, 1) := by decide +kernel
theorem dX2_push_0 : decode cX2_push 0 = .ok (.aload_n 0, 1) := by decide +kernel
theorem dX2_push_1 : decode cX2_push 1 = .ok (.getfield 15, 3) := by decide +kernel
theorem dX2_push_4 : decode cX2_push 4 = .ok (.bipush 20, 2) := by decide +kernel
theorem dX2_push_6 : decode cX2_push 6 = .ok (.if_icmp .ne 33, 3) := by decide +kernel
theorem dX2_push_9 : decode cX2_push 9 = .ok (.aload_n 0, 1) := by decide +kernel
theorem dX2_push_10 : decode cX2_push 10 = .ok (.getfield 9, 3) := by decide +kernel
theorem dX2_push_13 : decode cX2_push 13 = .ok (.iconst 5, 1) := by decide +kernel
theorem dX2_push_14 : decode cX2_push 14 = .ok (.aload_n 0, 1) := by decide +kernel
theorem dX2_push_15 : decode cX2_push 15 = .ok (.getfield 9, 3) := by decide +kernel
theorem dX2_push_18 : decode cX2_push 18 = .ok (.iconst 0, 1) := by decide +kernel
theorem dX2_push_19 : decode cX2_push 19 = .ok (.aload_n 0, 1) := by decide +kernel
theorem dX2_push_20 : decode cX2_push 20 = .ok (.getfield 9, 3) := by decide +kernel
theorem dX2_push_23 : decode cX2_push 23 = .ok (.arraylength, 1) := by decide +kernel
theorem dX2_push_24 : decode cX2_push 24 = .ok (.iconst 5, 1) := by decide +kernel
theorem dX2_push_25 : decode cX2_push 25 = .ok (.isub, 1) := by decide +kernel
theorem dX2_push_26 : decode cX2_push 26 = .ok (.invokestatic 19, 3) := by decide +kernel
theorem dX2_push_29 : decode cX2_push 29 = .ok (.aload_n 0, 1) := by decide +kernel
theorem dX2_push_30 : decode cX2_push 30 = .ok (.dup, 1) := by decide +kernel
theorem dX2_push_31 : decode cX2_push 31 = .ok (.getfield 15, 3) := by decide +kernel
theorem dX2_push_34 : decode cX2_push 34 = .ok (.iconst 1, 1) := by decide +kernel
theorem dX2_push_35 : decode cX2_push 35 = .ok (.isub, 1) := by decide +kernel
theorem dX2_push_36 : decode cX2_push 36 = .ok (.putfield 15, 3) := by decide +kernel
theorem dX2_push_39 : decode cX2_push 39 = .ok (.aload_n 0, 1) := by decide +kernel
theorem dX2_push_40 : decode cX2_push 40 = .ok (.getfield 15, 3) := by decide +kernel
theorem dX2_push_43 : decode cX2_push 43 = .ok (.iconst 5, 1) := by decide +kernel
theorem dX2_push_44 : decode cX2_push 44 = .ok (.imul, 1) := by decide +kernel
theorem dX2_push_45 : decode cX2_push 45 = .ok (.istore_n 2, 1) := by decide +kernel
theorem dX2_push_46 : decode cX2_push 46 = .ok (.aload_n 0, 1) := by decide +kernel
theorem dX2_push_47 : decode cX2_push 47 = .ok (.getfield 9, 3) := by decide +kernel
theorem dX2_push_50 : decode cX2_push 50 = .ok (.iload_n 2, 1) := by decide +kernel
theorem dX2_push_51 : decode cX2_push 51 = .ok (.aload_n 1, 1) := by decide +kernel
theorem dX2_push_52 : decode cX2_push 52 = .ok (.getfield 25, 3) := by decide +kernel
theorem dX2_push_55 : decode cX2_push 55 = .ok (.iastore, 1) := by decide +kernel
theorem dX2_push_56 : decode cX2_push 56 = .ok (.aload_n 0, 1) := by decide +kernel
theorem dX2_push_57 : decode cX2_push 57 = .ok (.getfield 9, 3) := by decide +kernel
theorem dX2_push_60 : decode cX2_push 60 = .ok (.iload_n 2, 1) := by decide +kernel
theorem dX2_push_61 : decode cX2_push 61 = .ok (.iconst 1, 1) := by decide +kernel
theorem dX2_push_62 : decode cX2_push 62 = .ok (.iadd, 1) := by decide +kernel
theorem dX2_push_63 : decode cX2_push 63 = .ok (.aload_n 1, 1) := by decide +kernel
theorem dX2_push_64 : decode cX2_push 64 = .ok (.getfield 30, 3) := by decide +kernel
theorem dX2_push_67 : decode cX2_push 67 = .ok (.iastore, 1) := by decide +kernel
theorem dX2_push_68 : decode cX2_push 68 = .ok (.aload_n 0, 1) := by decide +kernel
theorem dX2_push_69 : decode cX2_push 69 = .ok (.getfield 9, 3) := by decide +kernel
theorem dX2_push_72 : decode cX2_push 72 = .ok (.iload_n 2, 1) := by decide +kernel
theorem dX2_push_73 : decode cX2_push 73 = .ok (.iconst 2, 1) := by decide +kernel
theorem dX2_push_74 : decode cX2_push 74 = .ok (.iadd, 1) := by decide +kernel
theorem dX2_push_75 : decode cX2_push 75 = .ok (.aload_n 1, 1) := by decide +kernel
theorem dX2_push_76 : decode cX2_push 76 = .ok (.getfield 33, 3) := by decide +kernel
theorem dX2_push_79 : decode cX2_push 79 = .ok (.iastore, 1) := by decide +kernel
theorem dX2_push_80 : decode cX2_push 80 = .ok (.aload_n 0, 1) := by decide +kernel
theorem dX2_push_81 : decode cX2_push 81 = .ok (.getfield 9, 3) := by decide +kernel
theorem dX2_push_84 : decode cX2_push 84 = .ok (.iload_n 2, 1) := by decide +kernel
theorem dX2_push_85 : decode cX2_push 85 = .ok (.iconst 3, 1) := by decide +kernel
theorem dX2_push_86 : decode cX2_push 86 = .ok (.iadd, 1) := by decide +kernel
theorem dX2_push_87 : decode cX2_push 87 = .ok (.aload_n 1, 1) := by decide +kernel
theorem dX2_push_88 : decode cX2_push 88 = .ok (.getfield 36, 3) := by decide +kernel
theorem dX2_push_91 : decode cX2_push 91 = .ok (.iastore, 1) := by decide +kernel
theorem dX2_push_92 : decode cX2_push 92 = .ok (.aload_n 0, 1) := by decide +kernel
theorem dX2_push_93 : decode cX2_push 93 = .ok (.getfield 9, 3) := by decide +kernel
theorem dX2_push_96 : decode cX2_push 96 = .ok (.iload_n 2, 1) := by decide +kernel
theorem dX2_push_97 : decode cX2_push 97 = .ok (.iconst 4, 1) := by decide +kernel
theorem dX2_push_98 : decode cX2_push 98 = .ok (.iadd, 1) := by decide +kernel
theorem dX2_push_99 : decode cX2_push 99 = .ok (.aload_n 1, 1) := by decide +kernel
theorem dX2_push_100 : decode cX2_push 100 = .ok (.getfield 39, 3) := by decide +kernel
theorem dX2_push_103 : decode cX2_push 103 = .ok (.iastore, 1) := by decide +kernel
theorem dX2_push_104 : decode cX2_push 104 = .ok (.aload_n 0, 1) := by decide +kernel
theorem dX2_push_105 : decode cX2_push 105 = .ok (.dup, 1) := by decide +kernel
theorem dX2_push_106 : decode cX2_push 106 = .ok (.getfield 15, 3) := by decide +kernel
theorem dX2_push_109 : decode cX2_push 109 = .ok (.iconst 1, 1) := by decide +kernel
theorem dX2_push_110 : decode cX2_push 110 = .ok (.iadd, 1) := by decide +kernel
theorem dX2_push_111 : decode cX2_push 111 = .ok (.putfield 15, 3) := by decide +kernel
theorem dX2_push_114 : decode cX2_push 114 = .ok (.return_, 1) := by decide +kernel
theorem dX2_popInto_0 : decode cX2_popInto 0 = .ok (.aload_n 0, 1) := by decide +kernel
theorem dX2_popInto_1 : decode cX2_popInto 1 = .ok (.getfield 15, 3) := by decide +kernel
theorem dX2_popInto_4 : decode cX2_popInto 4 = .ok (.ifCond .ne 4, 3) := by decide +kernel
theorem dX2_popInto_7 : decode cX2_popInto 7 = .ok (.return_, 1) := by decide +kernel
theorem dX2_popInto_8 : decode cX2_popInto 8 = .ok (.aload_n 0, 1) := by decide +kernel
theorem dX2_popInto_9 : decode cX2_popInto 9 = .ok (.dup, 1) := by decide +kernel
theorem dX2_popInto_10 : decode cX2_popInto 10 = .ok (.getfield 15, 3) := by decide +kernel
theorem dX2_popInto_13 : decode cX2_popInto 13 = .ok (.iconst 1, 1) := by decide +kernel
theorem dX2_popInto_14 : decode cX2_popInto 14 = .ok (.isub, 1) := by decide +kernel
theorem dX2_popInto_15 : decode cX2_popInto 15 = .ok (.putfield 15, 3) := by decide +kernel
theorem dX2_popInto_18 : decode cX2_popInto 18 = .ok (.aload_n 0, 1) := by decide +kernel
theorem dX2_popInto_19 : decode cX2_popInto 19 = .ok (.getfield 15, 3) := by decide +kernel
theorem dX2_popInto_22 : decode cX2_popInto 22 = .ok (.iconst 5, 1) := by decide +kernel
theorem dX2_popInto_23 : decode cX2_popInto 23 = .ok (.imul, 1) := by decide +kernel
theorem dX2_popInto_24 : decode cX2_popInto 24 = .ok (.istore_n 2, 1) := by decide +kernel
theorem dX2_popInto_25 : decode cX2_popInto 25 = .ok (.aload_n 1, 1) := by decide +kernel
theorem dX2_popInto_26 : decode cX2_popInto 26 = .ok (.aload_n 0, 1) := by decide +kernel
theorem dX2_popInto_27 : decode cX2_popInto 27 = .ok (.getfield 9, 3) := by decide +kernel
theorem dX2_popInto_30 : decode cX2_popInto 30 = .ok (.iload_n 2, 1) := by decide +kernel
theorem dX2_popInto_31 : decode cX2_popInto 31 = .ok (.iaload, 1) := by decide +kernel
theorem dX2_popInto_32 : decode cX2_popInto 32 = .ok (.aload_n 0, 1) := by decide +kernel
theorem dX2_popInto_33 : decode cX2_popInto 33 = .ok (.getfield 9, 3) := by decide +kernel
theorem dX2_popInto_36 : decode cX2_popInto 36 = .ok (.iload_n 2, 1) := by decide +kernel
theorem dX2_popInto_37 : decode cX2_popInto 37 = .ok (.iconst 1, 1) := by decide +kernel
theorem dX2_popInto_38 : decode cX2_popInto 38 = .ok (.iadd, 1) := by decide +kernel
theorem dX2_popInto_39 : decode cX2_popInto 39 = .ok (.iaload, 1) := by decide +kernel
theorem dX2_popInto_40 : decode cX2_popInto 40 = .ok (.aload_n 0, 1) := by decide +kernel
theorem dX2_popInto_41 : decode cX2_popInto 41 = .ok (.getfield 9, 3) := by decide +kernel
theorem dX2_popInto_44 : decode cX2_popInto 44 = .ok (.iload_n 2, 1) := by decide +kernel
theorem dX2_popInto_45 : decode cX2_popInto 45 = .ok (.iconst 2, 1) := by decide +kernel
theorem dX2_popInto_46 : decode cX2_popInto 46 = .ok (.iadd, 1) := by decide +kernel
theorem dX2_popInto_47 : decode cX2_popInto 47 = .ok (.iaload, 1) := by decide +kernel
theorem dX2_popInto_48 : decode cX2_popInto 48 = .ok (.aload_n 0, 1) := by decide +kernel
theorem dX2_popInto_49 : decode cX2_popInto 49 = .ok (.getfield 9, 3) := by decide +kernel
theorem dX2_popInto_52 : decode cX2_popInto 52 = .ok (.iload_n 2, 1) := by decide +kernel
theorem dX2_popInto_53 : decode cX2_popInto 53 = .ok (.iconst 3, 1) := by decide +kernel
theorem dX2_popInto_54 : decode cX2_popInto 54 = .ok (.iadd, 1) := by decide +kernel
theorem dX2_popInto_55 : decode cX2_popInto 55 = .ok (.iaload, 1) := by decide +kernel
theorem dX2_popInto_56 : decode cX2_popInto 56 = .ok (.aload_n 0, 1) := by decide +kernel
theorem dX2_popInto_57 : decode cX2_popInto 57 = .ok (.getfield 9, 3) := by decide +kernel
theorem dX2_popInto_60 : decode cX2_popInto 60 = .ok (.iload_n 2, 1) := by decide +kernel
theorem dX2_popInto_61 : decode cX2_popInto 61 = .ok (.iconst 4, 1) := by decide +kernel
theorem dX2_popInto_62 : decode cX2_popInto 62 = .ok (.iadd, 1) := by decide +kernel
theorem dX2_popInto_63 : decode cX2_popInto 63 = .ok (.iaload, 1) := by decide +kernel
theorem dX2_popInto_64 : decode cX2_popInto 64 = .ok (.invokevirtual 42, 3) := by decide +kernel
theorem dX2_popInto_67 : decode cX2_popInto 67 = .ok (.return_, 1) := by decide +kernel
theorem dX3_init_0 : decode cX3_init 0 = .ok (.aload_n 0, 1) := by decide +kernel
theorem dX3_init_1 : decode cX3_init 1 = .ok (.invokespecial 3, 3) := by decide +kernel
theorem dX3_init_4 : decode cX3_init 4 = .ok (.aload_n 0, 1) := by decide +kernel
theorem dX3_init_5 : decode cX3_init 5 = .ok (.bipush 30, 2) := by decide +kernel
theorem dX3_init_7 : decode cX3_init 7 = .ok (.newarray .int, 2) := by decide +kernel
theorem dX3_init_9 : decode cX3_init 9 = .ok (.putfield 9, 3) := by decide +kernel
theorem dX3_init_12 : decode cX3_init 12 = .ok (.aload_n 0, 1) := by decide +kernel
theorem dX3_init_13 : decode cX3_init 13 = .ok (.bipush 30, 2) := by decide +kernel
theorem dX3_init_15 : decode cX3_init 15 = .ok (.newarray .int, 2) := by decide +kernel
theorem dX3_init_17 : decode cX3_init 17 = .ok (.putfield 15, 3) := by decide +kernel
theorem dX3_init_20 : decode cX3_init 20 = .ok (.aload_n 0, 1) := by decide +kernel
theorem dX3_init_21 : decode cX3_init 21 = .ok (.bipush 30, 2) := by decide +kernel
theorem dX3_init_23 : decode cX3_init 23 = .ok (.newarray .int, 2) := by decide +kernel
theorem dX3_init_25 : decode cX3_init 25 = .ok (.putfield 18, 3) := by decide +kernel
theorem dX3_init_28 : decode cX3_init 28 = .ok (.aload_n 0, 1) := by decide +kernel
theorem dX3_init_29 : decode cX3_init 29 = .ok (.bipush 30, 2) := by decide +kernel
theorem dX3_init_31 : decode cX3_init 31 = .ok (.newarray .int, 2) := by decide +kernel
theorem dX3_init_33 : decode cX3_init 33 = .ok (.putfield 21, 3) := by decide +kernel
theorem dX3_init_36 : decode cX3_init 36 = .ok (.return_, 1) := by decide +kernel
theorem dX3_reckon_0 : decode cX3_reckon 0 = .ok (.aload_n 0, 1) := by decide +kernel
theorem dX3_reckon_1 : decode cX3_reckon 1 = .ok (.getfield 15, 3) := by decide +kernel
theorem dX3_reckon_4 : decode cX3_reckon 4 = .ok (.iconst 0, 1) := by decide +kernel
theorem dX3_reckon_5 : decode cX3_reckon 5 = .ok (.invokestatic 24, 3) := by decide +kernel
theorem dX3_reckon_8 : decode cX3_reckon 8 = .ok (.aload_n 0, 1) := by decide +kernel
theorem dX3_reckon_9 : decode cX3_reckon 9 = .ok (.getfield 18, 3) := by decide +kernel
theorem dX3_reckon_12 : decode cX3_reckon 12 = .ok (.iconst 0, 1) := by decide +kernel
theorem dX3_reckon_13 : decode cX3_reckon 13 = .ok (.invokestatic 24, 3) := by decide +kernel
theorem dX3_reckon_16 : decode cX3_reckon 16 = .ok (.aload_n 0, 1) := by decide +kernel
theorem dX3_reckon_17 : decode cX3_reckon 17 = .ok (.iconst 0, 1) := by decide +kernel
theorem dX3_reckon_18 : decode cX3_reckon 18 = .ok (.putfield 30, 3) := by decide +kernel
theorem dX3_reckon_21 : decode cX3_reckon 21 = .ok (.iconst 1, 1) := by decide +kernel
theorem dX3_reckon_22 : decode cX3_reckon 22 = .ok (.istore_n 2, 1) := by decide +kernel
theorem dX3_reckon_23 : decode cX3_reckon 23 = .ok (.iconst 0, 1) := by decide +kernel
theorem dX3_reckon_24 : decode cX3_reckon 24 = .ok (.istore_n 3, 1) := by decide +kernel
theorem dX3_reckon_25 : decode cX3_reckon 25 = .ok (.iload_n 2, 1) := by decide +kernel
theorem dX3_reckon_26 : decode cX3_reckon 26 = .ok (.ifCond .eq 71, 3) := by decide +kernel
theorem dX3_reckon_29 : decode cX3_reckon 29 = .ok (.iload_n 3, 1) := by decide +kernel
theorem dX3_reckon_30 : decode cX3_reckon 30 = .ok (.bipush 30, 2) := by decide +kernel
theorem dX3_reckon_32 : decode cX3_reckon 32 = .ok (.if_icmp .gt 65, 3) := by decide +kernel
theorem dX3_reckon_35 : decode cX3_reckon 35 = .ok (.aload_n 0, 1) := by decide +kernel
theorem dX3_reckon_36 : decode cX3_reckon 36 = .ok (.getfield 30, 3) := by decide +kernel
theorem dX3_reckon_39 : decode cX3_reckon 39 = .ok (.istore 4, 2) := by decide +kernel
theorem dX3_reckon_41 : decode cX3_reckon 41 = .ok (.iconst 0, 1) := by decide +kernel
theorem dX3_reckon_42 : decode cX3_reckon 42 = .ok (.istore 5, 2) := by decide +kernel
theorem dX3_reckon_44 : decode cX3_reckon 44 = .ok (.iload 5, 2) := by decide +kernel
theorem dX3_reckon_46 : decode cX3_reckon 46 = .ok (.bipush 30, 2) := by decide +kernel
theorem dX3_reckon_48 : decode cX3_reckon 48 = .ok (.if_icmp .ge 28, 3) := by decide +kernel
theorem dX3_reckon_51 : decode cX3_reckon 51 = .ok (.aload_n 0, 1) := by decide +kernel
theorem dX3_reckon_52 : decode cX3_reckon 52 = .ok (.getfield 30, 3) := by decide +kernel
theorem dX3_reckon_55 : decode cX3_reckon 55 = .ok (.iload 5, 2) := by decide +kernel
theorem dX3_reckon_57 : decode cX3_reckon 57 = .ok (.invokestatic 34, 3) := by decide +kernel
theorem dX3_reckon_60 : decode cX3_reckon 60 = .ok (.ifCond .ne 10, 3) := by decide +kernel
theorem dX3_reckon_63 : decode cX3_reckon 63 = .ok (.aload_n 0, 1) := by decide +kernel
theorem dX3_reckon_64 : decode cX3_reckon 64 = .ok (.aload_n 1, 1) := by decide +kernel
theorem dX3_reckon_65 : decode cX3_reckon 65 = .ok (.iload 5, 2) := by decide +kernel
theorem dX3_reckon_67 : decode cX3_reckon 67 = .ok (.invokevirtual 38, 3) := by decide +kernel
theorem dX3_reckon_70 : decode cX3_reckon 70 = .ok (.iinc 5 1, 3) := by decide +kernel
theorem dX3_reckon_73 : decode cX3_reckon 73 = .ok (.goto (-29), 3) := by decide +kernel
theorem dX3_reckon_76 : decode cX3_reckon 76 = .ok (.aload_n 0, 1) := by decide +kernel
theorem dX3_reckon_77 : decode cX3_reckon 77 = .ok (.getfield 30, 3) := by decide +kernel
theorem dX3_reckon_80 : decode cX3_reckon 80 = .ok (.iload 4, 2) := by decide +kernel
theorem dX3_reckon_82 : decode cX3_reckon 82 = .ok (.if_icmp .eq 7, 3) := by decide +kernel
theorem dX3_reckon_85 : decode cX3_reckon 85 = .ok (.iconst 1, 1) := by decide +kernel
theorem dX3_reckon_86 : decode cX3_reckon 86 = .ok (.goto 4, 3) := by decide +kernel
theorem dX3_reckon_89 : decode cX3_reckon 89 = .ok (.iconst 0, 1) := by decide +kernel
theorem dX3_reckon_90 : decode cX3_reckon 90 = .ok (.istore_n 2, 1) := by decide +kernel
theorem dX3_reckon_91 : decode cX3_reckon 91 = .ok (.iinc 3 1, 3) := by decide +kernel
theorem dX3_reckon_94 : decode cX3_reckon 94 = .ok (.goto (-69), 3) := by decide +kernel
theorem dX3_reckon_97 : decode cX3_reckon 97 = .ok (.aload_n 0, 1) := by decide +kernel
theorem dX3_reckon_98 : decode cX3_reckon 98 = .ok (.invokevirtual 42, 3) := by decide +kernel
theorem dX3_reckon_101 : decode cX3_reckon 101 = .ok (.return_, 1) := by decide +kernel
theorem dX3_tryCell_0 : decode cX3_tryCell 0 = .ok (.aload_n 1, 1) := by decide +kernel
theorem dX3_tryCell_1 : decode cX3_tryCell 1 = .ok (.iload_n 2, 1) := by decide +kernel
theorem dX3_tryCell_2 : decode cX3_tryCell 2 = .ok (.iconst 0, 1) := by decide +kernel
theorem dX3_tryCell_3 : decode cX3_tryCell 3 = .ok (.invokevirtual 45, 3) := by decide +kernel
theorem dX3_tryCell_6 : decode cX3_tryCell 6 = .ok (.istore_n 3, 1) := by decide +kernel
theorem dX3_tryCell_7 : decode cX3_tryCell 7 = .ok (.aload_n 1, 1) := by decide +kernel
theorem dX3_tryCell_8 : decode cX3_tryCell 8 = .ok (.iload_n 2, 1) := by decide +kernel
theorem dX3_tryCell_9 : decode cX3_tryCell 9 = .ok (.iconst 1, 1) := by decide +kernel
theorem dX3_tryCell_10 : decode cX3_tryCell 10 = .ok (.invokevirtual 45, 3) := by decide +kernel
theorem dX3_tryCell_13 : decode cX3_tryCell 13 = .ok (.istore 4, 2) := by decide +kernel
theorem dX3_tryCell_15 : decode cX3_tryCell 15 = .ok (.iload_n 3, 1) := by decide +kernel
theorem dX3_tryCell_16 : decode cX3_tryCell 16 = .ok (.tableswitch 147 0 8 #[52, 52, 147, 147, 147, 62, 130, 130, 92], 52) := by decide +kernel
theorem dX3_tryCell_68 : decode cX3_tryCell 68 = .ok (.aload_n 0, 1) := by decide +kernel
theorem dX3_tryCell_69 : decode cX3_tryCell 69 = .ok (.iload_n 2, 1) := by decide +kernel
theorem dX3_tryCell_70 : decode cX3_tryCell 70 = .ok (.iload 4, 2) := by decide +kernel
theorem dX3_tryCell_72 : decode cX3_tryCell 72 = .ok (.invokevirtual 51, 3) := by decide +kernel
theorem dX3_tryCell_75 : decode cX3_tryCell 75 = .ok (.goto 102, 3) := by decide +kernel
theorem dX3_tryCell_78 : decode cX3_tryCell 78 = .ok (.aload_n 0, 1) := by decide +kernel
theorem dX3_tryCell_79 : decode cX3_tryCell 79 = .ok (.iload_n 2, 1) := by decide +kernel
theorem dX3_tryCell_80 : decode cX3_tryCell 80 = .ok (.iload 4, 2) := by decide +kernel
theorem dX3_tryCell_82 : decode cX3_tryCell 82 = .ok (.invokevirtual 55, 3) := by decide +kernel
theorem dX3_tryCell_85 : decode cX3_tryCell 85 = .ok (.ifCond .eq 92, 3) := by decide +kernel
theorem dX3_tryCell_88 : decode cX3_tryCell 88 = .ok (.aload_n 0, 1) := by decide +kernel
theorem dX3_tryCell_89 : decode cX3_tryCell 89 = .ok (.iload_n 2, 1) := by decide +kernel
theorem dX3_tryCell_90 : decode cX3_tryCell 90 = .ok (.aload_n 0, 1) := by decide +kernel
theorem dX3_tryCell_91 : decode cX3_tryCell 91 = .ok (.getfield 9, 3) := by decide +kernel
theorem dX3_tryCell_94 : decode cX3_tryCell 94 = .ok (.iload 4, 2) := by decide +kernel
theorem dX3_tryCell_96 : decode cX3_tryCell 96 = .ok (.iaload, 1) := by decide +kernel
theorem dX3_tryCell_97 : decode cX3_tryCell 97 = .ok (.bipush 30, 2) := by decide +kernel
theorem dX3_tryCell_99 : decode cX3_tryCell 99 = .ok (.invokestatic 58, 3) := by decide +kernel
theorem dX3_tryCell_102 : decode cX3_tryCell 102 = .ok (.invokevirtual 63, 3) := by decide +kernel
theorem dX3_tryCell_105 : decode cX3_tryCell 105 = .ok (.goto 72, 3) := by decide +kernel
theorem dX3_tryCell_108 : decode cX3_tryCell 108 = .ok (.aload_n 0, 1) := by decide +kernel
theorem dX3_tryCell_109 : decode cX3_tryCell 109 = .ok (.iload_n 2, 1) := by decide +kernel
theorem dX3_tryCell_110 : decode cX3_tryCell 110 = .ok (.iload 4, 2) := by decide +kernel
theorem dX3_tryCell_112 : decode cX3_tryCell 112 = .ok (.invokevirtual 55, 3) := by decide +kernel
theorem dX3_tryCell_115 : decode cX3_tryCell 115 = .ok (.ifCond .eq 62, 3) := by decide +kernel
theorem dX3_tryCell_118 : decode cX3_tryCell 118 = .ok (.aload_n 0, 1) := by decide +kernel
theorem dX3_tryCell_119 : decode cX3_tryCell 119 = .ok (.iload_n 2, 1) := by decide +kernel
theorem dX3_tryCell_120 : decode cX3_tryCell 120 = .ok (.aload_n 1, 1) := by decide +kernel
theorem dX3_tryCell_121 : decode cX3_tryCell 121 = .ok (.iload_n 2, 1) := by decide +kernel
theorem dX3_tryCell_122 : decode cX3_tryCell 122 = .ok (.aload_n 0, 1) := by decide +kernel
theorem dX3_tryCell_123 : decode cX3_tryCell 123 = .ok (.getfield 9, 3) := by decide +kernel
theorem dX3_tryCell_126 : decode cX3_tryCell 126 = .ok (.iload 4, 2) := by decide +kernel
theorem dX3_tryCell_128 : decode cX3_tryCell 128 = .ok (.iaload, 1) := by decide +kernel
theorem dX3_tryCell_129 : decode cX3_tryCell 129 = .ok (.ifCond .le 7, 3) := by decide +kernel
theorem dX3_tryCell_132 : decode cX3_tryCell 132 = .ok (.iconst 2, 1) := by decide +kernel
theorem dX3_tryCell_133 : decode cX3_tryCell 133 = .ok (.goto 4, 3) := by decide +kernel
theorem dX3_tryCell_136 : decode cX3_tryCell 136 = .ok (.iconst 3, 1) := by decide +kernel
theorem dX3_tryCell_137 : decode cX3_tryCell 137 = .ok (.invokevirtual 45, 3) := by decide +kernel
theorem dX3_tryCell_140 : decode cX3_tryCell 140 = .ok (.invokevirtual 63, 3) := by decide +kernel
theorem dX3_tryCell_143 : decode cX3_tryCell 143 = .ok (.goto 34, 3) := by decide +kernel
theorem dX3_tryCell_146 : decode cX3_tryCell 146 = .ok (.aload_n 0, 1) := by decide +kernel
theorem dX3_tryCell_147 : decode cX3_tryCell 147 = .ok (.iload_n 3, 1) := by decide +kernel
theorem dX3_tryCell_148 : decode cX3_tryCell 148 = .ok (.iload_n 2, 1) := by decide +kernel
theorem dX3_tryCell_149 : decode cX3_tryCell 149 = .ok (.iload 4, 2) := by decide +kernel
theorem dX3_tryCell_151 : decode cX3_tryCell 151 = .ok (.aload_n 1, 1) := by decide +kernel
theorem dX3_tryCell_152 : decode cX3_tryCell 152 = .ok (.iload_n 2, 1) := by decide +kernel
theorem dX3_tryCell_153 : decode cX3_tryCell 153 = .ok (.iconst 2, 1) := by decide +kernel
theorem dX3_tryCell_154 : decode cX3_tryCell 154 = .ok (.invokevirtual 45, 3) := by decide +kernel
theorem dX3_tryCell_157 : decode cX3_tryCell 157 = .ok (.invokevirtual 66, 3) := by decide +kernel
theorem dX3_tryCell_160 : decode cX3_tryCell 160 = .ok (.goto 17, 3) := by decide +kernel
theorem dX3_tryCell_163 : decode cX3_tryCell 163 = .ok (.aload_n 0, 1) := by decide +kernel
theorem dX3_tryCell_164 : decode cX3_tryCell 164 = .ok (.iload_n 3, 1) := by decide +kernel
theorem dX3_tryCell_165 : decode cX3_tryCell 165 = .ok (.iload_n 2, 1) := by decide +kernel
theorem dX3_tryCell_166 : decode cX3_tryCell 166 = .ok (.iload 4, 2) := by decide +kernel
theorem dX3_tryCell_168 : decode cX3_tryCell 168 = .ok (.aload_n 1, 1) := by decide +kernel
theorem dX3_tryCell_169 : decode cX3_tryCell 169 = .ok (.iload_n 2, 1) := by decide +kernel
theorem dX3_tryCell_170 : decode cX3_tryCell 170 = .ok (.iconst 2, 1) := by decide +kernel
theorem dX3_tryCell_171 : decode cX3_tryCell 171 = .ok (.invokevirtual 45, 3) := by decide +kernel
theorem dX3_tryCell_174 : decode cX3_tryCell 174 = .ok (.invokevirtual 70, 3) := by decide +kernel
theorem dX3_tryCell_177 : decode cX3_tryCell 177 = .ok (.return_, 1) := by decide +kernel
theorem dX3_tryTwo_0 : decode cX3_tryTwo 0 = .ok (.aload_n 0, 1) := by decide +kernel
theorem dX3_tryTwo_1 : decode cX3_tryTwo 1 = .ok (.iload_n 2, 1) := by decide +kernel
theorem dX3_tryTwo_2 : decode cX3_tryTwo 2 = .ok (.iload_n 3, 1) := by decide +kernel
theorem dX3_tryTwo_3 : decode cX3_tryTwo 3 = .ok (.invokevirtual 55, 3) := by decide +kernel
theorem dX3_tryTwo_6 : decode cX3_tryTwo 6 = .ok (.ifCond .eq 13, 3) := by decide +kernel
theorem dX3_tryTwo_9 : decode cX3_tryTwo 9 = .ok (.aload_n 0, 1) := by decide +kernel
theorem dX3_tryTwo_10 : decode cX3_tryTwo 10 = .ok (.iload_n 2, 1) := by decide +kernel
theorem dX3_tryTwo_11 : decode cX3_tryTwo 11 = .ok (.iload 4, 2) := by decide +kernel
theorem dX3_tryTwo_13 : decode cX3_tryTwo 13 = .ok (.invokevirtual 55, 3) := by decide +kernel
theorem dX3_tryTwo_16 : decode cX3_tryTwo 16 = .ok (.ifCond .ne 4, 3) := by decide +kernel
theorem dX3_tryTwo_19 : decode cX3_tryTwo 19 = .ok (.return_, 1) := by decide +kernel
theorem dX3_tryTwo_20 : decode cX3_tryTwo 20 = .ok (.iload_n 1, 1) := by decide +kernel
theorem dX3_tryTwo_21 : decode cX3_tryTwo 21 = .ok (.iconst 2, 1) := by decide +kernel
theorem dX3_tryTwo_22 : decode cX3_tryTwo 22 = .ok (.if_icmp .ne 25, 3) := by decide +kernel
theorem dX3_tryTwo_25 : decode cX3_tryTwo 25 = .ok (.aload_n 0, 1) := by decide +kernel
theorem dX3_tryTwo_26 : decode cX3_tryTwo 26 = .ok (.iload_n 2, 1) := by decide +kernel
theorem dX3_tryTwo_27 : decode cX3_tryTwo 27 = .ok (.aload_n 0, 1) := by decide +kernel
theorem dX3_tryTwo_28 : decode cX3_tryTwo 28 = .ok (.getfield 9, 3) := by decide +kernel
theorem dX3_tryTwo_31 : decode cX3_tryTwo 31 = .ok (.iload_n 3, 1) := by decide +kernel
theorem dX3_tryTwo_32 : decode cX3_tryTwo 32 = .ok (.iaload, 1) := by decide +kernel
theorem dX3_tryTwo_33 : decode cX3_tryTwo 33 = .ok (.aload_n 0, 1) := by decide +kernel
theorem dX3_tryTwo_34 : decode cX3_tryTwo 34 = .ok (.getfield 9, 3) := by decide +kernel
theorem dX3_tryTwo_37 : decode cX3_tryTwo 37 = .ok (.iload 4, 2) := by decide +kernel
theorem dX3_tryTwo_39 : decode cX3_tryTwo 39 = .ok (.iaload, 1) := by decide +kernel
theorem dX3_tryTwo_40 : decode cX3_tryTwo 40 = .ok (.iadd, 1) := by decide +kernel
theorem dX3_tryTwo_41 : decode cX3_tryTwo 41 = .ok (.invokevirtual 51, 3) := by decide +kernel
theorem dX3_tryTwo_44 : decode cX3_tryTwo 44 = .ok (.goto 49, 3) := by decide +kernel
theorem dX3_tryTwo_47 : decode cX3_tryTwo 47 = .ok (.iload_n 1, 1) := by decide +kernel
theorem dX3_tryTwo_48 : decode cX3_tryTwo 48 = .ok (.iconst 3, 1) := by decide +kernel
theorem dX3_tryTwo_49 : decode cX3_tryTwo 49 = .ok (.if_icmp .ne 25, 3) := by decide +kernel
theorem dX3_tryTwo_52 : decode cX3_tryTwo 52 = .ok (.aload_n 0, 1) := by decide +kernel
theorem dX3_tryTwo_53 : decode cX3_tryTwo 53 = .ok (.iload_n 2, 1) := by decide +kernel
theorem dX3_tryTwo_54 : decode cX3_tryTwo 54 = .ok (.aload_n 0, 1) := by decide +kernel
theorem dX3_tryTwo_55 : decode cX3_tryTwo 55 = .ok (.getfield 9, 3) := by decide +kernel
theorem dX3_tryTwo_58 : decode cX3_tryTwo 58 = .ok (.iload_n 3, 1) := by decide +kernel
theorem dX3_tryTwo_59 : decode cX3_tryTwo 59 = .ok (.iaload, 1) := by decide +kernel
theorem dX3_tryTwo_60 : decode cX3_tryTwo 60 = .ok (.aload_n 0, 1) := by decide +kernel
theorem dX3_tryTwo_61 : decode cX3_tryTwo 61 = .ok (.getfield 9, 3) := by decide +kernel
theorem dX3_tryTwo_64 : decode cX3_tryTwo 64 = .ok (.iload 4, 2) := by decide +kernel
theorem dX3_tryTwo_66 : decode cX3_tryTwo 66 = .ok (.iaload, 1) := by decide +kernel
theorem dX3_tryTwo_67 : decode cX3_tryTwo 67 = .ok (.isub, 1) := by decide +kernel
theorem dX3_tryTwo_68 : decode cX3_tryTwo 68 = .ok (.invokevirtual 51, 3) := by decide +kernel
theorem dX3_tryTwo_71 : decode cX3_tryTwo 71 = .ok (.goto 22, 3) := by decide +kernel
theorem dX3_tryTwo_74 : decode cX3_tryTwo 74 = .ok (.aload_n 0, 1) := by decide +kernel
theorem dX3_tryTwo_75 : decode cX3_tryTwo 75 = .ok (.iload_n 2, 1) := by decide +kernel
theorem dX3_tryTwo_76 : decode cX3_tryTwo 76 = .ok (.aload_n 0, 1) := by decide +kernel
theorem dX3_tryTwo_77 : decode cX3_tryTwo 77 = .ok (.getfield 9, 3) := by decide +kernel
theorem dX3_tryTwo_80 : decode cX3_tryTwo 80 = .ok (.iload_n 3, 1) := by decide +kernel
theorem dX3_tryTwo_81 : decode cX3_tryTwo 81 = .ok (.iaload, 1) := by decide +kernel
theorem dX3_tryTwo_82 : decode cX3_tryTwo 82 = .ok (.aload_n 0, 1) := by decide +kernel
theorem dX3_tryTwo_83 : decode cX3_tryTwo 83 = .ok (.getfield 9, 3) := by decide +kernel
theorem dX3_tryTwo_86 : decode cX3_tryTwo 86 = .ok (.iload 4, 2) := by decide +kernel
theorem dX3_tryTwo_88 : decode cX3_tryTwo 88 = .ok (.iaload, 1) := by decide +kernel
theorem dX3_tryTwo_89 : decode cX3_tryTwo 89 = .ok (.imul, 1) := by decide +kernel
theorem dX3_tryTwo_90 : decode cX3_tryTwo 90 = .ok (.invokevirtual 51, 3) := by decide +kernel
theorem dX3_tryTwo_93 : decode cX3_tryTwo 93 = .ok (.return_, 1) := by decide +kernel
theorem dX3_trySpan_0 : decode cX3_trySpan 0 = .ok (.iconst 0, 1) := by decide +kernel
theorem dX3_trySpan_1 : decode cX3_trySpan 1 = .ok (.istore 5, 2) := by decide +kernel
theorem dX3_trySpan_3 : decode cX3_trySpan 3 = .ok (.ldc 75, 2) := by decide +kernel
theorem dX3_trySpan_5 : decode cX3_trySpan 5 = .ok (.istore 6, 2) := by decide +kernel
theorem dX3_trySpan_7 : decode cX3_trySpan 7 = .ok (.iload_n 3, 1) := by decide +kernel
theorem dX3_trySpan_8 : decode cX3_trySpan 8 = .ok (.istore 7, 2) := by decide +kernel
theorem dX3_trySpan_10 : decode cX3_trySpan 10 = .ok (.iload 7, 2) := by decide +kernel
theorem dX3_trySpan_12 : decode cX3_trySpan 12 = .ok (.iload 4, 2) := by decide +kernel
theorem dX3_trySpan_14 : decode cX3_trySpan 14 = .ok (.if_icmp .gt 46, 3) := by decide +kernel
theorem dX3_trySpan_17 : decode cX3_trySpan 17 = .ok (.aload_n 0, 1) := by decide +kernel
theorem dX3_trySpan_18 : decode cX3_trySpan 18 = .ok (.iload_n 2, 1) := by decide +kernel
theorem dX3_trySpan_19 : decode cX3_trySpan 19 = .ok (.iload 7, 2) := by decide +kernel
theorem dX3_trySpan_21 : decode cX3_trySpan 21 = .ok (.invokevirtual 55, 3) := by decide +kernel
theorem dX3_trySpan_24 : decode cX3_trySpan 24 = .ok (.ifCond .ne 4, 3) := by decide +kernel
theorem dX3_trySpan_27 : decode cX3_trySpan 27 = .ok (.return_, 1) := by decide +kernel
theorem dX3_trySpan_28 : decode cX3_trySpan 28 = .ok (.iload 5, 2) := by decide +kernel
theorem dX3_trySpan_30 : decode cX3_trySpan 30 = .ok (.aload_n 0, 1) := by decide +kernel
theorem dX3_trySpan_31 : decode cX3_trySpan 31 = .ok (.getfield 9, 3) := by decide +kernel
theorem dX3_trySpan_34 : decode cX3_trySpan 34 = .ok (.iload 7, 2) := by decide +kernel
theorem dX3_trySpan_36 : decode cX3_trySpan 36 = .ok (.iaload, 1) := by decide +kernel
theorem dX3_trySpan_37 : decode cX3_trySpan 37 = .ok (.iadd, 1) := by decide +kernel
theorem dX3_trySpan_38 : decode cX3_trySpan 38 = .ok (.istore 5, 2) := by decide +kernel
theorem dX3_trySpan_40 : decode cX3_trySpan 40 = .ok (.iload 6, 2) := by decide +kernel
theorem dX3_trySpan_42 : decode cX3_trySpan 42 = .ok (.aload_n 0, 1) := by decide +kernel
theorem dX3_trySpan_43 : decode cX3_trySpan 43 = .ok (.getfield 9, 3) := by decide +kernel
theorem dX3_trySpan_46 : decode cX3_trySpan 46 = .ok (.iload 7, 2) := by decide +kernel
theorem dX3_trySpan_48 : decode cX3_trySpan 48 = .ok (.iaload, 1) := by decide +kernel
theorem dX3_trySpan_49 : decode cX3_trySpan 49 = .ok (.invokestatic 76, 3) := by decide +kernel
theorem dX3_trySpan_52 : decode cX3_trySpan 52 = .ok (.istore 6, 2) := by decide +kernel
theorem dX3_trySpan_54 : decode cX3_trySpan 54 = .ok (.iinc 7 1, 3) := by decide +kernel
theorem dX3_trySpan_57 : decode cX3_trySpan 57 = .ok (.goto (-47), 3) := by decide +kernel
theorem dX3_trySpan_60 : decode cX3_trySpan 60 = .ok (.aload_n 0, 1) := by decide +kernel
theorem dX3_trySpan_61 : decode cX3_trySpan 61 = .ok (.iload_n 2, 1) := by decide +kernel
theorem dX3_trySpan_62 : decode cX3_trySpan 62 = .ok (.iload_n 1, 1) := by decide +kernel
theorem dX3_trySpan_63 : decode cX3_trySpan 63 = .ok (.bipush 6, 2) := by decide +kernel
theorem dX3_trySpan_65 : decode cX3_trySpan 65 = .ok (.if_icmp .ne 8, 3) := by decide +kernel
theorem dX3_trySpan_68 : decode cX3_trySpan 68 = .ok (.iload 5, 2) := by decide +kernel
theorem dX3_trySpan_70 : decode cX3_trySpan 70 = .ok (.goto 5, 3) := by decide +kernel
theorem dX3_trySpan_73 : decode cX3_trySpan 73 = .ok (.iload 6, 2) := by decide +kernel
theorem dX3_trySpan_75 : decode cX3_trySpan 75 = .ok (.invokevirtual 51, 3) := by decide +kernel
theorem dX3_trySpan_78 : decode cX3_trySpan 78 = .ok (.return_, 1) := by decide +kernel
theorem dX3_takes_0 : decode cX3_takes 0 = .ok (.aload_n 0, 1) := by decide +kernel
theorem dX3_takes_1 : decode cX3_takes 1 = .ok (.getfield 18, 3) := by decide +kernel
theorem dX3_takes_4 : decode cX3_takes 4 = .ok (.iload_n 1, 1) := by decide +kernel
theorem dX3_takes_5 : decode cX3_takes 5 = .ok (.dup2, 1) := by decide +kernel
theorem dX3_takes_6 : decode cX3_takes 6 = .ok (.iaload, 1) := by decide +kernel
theorem dX3_takes_7 : decode cX3_takes 7 = .ok (.iload_n 2, 1) := by decide +kernel
theorem dX3_takes_8 : decode cX3_takes 8 = .ok (.invokestatic 79, 3) := by decide +kernel
theorem dX3_takes_11 : decode cX3_takes 11 = .ok (.ior, 1) := by decide +kernel
theorem dX3_takes_12 : decode cX3_takes 12 = .ok (.iastore, 1) := by decide +kernel
theorem dX3_takes_13 : decode cX3_takes 13 = .ok (.aload_n 0, 1) := by decide +kernel
theorem dX3_takes_14 : decode cX3_takes 14 = .ok (.getfield 30, 3) := by decide +kernel
theorem dX3_takes_17 : decode cX3_takes 17 = .ok (.iload_n 2, 1) := by decide +kernel
theorem dX3_takes_18 : decode cX3_takes 18 = .ok (.invokestatic 34, 3) := by decide +kernel
theorem dX3_takes_21 : decode cX3_takes 21 = .ok (.ifCond .ne 12, 3) := by decide +kernel
theorem dX3_takes_24 : decode cX3_takes 24 = .ok (.aload_n 0, 1) := by decide +kernel
theorem dX3_takes_25 : decode cX3_takes 25 = .ok (.getfield 21, 3) := by decide +kernel
theorem dX3_takes_28 : decode cX3_takes 28 = .ok (.iload_n 1, 1) := by decide +kernel
theorem dX3_takes_29 : decode cX3_takes 29 = .ok (.iload_n 2, 1) := by decide +kernel
theorem dX3_takes_30 : decode cX3_takes 30 = .ok (.iastore, 1) := by decide +kernel
theorem dX3_takes_31 : decode cX3_takes 31 = .ok (.iconst 0, 1) := by decide +kernel
theorem dX3_takes_32 : decode cX3_takes 32 = .ok (.ireturn, 1) := by decide +kernel
theorem dX3_takes_33 : decode cX3_takes 33 = .ok (.aload_n 0, 1) := by decide +kernel
theorem dX3_takes_34 : decode cX3_takes 34 = .ok (.getfield 15, 3) := by decide +kernel
theorem dX3_takes_37 : decode cX3_takes 37 = .ok (.iload_n 1, 1) := by decide +kernel
theorem dX3_takes_38 : decode cX3_takes 38 = .ok (.aload_n 0, 1) := by decide +kernel
theorem dX3_takes_39 : decode cX3_takes 39 = .ok (.getfield 15, 3) := by decide +kernel
theorem dX3_takes_42 : decode cX3_takes 42 = .ok (.iload_n 1, 1) := by decide +kernel
theorem dX3_takes_43 : decode cX3_takes 43 = .ok (.iaload, 1) := by decide +kernel
theorem dX3_takes_44 : decode cX3_takes 44 = .ok (.aload_n 0, 1) := by decide +kernel
theorem dX3_takes_45 : decode cX3_takes 45 = .ok (.getfield 15, 3) := by decide +kernel
theorem dX3_takes_48 : decode cX3_takes 48 = .ok (.iload_n 2, 1) := by decide +kernel
theorem dX3_takes_49 : decode cX3_takes 49 = .ok (.iaload, 1) := by decide +kernel
theorem dX3_takes_50 : decode cX3_takes 50 = .ok (.iconst 1, 1) := by decide +kernel
theorem dX3_takes_51 : decode cX3_takes 51 = .ok (.iadd, 1) := by decide +kernel
theorem dX3_takes_52 : decode cX3_takes 52 = .ok (.invokestatic 76, 3) := by decide +kernel
theorem dX3_takes_55 : decode cX3_takes 55 = .ok (.iastore, 1) := by decide +kernel
theorem dX3_takes_56 : decode cX3_takes 56 = .ok (.iconst 1, 1) := by decide +kernel
theorem dX3_takes_57 : decode cX3_takes 57 = .ok (.ireturn, 1) := by decide +kernel
theorem dX3_settleAs_0 : decode cX3_settleAs 0 = .ok (.aload_n 0, 1) := by decide +kernel
theorem dX3_settleAs_1 : decode cX3_settleAs 1 = .ok (.iload_n 1, 1) := by decide +kernel
theorem dX3_settleAs_2 : decode cX3_settleAs 2 = .ok (.iload_n 2, 1) := by decide +kernel
theorem dX3_settleAs_3 : decode cX3_settleAs 3 = .ok (.invokevirtual 55, 3) := by decide +kernel
theorem dX3_settleAs_6 : decode cX3_settleAs 6 = .ok (.ifCond .eq 14, 3) := by decide +kernel
theorem dX3_settleAs_9 : decode cX3_settleAs 9 = .ok (.aload_n 0, 1) := by decide +kernel
theorem dX3_settleAs_10 : decode cX3_settleAs 10 = .ok (.iload_n 1, 1) := by decide +kernel
theorem dX3_settleAs_11 : decode cX3_settleAs 11 = .ok (.aload_n 0, 1) := by decide +kernel
theorem dX3_settleAs_12 : decode cX3_settleAs 12 = .ok (.getfield 9, 3) := by decide +kernel
theorem dX3_settleAs_15 : decode cX3_settleAs 15 = .ok (.iload_n 2, 1) := by decide +kernel
theorem dX3_settleAs_16 : decode cX3_settleAs 16 = .ok (.iaload, 1) := by decide +kernel
theorem dX3_settleAs_17 : decode cX3_settleAs 17 = .ok (.invokevirtual 51, 3) := by decide +kernel
theorem dX3_settleAs_20 : decode cX3_settleAs 20 = .ok (.return_, 1) := by decide +kernel
theorem dX3_settle_0 : decode cX3_settle 0 = .ok (.aload_n 0, 1) := by decide +kernel
theorem dX3_settle_1 : decode cX3_settle 1 = .ok (.getfield 9, 3) := by decide +kernel
theorem dX3_settle_4 : decode cX3_settle 4 = .ok (.iload_n 1, 1) := by decide +kernel
theorem dX3_settle_5 : decode cX3_settle 5 = .ok (.iload_n 2, 1) := by decide +kernel
theorem dX3_settle_6 : decode cX3_settle 6 = .ok (.iastore, 1) := by decide +kernel
theorem dX3_settle_7 : decode cX3_settle 7 = .ok (.aload_n 0, 1) := by decide +kernel
theorem dX3_settle_8 : decode cX3_settle 8 = .ok (.dup, 1) := by decide +kernel
theorem dX3_settle_9 : decode cX3_settle 9 = .ok (.getfield 30, 3) := by decide +kernel
theorem dX3_settle_12 : decode cX3_settle 12 = .ok (.iload_n 1, 1) := by decide +kernel
theorem dX3_settle_13 : decode cX3_settle 13 = .ok (.invokestatic 79, 3) := by decide +kernel
theorem dX3_settle_16 : decode cX3_settle 16 = .ok (.ior, 1) := by decide +kernel
theorem dX3_settle_17 : decode cX3_settle 17 = .ok (.putfield 30, 3) := by decide +kernel
theorem dX3_settle_20 : decode cX3_settle 20 = .ok (.aload_n 0, 1) := by decide +kernel
theorem dX3_settle_21 : decode cX3_settle 21 = .ok (.getfield 21, 3) := by decide +kernel
theorem dX3_settle_24 : decode cX3_settle 24 = .ok (.iload_n 1, 1) := by decide +kernel
theorem dX3_settle_25 : decode cX3_settle 25 = .ok (.bipush (-4), 2) := by decide +kernel
theorem dX3_settle_27 : decode cX3_settle 27 = .ok (.iastore, 1) := by decide +kernel
theorem dX3_settle_28 : decode cX3_settle 28 = .ok (.return_, 1) := by decide +kernel
theorem dX3_findCircles_0 : decode cX3_findCircles 0 = .ok (.aload_n 0, 1) := by decide +kernel
theorem dX3_findCircles_1 : decode cX3_findCircles 1 = .ok (.iconst 0, 1) := by decide +kernel
theorem dX3_findCircles_2 : decode cX3_findCircles 2 = .ok (.putfield 83, 3) := by decide +kernel
theorem dX3_findCircles_5 : decode cX3_findCircles 5 = .ok (.aload_n 0, 1) := by decide +kernel
theorem dX3_findCircles_6 : decode cX3_findCircles 6 = .ok (.iconst 0, 1) := by decide +kernel
theorem dX3_findCircles_7 : decode cX3_findCircles 7 = .ok (.putfield 86, 3) := by decide +kernel
theorem dX3_findCircles_10 : decode cX3_findCircles 10 = .ok (.iconst 0, 1) := by decide +kernel
theorem dX3_findCircles_11 : decode cX3_findCircles 11 = .ok (.istore_n 1, 1) := by decide +kernel
theorem dX3_findCircles_12 : decode cX3_findCircles 12 = .ok (.iload_n 1, 1) := by decide +kernel
theorem dX3_findCircles_13 : decode cX3_findCircles 13 = .ok (.bipush 30, 2) := by decide +kernel
theorem dX3_findCircles_15 : decode cX3_findCircles 15 = .ok (.if_icmp .ge 49, 3) := by decide +kernel
theorem dX3_findCircles_18 : decode cX3_findCircles 18 = .ok (.aload_n 0, 1) := by decide +kernel
theorem dX3_findCircles_19 : decode cX3_findCircles 19 = .ok (.iload_n 1, 1) := by decide +kernel
theorem dX3_findCircles_20 : decode cX3_findCircles 20 = .ok (.invokevirtual 89, 3) := by decide +kernel
theorem dX3_findCircles_23 : decode cX3_findCircles 23 = .ok (.istore_n 2, 1) := by decide +kernel
theorem dX3_findCircles_24 : decode cX3_findCircles 24 = .ok (.iload_n 2, 1) := by decide +kernel
theorem dX3_findCircles_25 : decode cX3_findCircles 25 = .ok (.bipush (-4), 2) := by decide +kernel
theorem dX3_findCircles_27 : decode cX3_findCircles 27 = .ok (.if_icmp .eq 16, 3) := by decide +kernel
theorem dX3_findCircles_30 : decode cX3_findCircles 30 = .ok (.aload_n 0, 1) := by decide +kernel
theorem dX3_findCircles_31 : decode cX3_findCircles 31 = .ok (.dup, 1) := by decide +kernel
theorem dX3_findCircles_32 : decode cX3_findCircles 32 = .ok (.getfield 83, 3) := by decide +kernel
theorem dX3_findCircles_35 : decode cX3_findCircles 35 = .ok (.iload_n 1, 1) := by decide +kernel
theorem dX3_findCircles_36 : decode cX3_findCircles 36 = .ok (.invokestatic 79, 3) := by decide +kernel
theorem dX3_findCircles_39 : decode cX3_findCircles 39 = .ok (.ior, 1) := by decide +kernel
theorem dX3_findCircles_40 : decode cX3_findCircles 40 = .ok (.putfield 83, 3) := by decide +kernel
theorem dX3_findCircles_43 : decode cX3_findCircles 43 = .ok (.iload_n 2, 1) := by decide +kernel
theorem dX3_findCircles_44 : decode cX3_findCircles 44 = .ok (.iload_n 1, 1) := by decide +kernel
theorem dX3_findCircles_45 : decode cX3_findCircles 45 = .ok (.if_icmp .ne 13, 3) := by decide +kernel
theorem dX3_findCircles_48 : decode cX3_findCircles 48 = .ok (.aload_n 0, 1) := by decide +kernel
theorem dX3_findCircles_49 : decode cX3_findCircles 49 = .ok (.dup, 1) := by decide +kernel
theorem dX3_findCircles_50 : decode cX3_findCircles 50 = .ok (.getfield 86, 3) := by decide +kernel
theorem dX3_findCircles_53 : decode cX3_findCircles 53 = .ok (.iconst 1, 1) := by decide +kernel
theorem dX3_findCircles_54 : decode cX3_findCircles 54 = .ok (.iadd, 1) := by decide +kernel
theorem dX3_findCircles_55 : decode cX3_findCircles 55 = .ok (.putfield 86, 3) := by decide +kernel
theorem dX3_findCircles_58 : decode cX3_findCircles 58 = .ok (.iinc 1 1, 3) := by decide +kernel
theorem dX3_findCircles_61 : decode cX3_findCircles 61 = .ok (.goto (-49), 3) := by decide +kernel
theorem dX3_findCircles_64 : decode cX3_findCircles 64 = .ok (.return_, 1) := by decide +kernel
theorem dX3_leastOfCircle_0 : decode cX3_leastOfCircle 0 = .ok (.iload_n 1, 1) := by decide +kernel
theorem dX3_leastOfCircle_1 : decode cX3_leastOfCircle 1 = .ok (.istore_n 2, 1) := by decide +kernel
theorem dX3_leastOfCircle_2 : decode cX3_leastOfCircle 2 = .ok (.aload_n 0, 1) := by decide +kernel
theorem dX3_leastOfCircle_3 : decode cX3_leastOfCircle 3 = .ok (.getfield 21, 3) := by decide +kernel
theorem dX3_leastOfCircle_6 : decode cX3_leastOfCircle 6 = .ok (.iload_n 1, 1) := by decide +kernel
theorem dX3_leastOfCircle_7 : decode cX3_leastOfCircle 7 = .ok (.iaload, 1) := by decide +kernel
theorem dX3_leastOfCircle_8 : decode cX3_leastOfCircle 8 = .ok (.istore_n 3, 1) := by decide +kernel
theorem dX3_leastOfCircle_9 : decode cX3_leastOfCircle 9 = .ok (.iconst 1, 1) := by decide +kernel
theorem dX3_leastOfCircle_10 : decode cX3_leastOfCircle 10 = .ok (.istore 4, 2) := by decide +kernel
theorem dX3_leastOfCircle_12 : decode cX3_leastOfCircle 12 = .ok (.iload_n 3, 1) := by decide +kernel
theorem dX3_leastOfCircle_13 : decode cX3_leastOfCircle 13 = .ok (.bipush (-4), 2) := by decide +kernel
theorem dX3_leastOfCircle_15 : decode cX3_leastOfCircle 15 = .ok (.if_icmp .eq 34, 3) := by decide +kernel
theorem dX3_leastOfCircle_18 : decode cX3_leastOfCircle 18 = .ok (.iload_n 3, 1) := by decide +kernel
theorem dX3_leastOfCircle_19 : decode cX3_leastOfCircle 19 = .ok (.iload_n 1, 1) := by decide +kernel
theorem dX3_leastOfCircle_20 : decode cX3_leastOfCircle 20 = .ok (.if_icmp .eq 29, 3) := by decide +kernel
theorem dX3_leastOfCircle_23 : decode cX3_leastOfCircle 23 = .ok (.iload 4, 2) := by decide +kernel
theorem dX3_leastOfCircle_25 : decode cX3_leastOfCircle 25 = .ok (.bipush 30, 2) := by decide +kernel
theorem dX3_leastOfCircle_27 : decode cX3_leastOfCircle 27 = .ok (.if_icmp .ge 22, 3) := by decide +kernel
theorem dX3_leastOfCircle_30 : decode cX3_leastOfCircle 30 = .ok (.iload_n 2, 1) := by decide +kernel
theorem dX3_leastOfCircle_31 : decode cX3_leastOfCircle 31 = .ok (.iload_n 3, 1) := by decide +kernel
theorem dX3_leastOfCircle_32 : decode cX3_leastOfCircle 32 = .ok (.invokestatic 92, 3) := by decide +kernel
theorem dX3_leastOfCircle_35 : decode cX3_leastOfCircle 35 = .ok (.istore_n 2, 1) := by decide +kernel
theorem dX3_leastOfCircle_36 : decode cX3_leastOfCircle 36 = .ok (.aload_n 0, 1) := by decide +kernel
theorem dX3_leastOfCircle_37 : decode cX3_leastOfCircle 37 = .ok (.getfield 21, 3) := by decide +kernel
theorem dX3_leastOfCircle_40 : decode cX3_leastOfCircle 40 = .ok (.iload_n 3, 1) := by decide +kernel
theorem dX3_leastOfCircle_41 : decode cX3_leastOfCircle 41 = .ok (.iaload, 1) := by decide +kernel
theorem dX3_leastOfCircle_42 : decode cX3_leastOfCircle 42 = .ok (.istore_n 3, 1) := by decide +kernel
theorem dX3_leastOfCircle_43 : decode cX3_leastOfCircle 43 = .ok (.iinc 4 1, 3) := by decide +kernel
theorem dX3_leastOfCircle_46 : decode cX3_leastOfCircle 46 = .ok (.goto (-34), 3) := by decide +kernel
theorem dX3_leastOfCircle_49 : decode cX3_leastOfCircle 49 = .ok (.iload_n 3, 1) := by decide +kernel
theorem dX3_leastOfCircle_50 : decode cX3_leastOfCircle 50 = .ok (.iload_n 1, 1) := by decide +kernel
theorem dX3_leastOfCircle_51 : decode cX3_leastOfCircle 51 = .ok (.if_icmp .ne 7, 3) := by decide +kernel
theorem dX3_leastOfCircle_54 : decode cX3_leastOfCircle 54 = .ok (.iload_n 2, 1) := by decide +kernel
theorem dX3_leastOfCircle_55 : decode cX3_leastOfCircle 55 = .ok (.goto 5, 3) := by decide +kernel
theorem dX3_leastOfCircle_58 : decode cX3_leastOfCircle 58 = .ok (.bipush (-4), 2) := by decide +kernel
theorem dX3_leastOfCircle_60 : decode cX3_leastOfCircle 60 = .ok (.ireturn, 1) := by decide +kernel
theorem dX3_nthOfCircle_0 : decode cX3_nthOfCircle 0 = .ok (.aload_n 0, 1) := by decide +kernel
theorem dX3_nthOfCircle_1 : decode cX3_nthOfCircle 1 = .ok (.getfield 83, 3) := by decide +kernel
theorem dX3_nthOfCircle_4 : decode cX3_nthOfCircle 4 = .ok (.iload_n 1, 1) := by decide +kernel
theorem dX3_nthOfCircle_5 : decode cX3_nthOfCircle 5 = .ok (.invokestatic 34, 3) := by decide +kernel
theorem dX3_nthOfCircle_8 : decode cX3_nthOfCircle 8 = .ok (.ifCond .eq 9, 3) := by decide +kernel
theorem dX3_nthOfCircle_11 : decode cX3_nthOfCircle 11 = .ok (.iload_n 2, 1) := by decide +kernel
theorem dX3_nthOfCircle_12 : decode cX3_nthOfCircle 12 = .ok (.bipush 30, 2) := by decide +kernel
theorem dX3_nthOfCircle_14 : decode cX3_nthOfCircle 14 = .ok (.if_icmp .lt 6, 3) := by decide +kernel
theorem dX3_nthOfCircle_17 : decode cX3_nthOfCircle 17 = .ok (.bipush (-4), 2) := by decide +kernel
theorem dX3_nthOfCircle_19 : decode cX3_nthOfCircle 19 = .ok (.ireturn, 1) := by decide +kernel
theorem dX3_nthOfCircle_20 : decode cX3_nthOfCircle 20 = .ok (.iload_n 1, 1) := by decide +kernel
theorem dX3_nthOfCircle_21 : decode cX3_nthOfCircle 21 = .ok (.istore_n 3, 1) := by decide +kernel
theorem dX3_nthOfCircle_22 : decode cX3_nthOfCircle 22 = .ok (.iconst 0, 1) := by decide +kernel
theorem dX3_nthOfCircle_23 : decode cX3_nthOfCircle 23 = .ok (.istore 4, 2) := by decide +kernel
theorem dX3_nthOfCircle_25 : decode cX3_nthOfCircle 25 = .ok (.iload 4, 2) := by decide +kernel
theorem dX3_nthOfCircle_27 : decode cX3_nthOfCircle 27 = .ok (.iload_n 2, 1) := by decide +kernel
theorem dX3_nthOfCircle_28 : decode cX3_nthOfCircle 28 = .ok (.if_icmp .ge 24, 3) := by decide +kernel
theorem dX3_nthOfCircle_31 : decode cX3_nthOfCircle 31 = .ok (.aload_n 0, 1) := by decide +kernel
theorem dX3_nthOfCircle_32 : decode cX3_nthOfCircle 32 = .ok (.getfield 21, 3) := by decide +kernel
theorem dX3_nthOfCircle_35 : decode cX3_nthOfCircle 35 = .ok (.iload_n 3, 1) := by decide +kernel
theorem dX3_nthOfCircle_36 : decode cX3_nthOfCircle 36 = .ok (.iaload, 1) := by decide +kernel
theorem dX3_nthOfCircle_37 : decode cX3_nthOfCircle 37 = .ok (.istore_n 3, 1) := by decide +kernel
theorem dX3_nthOfCircle_38 : decode cX3_nthOfCircle 38 = .ok (.iload_n 3, 1) := by decide +kernel
theorem dX3_nthOfCircle_39 : decode cX3_nthOfCircle 39 = .ok (.iload_n 1, 1) := by decide +kernel
theorem dX3_nthOfCircle_40 : decode cX3_nthOfCircle 40 = .ok (.if_icmp .ne 6, 3) := by decide +kernel
theorem dX3_nthOfCircle_43 : decode cX3_nthOfCircle 43 = .ok (.bipush (-4), 2) := by decide +kernel
theorem dX3_nthOfCircle_45 : decode cX3_nthOfCircle 45 = .ok (.ireturn, 1) := by decide +kernel
theorem dX3_nthOfCircle_46 : decode cX3_nthOfCircle 46 = .ok (.iinc 4 1, 3) := by decide +kernel
theorem dX3_nthOfCircle_49 : decode cX3_nthOfCircle 49 = .ok (.goto (-24), 3) := by decide +kernel
theorem dX3_nthOfCircle_52 : decode cX3_nthOfCircle 52 = .ok (.iload_n 3, 1) := by decide +kernel
theorem dX3_nthOfCircle_53 : decode cX3_nthOfCircle 53 = .ok (.ireturn, 1) := by decide +kernel
theorem dX3_standing_0 : decode cX3_standing 0 = .ok (.aload_n 0, 1) := by decide +kernel
theorem dX3_standing_1 : decode cX3_standing 1 = .ok (.getfield 30, 3) := by decide +kernel
theorem dX3_standing_4 : decode cX3_standing 4 = .ok (.iload_n 1, 1) := by decide +kernel
theorem dX3_standing_5 : decode cX3_standing 5 = .ok (.invokestatic 34, 3) := by decide +kernel
theorem dX3_standing_8 : decode cX3_standing 8 = .ok (.ifCond .eq 5, 3) := by decide +kernel
theorem dX3_standing_11 : decode cX3_standing 11 = .ok (.iconst 0, 1) := by decide +kernel
theorem dX3_standing_12 : decode cX3_standing 12 = .ok (.ireturn, 1) := by decide +kernel
theorem dX3_standing_13 : decode cX3_standing 13 = .ok (.aload_n 0, 1) := by decide +kernel
theorem dX3_standing_14 : decode cX3_standing 14 = .ok (.getfield 83, 3) := by decide +kernel
theorem dX3_standing_17 : decode cX3_standing 17 = .ok (.iload_n 1, 1) := by decide +kernel
theorem dX3_standing_18 : decode cX3_standing 18 = .ok (.invokestatic 34, 3) := by decide +kernel
theorem dX3_standing_21 : decode cX3_standing 21 = .ok (.ifCond .eq 7, 3) := by decide +kernel
theorem dX3_standing_24 : decode cX3_standing 24 = .ok (.iconst 2, 1) := by decide +kernel
theorem dX3_standing_25 : decode cX3_standing 25 = .ok (.goto 4, 3) := by decide +kernel
theorem dX3_standing_28 : decode cX3_standing 28 = .ok (.iconst 1, 1) := by decide +kernel
theorem dX3_standing_29 : decode cX3_standing 29 = .ok (.ireturn, 1) := by decide +kernel
theorem dX3_greatestHeight_0 : decode cX3_greatestHeight 0 = .ok (.iconst 0, 1) := by decide +kernel
theorem dX3_greatestHeight_1 : decode cX3_greatestHeight 1 = .ok (.istore_n 1, 1) := by decide +kernel
theorem dX3_greatestHeight_2 : decode cX3_greatestHeight 2 = .ok (.iconst 0, 1) := by decide +kernel
theorem dX3_greatestHeight_3 : decode cX3_greatestHeight 3 = .ok (.istore_n 2, 1) := by decide +kernel
theorem dX3_greatestHeight_4 : decode cX3_greatestHeight 4 = .ok (.iload_n 2, 1) := by decide +kernel
theorem dX3_greatestHeight_5 : decode cX3_greatestHeight 5 = .ok (.bipush 30, 2) := by decide +kernel
theorem dX3_greatestHeight_7 : decode cX3_greatestHeight 7 = .ok (.if_icmp .ge 31, 3) := by decide +kernel
theorem dX3_greatestHeight_10 : decode cX3_greatestHeight 10 = .ok (.aload_n 0, 1) := by decide +kernel
theorem dX3_greatestHeight_11 : decode cX3_greatestHeight 11 = .ok (.getfield 30, 3) := by decide +kernel
theorem dX3_greatestHeight_14 : decode cX3_greatestHeight 14 = .ok (.iload_n 2, 1) := by decide +kernel
theorem dX3_greatestHeight_15 : decode cX3_greatestHeight 15 = .ok (.invokestatic 34, 3) := by decide +kernel
theorem dX3_greatestHeight_18 : decode cX3_greatestHeight 18 = .ok (.ifCond .eq 14, 3) := by decide +kernel
theorem dX3_greatestHeight_21 : decode cX3_greatestHeight 21 = .ok (.iload_n 1, 1) := by decide +kernel
theorem dX3_greatestHeight_22 : decode cX3_greatestHeight 22 = .ok (.aload_n 0, 1) := by decide +kernel
theorem dX3_greatestHeight_23 : decode cX3_greatestHeight 23 = .ok (.getfield 15, 3) := by decide +kernel
theorem dX3_greatestHeight_26 : decode cX3_greatestHeight 26 = .ok (.iload_n 2, 1) := by decide +kernel
theorem dX3_greatestHeight_27 : decode cX3_greatestHeight 27 = .ok (.iaload, 1) := by decide +kernel
theorem dX3_greatestHeight_28 : decode cX3_greatestHeight 28 = .ok (.invokestatic 76, 3) := by decide +kernel
theorem dX3_greatestHeight_31 : decode cX3_greatestHeight 31 = .ok (.istore_n 1, 1) := by decide +kernel
theorem dX3_greatestHeight_32 : decode cX3_greatestHeight 32 = .ok (.iinc 2 1, 3) := by decide +kernel
theorem dX3_greatestHeight_35 : decode cX3_greatestHeight 35 = .ok (.goto (-31), 3) := by decide +kernel
theorem dX3_greatestHeight_38 : decode cX3_greatestHeight 38 = .ok (.iload_n 1, 1) := by decide +kernel
theorem dX3_greatestHeight_39 : decode cX3_greatestHeight 39 = .ok (.ireturn, 1) := by decide +kernel
theorem dX3_countReads_0 : decode cX3_countReads 0 = .ok (.iconst 0, 1) := by decide +kernel
theorem dX3_countReads_1 : decode cX3_countReads 1 = .ok (.istore_n 1, 1) := by decide +kernel
theorem dX3_countReads_2 : decode cX3_countReads 2 = .ok (.iconst 0, 1) := by decide +kernel
theorem dX3_countReads_3 : decode cX3_countReads 3 = .ok (.istore_n 2, 1) := by decide +kernel
theorem dX3_countReads_4 : decode cX3_countReads 4 = .ok (.iload_n 2, 1) := by decide +kernel
theorem dX3_countReads_5 : decode cX3_countReads 5 = .ok (.bipush 30, 2) := by decide +kernel
theorem dX3_countReads_7 : decode cX3_countReads 7 = .ok (.if_icmp .ge 21, 3) := by decide +kernel
theorem dX3_countReads_10 : decode cX3_countReads 10 = .ok (.iload_n 1, 1) := by decide +kernel
theorem dX3_countReads_11 : decode cX3_countReads 11 = .ok (.aload_n 0, 1) := by decide +kernel
theorem dX3_countReads_12 : decode cX3_countReads 12 = .ok (.getfield 18, 3) := by decide +kernel
theorem dX3_countReads_15 : decode cX3_countReads 15 = .ok (.iload_n 2, 1) := by decide +kernel
theorem dX3_countReads_16 : decode cX3_countReads 16 = .ok (.iaload, 1) := by decide +kernel
theorem dX3_countReads_17 : decode cX3_countReads 17 = .ok (.invokestatic 95, 3) := by decide +kernel
theorem dX3_countReads_20 : decode cX3_countReads 20 = .ok (.iadd, 1) := by decide +kernel
theorem dX3_countReads_21 : decode cX3_countReads 21 = .ok (.istore_n 1, 1) := by decide +kernel
theorem dX3_countReads_22 : decode cX3_countReads 22 = .ok (.iinc 2 1, 3) := by decide +kernel
theorem dX3_countReads_25 : decode cX3_countReads 25 = .ok (.goto (-21), 3) := by decide +kernel
theorem dX3_countReads_28 : decode cX3_countReads 28 = .ok (.iload_n 1, 1) := by decide +kernel
theorem dX3_countReads_29 : decode cX3_countReads 29 = .ok (.ireturn, 1) := by decide +kernel
theorem dX3_sumOfValues_0 : decode cX3_sumOfValues 0 = .ok (.iconst 0, 1) := by decide +kernel
theorem dX3_sumOfValues_1 : decode cX3_sumOfValues 1 = .ok (.istore_n 1, 1) := by decide +kernel
theorem dX3_sumOfValues_2 : decode cX3_sumOfValues 2 = .ok (.iconst 0, 1) := by decide +kernel
theorem dX3_sumOfValues_3 : decode cX3_sumOfValues 3 = .ok (.istore_n 2, 1) := by decide +kernel
theorem dX3_sumOfValues_4 : decode cX3_sumOfValues 4 = .ok (.iload_n 2, 1) := by decide +kernel
theorem dX3_sumOfValues_5 : decode cX3_sumOfValues 5 = .ok (.bipush 30, 2) := by decide +kernel
theorem dX3_sumOfValues_7 : decode cX3_sumOfValues 7 = .ok (.if_icmp .ge 33, 3) := by decide +kernel
theorem dX3_sumOfValues_10 : decode cX3_sumOfValues 10 = .ok (.iload_n 1, 1) := by decide +kernel
theorem dX3_sumOfValues_11 : decode cX3_sumOfValues 11 = .ok (.aload_n 0, 1) := by decide +kernel
theorem dX3_sumOfValues_12 : decode cX3_sumOfValues 12 = .ok (.getfield 30, 3) := by decide +kernel
theorem dX3_sumOfValues_15 : decode cX3_sumOfValues 15 = .ok (.iload_n 2, 1) := by decide +kernel
theorem dX3_sumOfValues_16 : decode cX3_sumOfValues 16 = .ok (.invokestatic 34, 3) := by decide +kernel
theorem dX3_sumOfValues_19 : decode cX3_sumOfValues 19 = .ok (.ifCond .eq 12, 3) := by decide +kernel
theorem dX3_sumOfValues_22 : decode cX3_sumOfValues 22 = .ok (.aload_n 0, 1) := by decide +kernel
theorem dX3_sumOfValues_23 : decode cX3_sumOfValues 23 = .ok (.getfield 9, 3) := by decide +kernel
theorem dX3_sumOfValues_26 : decode cX3_sumOfValues 26 = .ok (.iload_n 2, 1) := by decide +kernel
theorem dX3_sumOfValues_27 : decode cX3_sumOfValues 27 = .ok (.iaload, 1) := by decide +kernel
theorem dX3_sumOfValues_28 : decode cX3_sumOfValues 28 = .ok (.goto 4, 3) := by decide +kernel
theorem dX3_sumOfValues_31 : decode cX3_sumOfValues 31 = .ok (.iconst 0, 1) := by decide +kernel
theorem dX3_sumOfValues_32 : decode cX3_sumOfValues 32 = .ok (.iadd, 1) := by decide +kernel
theorem dX3_sumOfValues_33 : decode cX3_sumOfValues 33 = .ok (.istore_n 1, 1) := by decide +kernel
theorem dX3_sumOfValues_34 : decode cX3_sumOfValues 34 = .ok (.iinc 2 1, 3) := by decide +kernel
theorem dX3_sumOfValues_37 : decode cX3_sumOfValues 37 = .ok (.goto (-33), 3) := by decide +kernel
theorem dX3_sumOfValues_40 : decode cX3_sumOfValues 40 = .ok (.iload_n 1, 1) := by decide +kernel
theorem dX3_sumOfValues_41 : decode cX3_sumOfValues 41 = .ok (.ireturn, 1) := by decide +kernel
theorem dX3_nthByHeight_0 : decode cX3_nthByHeight 0 = .ok (.iconst 0, 1) := by decide +kernel
theorem dX3_nthByHeight_1 : decode cX3_nthByHeight 1 = .ok (.istore_n 2, 1) := by decide +kernel
theorem dX3_nthByHeight_2 : decode cX3_nthByHeight 2 = .ok (.iconst 0, 1) := by decide +kernel
theorem dX3_nthByHeight_3 : decode cX3_nthByHeight 3 = .ok (.istore_n 3, 1) := by decide +kernel
theorem dX3_nthByHeight_4 : decode cX3_nthByHeight 4 = .ok (.iload_n 3, 1) := by decide +kernel
theorem dX3_nthByHeight_5 : decode cX3_nthByHeight 5 = .ok (.bipush 30, 2) := by decide +kernel
theorem dX3_nthByHeight_7 : decode cX3_nthByHeight 7 = .ok (.if_icmp .ge 59, 3) := by decide +kernel
theorem dX3_nthByHeight_10 : decode cX3_nthByHeight 10 = .ok (.iconst 0, 1) := by decide +kernel
theorem dX3_nthByHeight_11 : decode cX3_nthByHeight 11 = .ok (.istore 4, 2) := by decide +kernel
theorem dX3_nthByHeight_13 : decode cX3_nthByHeight 13 = .ok (.iload 4, 2) := by decide +kernel
theorem dX3_nthByHeight_15 : decode cX3_nthByHeight 15 = .ok (.bipush 30, 2) := by decide +kernel
theorem dX3_nthByHeight_17 : decode cX3_nthByHeight 17 = .ok (.if_icmp .ge 43, 3) := by decide +kernel
theorem dX3_nthByHeight_20 : decode cX3_nthByHeight 20 = .ok (.aload_n 0, 1) := by decide +kernel
theorem dX3_nthByHeight_21 : decode cX3_nthByHeight 21 = .ok (.getfield 30, 3) := by decide +kernel
theorem dX3_nthByHeight_24 : decode cX3_nthByHeight 24 = .ok (.iload 4, 2) := by decide +kernel
theorem dX3_nthByHeight_26 : decode cX3_nthByHeight 26 = .ok (.invokestatic 34, 3) := by decide +kernel
theorem dX3_nthByHeight_29 : decode cX3_nthByHeight 29 = .ok (.ifCond .eq 25, 3) := by decide +kernel
theorem dX3_nthByHeight_32 : decode cX3_nthByHeight 32 = .ok (.aload_n 0, 1) := by decide +kernel
theorem dX3_nthByHeight_33 : decode cX3_nthByHeight 33 = .ok (.getfield 15, 3) := by decide +kernel
theorem dX3_nthByHeight_36 : decode cX3_nthByHeight 36 = .ok (.iload 4, 2) := by decide +kernel
theorem dX3_nthByHeight_38 : decode cX3_nthByHeight 38 = .ok (.iaload, 1) := by decide +kernel
theorem dX3_nthByHeight_39 : decode cX3_nthByHeight 39 = .ok (.iload_n 3, 1) := by decide +kernel
theorem dX3_nthByHeight_40 : decode cX3_nthByHeight 40 = .ok (.if_icmp .ne 14, 3) := by decide +kernel
theorem dX3_nthByHeight_43 : decode cX3_nthByHeight 43 = .ok (.iload_n 2, 1) := by decide +kernel
theorem dX3_nthByHeight_44 : decode cX3_nthByHeight 44 = .ok (.iload_n 1, 1) := by decide +kernel
theorem dX3_nthByHeight_45 : decode cX3_nthByHeight 45 = .ok (.if_icmp .ne 6, 3) := by decide +kernel
theorem dX3_nthByHeight_48 : decode cX3_nthByHeight 48 = .ok (.iload 4, 2) := by decide +kernel
theorem dX3_nthByHeight_50 : decode cX3_nthByHeight 50 = .ok (.ireturn, 1) := by decide +kernel
theorem dX3_nthByHeight_51 : decode cX3_nthByHeight 51 = .ok (.iinc 2 1, 3) := by decide +kernel
theorem dX3_nthByHeight_54 : decode cX3_nthByHeight 54 = .ok (.iinc 4 1, 3) := by decide +kernel
theorem dX3_nthByHeight_57 : decode cX3_nthByHeight 57 = .ok (.goto (-44), 3) := by decide +kernel
theorem dX3_nthByHeight_60 : decode cX3_nthByHeight 60 = .ok (.iinc 3 1, 3) := by decide +kernel
theorem dX3_nthByHeight_63 : decode cX3_nthByHeight 63 = .ok (.goto (-59), 3) := by decide +kernel
theorem dX3_nthByHeight_66 : decode cX3_nthByHeight 66 = .ok (.bipush (-4), 2) := by decide +kernel
theorem dX3_nthByHeight_68 : decode cX3_nthByHeight 68 = .ok (.ireturn, 1) := by decide +kernel
theorem dX3_readersOf_0 : decode cX3_readersOf 0 = .ok (.iconst 0, 1) := by decide +kernel
theorem dX3_readersOf_1 : decode cX3_readersOf 1 = .ok (.istore_n 2, 1) := by decide +kernel
theorem dX3_readersOf_2 : decode cX3_readersOf 2 = .ok (.iconst 0, 1) := by decide +kernel
theorem dX3_readersOf_3 : decode cX3_readersOf 3 = .ok (.istore_n 3, 1) := by decide +kernel
theorem dX3_readersOf_4 : decode cX3_readersOf 4 = .ok (.iload_n 3, 1) := by decide +kernel
theorem dX3_readersOf_5 : decode cX3_readersOf 5 = .ok (.bipush 30, 2) := by decide +kernel
theorem dX3_readersOf_7 : decode cX3_readersOf 7 = .ok (.if_icmp .ge 27, 3) := by decide +kernel
theorem dX3_readersOf_10 : decode cX3_readersOf 10 = .ok (.aload_n 0, 1) := by decide +kernel
theorem dX3_readersOf_11 : decode cX3_readersOf 11 = .ok (.getfield 18, 3) := by decide +kernel
theorem dX3_readersOf_14 : decode cX3_readersOf 14 = .ok (.iload_n 3, 1) := by decide +kernel
theorem dX3_readersOf_15 : decode cX3_readersOf 15 = .ok (.iaload, 1) := by decide +kernel
theorem dX3_readersOf_16 : decode cX3_readersOf 16 = .ok (.iload_n 1, 1) := by decide +kernel
theorem dX3_readersOf_17 : decode cX3_readersOf 17 = .ok (.iand, 1) := by decide +kernel
theorem dX3_readersOf_18 : decode cX3_readersOf 18 = .ok (.ifCond .eq 10, 3) := by decide +kernel
theorem dX3_readersOf_21 : decode cX3_readersOf 21 = .ok (.iload_n 2, 1) := by decide +kernel
theorem dX3_readersOf_22 : decode cX3_readersOf 22 = .ok (.iload_n 3, 1) := by decide +kernel
theorem dX3_readersOf_23 : decode cX3_readersOf 23 = .ok (.invokestatic 79, 3) := by decide +kernel
theorem dX3_readersOf_26 : decode cX3_readersOf 26 = .ok (.ior, 1) := by decide +kernel
theorem dX3_readersOf_27 : decode cX3_readersOf 27 = .ok (.istore_n 2, 1) := by decide +kernel
theorem dX3_readersOf_28 : decode cX3_readersOf 28 = .ok (.iinc 3 1, 3) := by decide +kernel
theorem dX3_readersOf_31 : decode cX3_readersOf 31 = .ok (.goto (-27), 3) := by decide +kernel
theorem dX3_readersOf_34 : decode cX3_readersOf 34 = .ok (.iload_n 2, 1) := by decide +kernel
theorem dX3_readersOf_35 : decode cX3_readersOf 35 = .ok (.ireturn, 1) := by decide +kernel
theorem dX3_neededBy_0 : decode cX3_neededBy 0 = .ok (.aload_n 0, 1) := by decide +kernel
theorem dX3_neededBy_1 : decode cX3_neededBy 1 = .ok (.getfield 18, 3) := by decide +kernel
theorem dX3_neededBy_4 : decode cX3_neededBy 4 = .ok (.iload_n 1, 1) := by decide +kernel
theorem dX3_neededBy_5 : decode cX3_neededBy 5 = .ok (.iaload, 1) := by decide +kernel
theorem dX3_neededBy_6 : decode cX3_neededBy 6 = .ok (.istore_n 2, 1) := by decide +kernel
theorem dX3_neededBy_7 : decode cX3_neededBy 7 = .ok (.iconst 1, 1) := by decide +kernel
theorem dX3_neededBy_8 : decode cX3_neededBy 8 = .ok (.istore_n 3, 1) := by decide +kernel
theorem dX3_neededBy_9 : decode cX3_neededBy 9 = .ok (.iconst 0, 1) := by decide +kernel
theorem dX3_neededBy_10 : decode cX3_neededBy 10 = .ok (.istore 4, 2) := by decide +kernel
theorem dX3_neededBy_12 : decode cX3_neededBy 12 = .ok (.iload_n 3, 1) := by decide +kernel
theorem dX3_neededBy_13 : decode cX3_neededBy 13 = .ok (.ifCond .eq 66, 3) := by decide +kernel
theorem dX3_neededBy_16 : decode cX3_neededBy 16 = .ok (.iload 4, 2) := by decide +kernel
theorem dX3_neededBy_18 : decode cX3_neededBy 18 = .ok (.bipush 30, 2) := by decide +kernel
theorem dX3_neededBy_20 : decode cX3_neededBy 20 = .ok (.if_icmp .ge 59, 3) := by decide +kernel
theorem dX3_neededBy_23 : decode cX3_neededBy 23 = .ok (.iload_n 2, 1) := by decide +kernel
theorem dX3_neededBy_24 : decode cX3_neededBy 24 = .ok (.istore 5, 2) := by decide +kernel
theorem dX3_neededBy_26 : decode cX3_neededBy 26 = .ok (.iconst 0, 1) := by decide +kernel
theorem dX3_neededBy_27 : decode cX3_neededBy 27 = .ok (.istore 6, 2) := by decide +kernel
theorem dX3_neededBy_29 : decode cX3_neededBy 29 = .ok (.iload 6, 2) := by decide +kernel
theorem dX3_neededBy_31 : decode cX3_neededBy 31 = .ok (.bipush 30, 2) := by decide +kernel
theorem dX3_neededBy_33 : decode cX3_neededBy 33 = .ok (.if_icmp .ge 28, 3) := by decide +kernel
theorem dX3_neededBy_36 : decode cX3_neededBy 36 = .ok (.iload_n 2, 1) := by decide +kernel
theorem dX3_neededBy_37 : decode cX3_neededBy 37 = .ok (.iload 6, 2) := by decide +kernel
theorem dX3_neededBy_39 : decode cX3_neededBy 39 = .ok (.invokestatic 34, 3) := by decide +kernel
theorem dX3_neededBy_42 : decode cX3_neededBy 42 = .ok (.ifCond .eq 13, 3) := by decide +kernel
theorem dX3_neededBy_45 : decode cX3_neededBy 45 = .ok (.iload_n 2, 1) := by decide +kernel
theorem dX3_neededBy_46 : decode cX3_neededBy 46 = .ok (.aload_n 0, 1) := by decide +kernel
theorem dX3_neededBy_47 : decode cX3_neededBy 47 = .ok (.getfield 18, 3) := by decide +kernel
theorem dX3_neededBy_50 : decode cX3_neededBy 50 = .ok (.iload 6, 2) := by decide +kernel
theorem dX3_neededBy_52 : decode cX3_neededBy 52 = .ok (.iaload, 1) := by decide +kernel
theorem dX3_neededBy_53 : decode cX3_neededBy 53 = .ok (.ior, 1) := by decide +kernel
theorem dX3_neededBy_54 : decode cX3_neededBy 54 = .ok (.istore_n 2, 1) := by decide +kernel
theorem dX3_neededBy_55 : decode cX3_neededBy 55 = .ok (.iinc 6 1, 3) := by decide +kernel
theorem dX3_neededBy_58 : decode cX3_neededBy 58 = .ok (.goto (-29), 3) := by decide +kernel
theorem dX3_neededBy_61 : decode cX3_neededBy 61 = .ok (.iload_n 2, 1) := by decide +kernel
theorem dX3_neededBy_62 : decode cX3_neededBy 62 = .ok (.iload 5, 2) := by decide +kernel
theorem dX3_neededBy_64 : decode cX3_neededBy 64 = .ok (.if_icmp .eq 7, 3) := by decide +kernel
theorem dX3_neededBy_67 : decode cX3_neededBy 67 = .ok (.iconst 1, 1) := by decide +kernel
theorem dX3_neededBy_68 : decode cX3_neededBy 68 = .ok (.goto 4, 3) := by decide +kernel
theorem dX3_neededBy_71 : decode cX3_neededBy 71 = .ok (.iconst 0, 1) := by decide +kernel
theorem dX3_neededBy_72 : decode cX3_neededBy 72 = .ok (.istore_n 3, 1) := by decide +kernel
theorem dX3_neededBy_73 : decode cX3_neededBy 73 = .ok (.iinc 4 1, 3) := by decide +kernel
theorem dX3_neededBy_76 : decode cX3_neededBy 76 = .ok (.goto (-64), 3) := by decide +kernel
theorem dX3_neededBy_79 : decode cX3_neededBy 79 = .ok (.iload_n 2, 1) := by decide +kernel
theorem dX3_neededBy_80 : decode cX3_neededBy 80 = .ok (.ireturn, 1) := by decide +kernel
theorem dX3_hangingOn_0 : decode cX3_hangingOn 0 = .ok (.aload_n 0, 1) := by decide +kernel
theorem dX3_hangingOn_1 : decode cX3_hangingOn 1 = .ok (.iload_n 1, 1) := by decide +kernel
theorem dX3_hangingOn_2 : decode cX3_hangingOn 2 = .ok (.invokestatic 79, 3) := by decide +kernel
theorem dX3_hangingOn_5 : decode cX3_hangingOn 5 = .ok (.invokevirtual 98, 3) := by decide +kernel
theorem dX3_hangingOn_8 : decode cX3_hangingOn 8 = .ok (.istore_n 2, 1) := by decide +kernel
theorem dX3_hangingOn_9 : decode cX3_hangingOn 9 = .ok (.iconst 1, 1) := by decide +kernel
theorem dX3_hangingOn_10 : decode cX3_hangingOn 10 = .ok (.istore_n 3, 1) := by decide +kernel
theorem dX3_hangingOn_11 : decode cX3_hangingOn 11 = .ok (.iconst 0, 1) := by decide +kernel
theorem dX3_hangingOn_12 : decode cX3_hangingOn 12 = .ok (.istore 4, 2) := by decide +kernel
theorem dX3_hangingOn_14 : decode cX3_hangingOn 14 = .ok (.iload_n 3, 1) := by decide +kernel
theorem dX3_hangingOn_15 : decode cX3_hangingOn 15 = .ok (.ifCond .eq 39, 3) := by decide +kernel
theorem dX3_hangingOn_18 : decode cX3_hangingOn 18 = .ok (.iload 4, 2) := by decide +kernel
theorem dX3_hangingOn_20 : decode cX3_hangingOn 20 = .ok (.bipush 30, 2) := by decide +kernel
theorem dX3_hangingOn_22 : decode cX3_hangingOn 22 = .ok (.if_icmp .ge 32, 3) := by decide +kernel
theorem dX3_hangingOn_25 : decode cX3_hangingOn 25 = .ok (.iload_n 2, 1) := by decide +kernel
theorem dX3_hangingOn_26 : decode cX3_hangingOn 26 = .ok (.istore 5, 2) := by decide +kernel
theorem dX3_hangingOn_28 : decode cX3_hangingOn 28 = .ok (.iload_n 2, 1) := by decide +kernel
theorem dX3_hangingOn_29 : decode cX3_hangingOn 29 = .ok (.aload_n 0, 1) := by decide +kernel
theorem dX3_hangingOn_30 : decode cX3_hangingOn 30 = .ok (.iload_n 2, 1) := by decide +kernel
theorem dX3_hangingOn_31 : decode cX3_hangingOn 31 = .ok (.invokevirtual 98, 3) := by decide +kernel
theorem dX3_hangingOn_34 : decode cX3_hangingOn 34 = .ok (.ior, 1) := by decide +kernel
theorem dX3_hangingOn_35 : decode cX3_hangingOn 35 = .ok (.istore_n 2, 1) := by decide +kernel
theorem dX3_hangingOn_36 : decode cX3_hangingOn 36 = .ok (.iload_n 2, 1) := by decide +kernel
theorem dX3_hangingOn_37 : decode cX3_hangingOn 37 = .ok (.iload 5, 2) := by decide +kernel
theorem dX3_hangingOn_39 : decode cX3_hangingOn 39 = .ok (.if_icmp .eq 7, 3) := by decide +kernel
theorem dX3_hangingOn_42 : decode cX3_hangingOn 42 = .ok (.iconst 1, 1) := by decide +kernel
theorem dX3_hangingOn_43 : decode cX3_hangingOn 43 = .ok (.goto 4, 3) := by decide +kernel
theorem dX3_hangingOn_46 : decode cX3_hangingOn 46 = .ok (.iconst 0, 1) := by decide +kernel
theorem dX3_hangingOn_47 : decode cX3_hangingOn 47 = .ok (.istore_n 3, 1) := by decide +kernel
theorem dX3_hangingOn_48 : decode cX3_hangingOn 48 = .ok (.iinc 4 1, 3) := by decide +kernel
theorem dX3_hangingOn_51 : decode cX3_hangingOn 51 = .ok (.goto (-37), 3) := by decide +kernel
theorem dX3_hangingOn_54 : decode cX3_hangingOn 54 = .ok (.iload_n 2, 1) := by decide +kernel
theorem dX3_hangingOn_55 : decode cX3_hangingOn 55 = .ok (.ireturn, 1) := by decide +kernel
theorem dX3_movedTo_0 : decode cX3_movedTo 0 = .ok (.aload_n 0, 1) := by decide +kernel
theorem dX3_movedTo_1 : decode cX3_movedTo 1 = .ok (.getfield 30, 3) := by decide +kernel
theorem dX3_movedTo_4 : decode cX3_movedTo 4 = .ok (.aload_n 1, 1) := by decide +kernel
theorem dX3_movedTo_5 : decode cX3_movedTo 5 = .ok (.getfield 30, 3) := by decide +kernel
theorem dX3_movedTo_8 : decode cX3_movedTo 8 = .ok (.ixor, 1) := by decide +kernel
theorem dX3_movedTo_9 : decode cX3_movedTo 9 = .ok (.istore_n 2, 1) := by decide +kernel
theorem dX3_movedTo_10 : decode cX3_movedTo 10 = .ok (.iconst 0, 1) := by decide +kernel
theorem dX3_movedTo_11 : decode cX3_movedTo 11 = .ok (.istore_n 3, 1) := by decide +kernel
theorem dX3_movedTo_12 : decode cX3_movedTo 12 = .ok (.iload_n 3, 1) := by decide +kernel
theorem dX3_movedTo_13 : decode cX3_movedTo 13 = .ok (.bipush 30, 2) := by decide +kernel
theorem dX3_movedTo_15 : decode cX3_movedTo 15 = .ok (.if_icmp .ge 47, 3) := by decide +kernel
theorem dX3_movedTo_18 : decode cX3_movedTo 18 = .ok (.aload_n 0, 1) := by decide +kernel
theorem dX3_movedTo_19 : decode cX3_movedTo 19 = .ok (.getfield 30, 3) := by decide +kernel
theorem dX3_movedTo_22 : decode cX3_movedTo 22 = .ok (.aload_n 1, 1) := by decide +kernel
theorem dX3_movedTo_23 : decode cX3_movedTo 23 = .ok (.getfield 30, 3) := by decide +kernel
theorem dX3_movedTo_26 : decode cX3_movedTo 26 = .ok (.iand, 1) := by decide +kernel
theorem dX3_movedTo_27 : decode cX3_movedTo 27 = .ok (.iload_n 3, 1) := by decide +kernel
theorem dX3_movedTo_28 : decode cX3_movedTo 28 = .ok (.invokestatic 34, 3) := by decide +kernel
theorem dX3_movedTo_31 : decode cX3_movedTo 31 = .ok (.ifCond .eq 25, 3) := by decide +kernel
theorem dX3_movedTo_34 : decode cX3_movedTo 34 = .ok (.aload_n 0, 1) := by decide +kernel
theorem dX3_movedTo_35 : decode cX3_movedTo 35 = .ok (.getfield 9, 3) := by decide +kernel
theorem dX3_movedTo_38 : decode cX3_movedTo 38 = .ok (.iload_n 3, 1) := by decide +kernel
theorem dX3_movedTo_39 : decode cX3_movedTo 39 = .ok (.iaload, 1) := by decide +kernel
theorem dX3_movedTo_40 : decode cX3_movedTo 40 = .ok (.aload_n 1, 1) := by decide +kernel
theorem dX3_movedTo_41 : decode cX3_movedTo 41 = .ok (.getfield 9, 3) := by decide +kernel
theorem dX3_movedTo_44 : decode cX3_movedTo 44 = .ok (.iload_n 3, 1) := by decide +kernel
theorem dX3_movedTo_45 : decode cX3_movedTo 45 = .ok (.iaload, 1) := by decide +kernel
theorem dX3_movedTo_46 : decode cX3_movedTo 46 = .ok (.if_icmp .eq 10, 3) := by decide +kernel
theorem dX3_movedTo_49 : decode cX3_movedTo 49 = .ok (.iload_n 2, 1) := by decide +kernel
theorem dX3_movedTo_50 : decode cX3_movedTo 50 = .ok (.iload_n 3, 1) := by decide +kernel
theorem dX3_movedTo_51 : decode cX3_movedTo 51 = .ok (.invokestatic 79, 3) := by decide +kernel
theorem dX3_movedTo_54 : decode cX3_movedTo 54 = .ok (.ior, 1) := by decide +kernel
theorem dX3_movedTo_55 : decode cX3_movedTo 55 = .ok (.istore_n 2, 1) := by decide +kernel
theorem dX3_movedTo_56 : decode cX3_movedTo 56 = .ok (.iinc 3 1, 3) := by decide +kernel
theorem dX3_movedTo_59 : decode cX3_movedTo 59 = .ok (.goto (-47), 3) := by decide +kernel
theorem dX3_movedTo_62 : decode cX3_movedTo 62 = .ok (.iload_n 2, 1) := by decide +kernel
theorem dX3_movedTo_63 : decode cX3_movedTo 63 = .ok (.ireturn, 1) := by decide +kernel
theorem dX4_init_0 : decode cX4_init 0 = .ok (.aload_n 0, 1) := by decide +kernel
theorem dX4_init_1 : decode cX4_init 1 = .ok (.invokespecial 3, 3) := by decide +kernel
theorem dX4_init_4 : decode cX4_init 4 = .ok (.aload_n 0, 1) := by decide +kernel
theorem dX4_init_5 : decode cX4_init 5 = .ok (.bipush 40, 2) := by decide +kernel
theorem dX4_init_7 : decode cX4_init 7 = .ok (.newarray .int, 2) := by decide +kernel
theorem dX4_init_9 : decode cX4_init 9 = .ok (.putfield 9, 3) := by decide +kernel
theorem dX4_init_12 : decode cX4_init 12 = .ok (.aload_n 0, 1) := by decide +kernel
theorem dX4_init_13 : decode cX4_init 13 = .ok (.iconst (-1), 1) := by decide +kernel
theorem dX4_init_14 : decode cX4_init 14 = .ok (.putfield 15, 3) := by decide +kernel
theorem dX4_init_17 : decode cX4_init 17 = .ok (.return_, 1) := by decide +kernel
theorem dX4_isNothing_0 : decode cX4_isNothing 0 = .ok (.aload_n 0, 1) := by decide +kernel
theorem dX4_isNothing_1 : decode cX4_isNothing 1 = .ok (.getfield 15, 3) := by decide +kernel
theorem dX4_isNothing_4 : decode cX4_isNothing 4 = .ok (.iconst (-1), 1) := by decide +kernel
theorem dX4_isNothing_5 : decode cX4_isNothing 5 = .ok (.if_icmp .ne 7, 3) := by decide +kernel
theorem dX4_isNothing_8 : decode cX4_isNothing 8 = .ok (.iconst 1, 1) := by decide +kernel
theorem dX4_isNothing_9 : decode cX4_isNothing 9 = .ok (.goto 4, 3) := by decide +kernel
theorem dX4_isNothing_12 : decode cX4_isNothing 12 = .ok (.iconst 0, 1) := by decide +kernel
theorem dX4_isNothing_13 : decode cX4_isNothing 13 = .ok (.ireturn, 1) := by decide +kernel
theorem dX4_renew_0 : decode cX4_renew 0 = .ok (.aload_n 0, 1) := by decide +kernel
theorem dX4_renew_1 : decode cX4_renew 1 = .ok (.getfield 9, 3) := by decide +kernel
theorem dX4_renew_4 : decode cX4_renew 4 = .ok (.iconst 0, 1) := by decide +kernel
theorem dX4_renew_5 : decode cX4_renew 5 = .ok (.invokestatic 19, 3) := by decide +kernel
theorem dX4_renew_8 : decode cX4_renew 8 = .ok (.aload_n 0, 1) := by decide +kernel
theorem dX4_renew_9 : decode cX4_renew 9 = .ok (.iload_n 1, 1) := by decide +kernel
theorem dX4_renew_10 : decode cX4_renew 10 = .ok (.putfield 15, 3) := by decide +kernel
theorem dX4_renew_13 : decode cX4_renew 13 = .ok (.aload_n 0, 1) := by decide +kernel
theorem dX4_renew_14 : decode cX4_renew 14 = .ok (.iload_n 2, 1) := by decide +kernel
theorem dX4_renew_15 : decode cX4_renew 15 = .ok (.putfield 25, 3) := by decide +kernel
theorem dX4_renew_18 : decode cX4_renew 18 = .ok (.return_, 1) := by decide +kernel
theorem dX4_faultAt_0 : decode cX4_faultAt 0 = .ok (.aload_n 0, 1) := by decide +kernel
theorem dX4_faultAt_1 : decode cX4_faultAt 1 = .ok (.invokevirtual 28, 3) := by decide +kernel
theorem dX4_faultAt_4 : decode cX4_faultAt 4 = .ok (.ifCond .eq 5, 3) := by decide +kernel
theorem dX4_faultAt_7 : decode cX4_faultAt 7 = .ok (.iconst 1, 1) := by decide +kernel
theorem dX4_faultAt_8 : decode cX4_faultAt 8 = .ok (.ireturn, 1) := by decide +kernel
theorem dX4_faultAt_9 : decode cX4_faultAt 9 = .ok (.aload_n 0, 1) := by decide +kernel
theorem dX4_faultAt_10 : decode cX4_faultAt 10 = .ok (.getfield 15, 3) := by decide +kernel
theorem dX4_faultAt_13 : decode cX4_faultAt 13 = .ok (.iload_n 1, 1) := by decide +kernel
theorem dX4_faultAt_14 : decode cX4_faultAt 14 = .ok (.if_icmp .eq 5, 3) := by decide +kernel
theorem dX4_faultAt_17 : decode cX4_faultAt 17 = .ok (.iconst 3, 1) := by decide +kernel
theorem dX4_faultAt_18 : decode cX4_faultAt 18 = .ok (.ireturn, 1) := by decide +kernel
theorem dX4_faultAt_19 : decode cX4_faultAt 19 = .ok (.iload_n 2, 1) := by decide +kernel
theorem dX4_faultAt_20 : decode cX4_faultAt 20 = .ok (.ifCond .lt 11, 3) := by decide +kernel
theorem dX4_faultAt_23 : decode cX4_faultAt 23 = .ok (.iload_n 2, 1) := by decide +kernel
theorem dX4_faultAt_24 : decode cX4_faultAt 24 = .ok (.aload_n 0, 1) := by decide +kernel
theorem dX4_faultAt_25 : decode cX4_faultAt 25 = .ok (.getfield 25, 3) := by decide +kernel
theorem dX4_faultAt_28 : decode cX4_faultAt 28 = .ok (.if_icmp .lt 7, 3) := by decide +kernel
theorem dX4_faultAt_31 : decode cX4_faultAt 31 = .ok (.iconst 2, 1) := by decide +kernel
theorem dX4_faultAt_32 : decode cX4_faultAt 32 = .ok (.goto 4, 3) := by decide +kernel
theorem dX4_faultAt_35 : decode cX4_faultAt 35 = .ok (.iconst 0, 1) := by decide +kernel
theorem dX4_faultAt_36 : decode cX4_faultAt 36 = .ok (.ireturn, 1) := by decide +kernel
theorem dX4_faultOfChange_0 : decode cX4_faultOfChange 0 = .ok (.iconst 0, 1) := by decide +kernel
theorem dX4_faultOfChange_1 : decode cX4_faultOfChange 1 = .ok (.istore_n 3, 1) := by decide +kernel
theorem dX4_faultOfChange_2 : decode cX4_faultOfChange 2 = .ok (.iconst 0, 1) := by decide +kernel
theorem dX4_faultOfChange_3 : decode cX4_faultOfChange 3 = .ok (.istore 4, 2) := by decide +kernel
theorem dX4_faultOfChange_5 : decode cX4_faultOfChange 5 = .ok (.iload 4, 2) := by decide +kernel
theorem dX4_faultOfChange_7 : decode cX4_faultOfChange 7 = .ok (.iconst 5, 1) := by decide +kernel
theorem dX4_faultOfChange_8 : decode cX4_faultOfChange 8 = .ok (.if_icmp .ge 23, 3) := by decide +kernel
theorem dX4_faultOfChange_11 : decode cX4_faultOfChange 11 = .ok (.iload_n 3, 1) := by decide +kernel
theorem dX4_faultOfChange_12 : decode cX4_faultOfChange 12 = .ok (.ifCond .ne 19, 3) := by decide +kernel
theorem dX4_faultOfChange_15 : decode cX4_faultOfChange 15 = .ok (.aload_n 0, 1) := by decide +kernel
theorem dX4_faultOfChange_16 : decode cX4_faultOfChange 16 = .ok (.iload_n 1, 1) := by decide +kernel
theorem dX4_faultOfChange_17 : decode cX4_faultOfChange 17 = .ok (.iload_n 2, 1) := by decide +kernel
theorem dX4_faultOfChange_18 : decode cX4_faultOfChange 18 = .ok (.iload 4, 2) := by decide +kernel
theorem dX4_faultOfChange_20 : decode cX4_faultOfChange 20 = .ok (.iadd, 1) := by decide +kernel
theorem dX4_faultOfChange_21 : decode cX4_faultOfChange 21 = .ok (.invokevirtual 32, 3) := by decide +kernel
theorem dX4_faultOfChange_24 : decode cX4_faultOfChange 24 = .ok (.istore_n 3, 1) := by decide +kernel
theorem dX4_faultOfChange_25 : decode cX4_faultOfChange 25 = .ok (.iinc 4 1, 3) := by decide +kernel
theorem dX4_faultOfChange_28 : decode cX4_faultOfChange 28 = .ok (.goto (-23), 3) := by decide +kernel
theorem dX4_faultOfChange_31 : decode cX4_faultOfChange 31 = .ok (.iload_n 3, 1) := by decide +kernel
theorem dX4_faultOfChange_32 : decode cX4_faultOfChange 32 = .ok (.ireturn, 1) := by decide +kernel
theorem dX4_askFrom_0 : decode cX4_askFrom 0 = .ok (.aload_n 2, 1) := by decide +kernel
theorem dX4_askFrom_1 : decode cX4_askFrom 1 = .ok (.aload_n 0, 1) := by decide +kernel
theorem dX4_askFrom_2 : decode cX4_askFrom 2 = .ok (.getfield 9, 3) := by decide +kernel
theorem dX4_askFrom_5 : decode cX4_askFrom 5 = .ok (.iload_n 1, 1) := by decide +kernel
theorem dX4_askFrom_6 : decode cX4_askFrom 6 = .ok (.iaload, 1) := by decide +kernel
theorem dX4_askFrom_7 : decode cX4_askFrom 7 = .ok (.aload_n 0, 1) := by decide +kernel
theorem dX4_askFrom_8 : decode cX4_askFrom 8 = .ok (.getfield 9, 3) := by decide +kernel
theorem dX4_askFrom_11 : decode cX4_askFrom 11 = .ok (.iload_n 1, 1) := by decide +kernel
theorem dX4_askFrom_12 : decode cX4_askFrom 12 = .ok (.iconst 1, 1) := by decide +kernel
theorem dX4_askFrom_13 : decode cX4_askFrom 13 = .ok (.iadd, 1) := by decide +kernel
theorem dX4_askFrom_14 : decode cX4_askFrom 14 = .ok (.iaload, 1) := by decide +kernel
theorem dX4_askFrom_15 : decode cX4_askFrom 15 = .ok (.aload_n 0, 1) := by decide +kernel
theorem dX4_askFrom_16 : decode cX4_askFrom 16 = .ok (.getfield 9, 3) := by decide +kernel
theorem dX4_askFrom_19 : decode cX4_askFrom 19 = .ok (.iload_n 1, 1) := by decide +kernel
theorem dX4_askFrom_20 : decode cX4_askFrom 20 = .ok (.iconst 2, 1) := by decide +kernel
theorem dX4_askFrom_21 : decode cX4_askFrom 21 = .ok (.iadd, 1) := by decide +kernel
theorem dX4_askFrom_22 : decode cX4_askFrom 22 = .ok (.iaload, 1) := by decide +kernel
theorem dX4_askFrom_23 : decode cX4_askFrom 23 = .ok (.aload_n 0, 1) := by decide +kernel
theorem dX4_askFrom_24 : decode cX4_askFrom 24 = .ok (.getfield 9, 3) := by decide +kernel
theorem dX4_askFrom_27 : decode cX4_askFrom 27 = .ok (.iload_n 1, 1) := by decide +kernel
theorem dX4_askFrom_28 : decode cX4_askFrom 28 = .ok (.iconst 3, 1) := by decide +kernel
theorem dX4_askFrom_29 : decode cX4_askFrom 29 = .ok (.iadd, 1) := by decide +kernel
theorem dX4_askFrom_30 : decode cX4_askFrom 30 = .ok (.iaload, 1) := by decide +kernel
theorem dX4_askFrom_31 : decode cX4_askFrom 31 = .ok (.aload_n 0, 1) := by decide +kernel
theorem dX4_askFrom_32 : decode cX4_askFrom 32 = .ok (.getfield 9, 3) := by decide +kernel
theorem dX4_askFrom_35 : decode cX4_askFrom 35 = .ok (.iload_n 1, 1) := by decide +kernel
theorem dX4_askFrom_36 : decode cX4_askFrom 36 = .ok (.iconst 4, 1) := by decide +kernel
theorem dX4_askFrom_37 : decode cX4_askFrom 37 = .ok (.iadd, 1) := by decide +kernel
theorem dX4_askFrom_38 : decode cX4_askFrom 38 = .ok (.iaload, 1) := by decide +kernel
theorem dX4_askFrom_39 : decode cX4_askFrom 39 = .ok (.invokevirtual 36, 3) := by decide +kernel
theorem dX4_askFrom_42 : decode cX4_askFrom 42 = .ok (.return_, 1) := by decide +kernel
theorem dX4_set_0 : decode cX4_set 0 = .ok (.aload_n 0, 1) := by decide +kernel
theorem dX4_set_1 : decode cX4_set 1 = .ok (.getfield 15, 3) := by decide +kernel
theorem dX4_set_4 : decode cX4_set 4 = .ok (.ifCond .ne 14, 3) := by decide +kernel
theorem dX4_set_7 : decode cX4_set 7 = .ok (.aload_n 0, 1) := by decide +kernel
theorem dX4_set_8 : decode cX4_set 8 = .ok (.getfield 9, 3) := by decide +kernel
theorem dX4_set_11 : decode cX4_set 11 = .ok (.iload_n 1, 1) := by decide +kernel
theorem dX4_set_12 : decode cX4_set 12 = .ok (.iload_n 2, 1) := by decide +kernel
theorem dX4_set_13 : decode cX4_set 13 = .ok (.i2b, 1) := by decide +kernel
theorem dX4_set_14 : decode cX4_set 14 = .ok (.iastore, 1) := by decide +kernel
theorem dX4_set_15 : decode cX4_set 15 = .ok (.goto 29, 3) := by decide +kernel
theorem dX4_set_18 : decode cX4_set 18 = .ok (.aload_n 0, 1) := by decide +kernel
theorem dX4_set_19 : decode cX4_set 19 = .ok (.getfield 15, 3) := by decide +kernel
theorem dX4_set_22 : decode cX4_set 22 = .ok (.iconst 1, 1) := by decide +kernel
theorem dX4_set_23 : decode cX4_set 23 = .ok (.if_icmp .ne 14, 3) := by decide +kernel
theorem dX4_set_26 : decode cX4_set 26 = .ok (.aload_n 0, 1) := by decide +kernel
theorem dX4_set_27 : decode cX4_set 27 = .ok (.getfield 9, 3) := by decide +kernel
theorem dX4_set_30 : decode cX4_set 30 = .ok (.iload_n 1, 1) := by decide +kernel
theorem dX4_set_31 : decode cX4_set 31 = .ok (.iload_n 2, 1) := by decide +kernel
theorem dX4_set_32 : decode cX4_set 32 = .ok (.i2s, 1) := by decide +kernel
theorem dX4_set_33 : decode cX4_set 33 = .ok (.iastore, 1) := by decide +kernel
theorem dX4_set_34 : decode cX4_set 34 = .ok (.goto 10, 3) := by decide +kernel
theorem dX4_set_37 : decode cX4_set 37 = .ok (.aload_n 0, 1) := by decide +kernel
theorem dX4_set_38 : decode cX4_set 38 = .ok (.getfield 9, 3) := by decide +kernel
theorem dX4_set_41 : decode cX4_set 41 = .ok (.iload_n 1, 1) := by decide +kernel
theorem dX4_set_42 : decode cX4_set 42 = .ok (.iload_n 2, 1) := by decide +kernel
theorem dX4_set_43 : decode cX4_set 43 = .ok (.iastore, 1) := by decide +kernel
theorem dX4_set_44 : decode cX4_set 44 = .ok (.return_, 1) := by decide +kernel
theorem dX5_init_0 : decode cX5_init 0 = .ok (.aload_n 0, 1) := by decide +kernel
theorem dX5_init_1 : decode cX5_init 1 = .ok (.invokespecial 3, 3) := by decide +kernel
theorem dX5_init_4 : decode cX5_init 4 = .ok (.aload_n 0, 1) := by decide +kernel
theorem dX5_init_5 : decode cX5_init 5 = .ok (.sipush 320, 3) := by decide +kernel
theorem dX5_init_8 : decode cX5_init 8 = .ok (.newarray .byte, 2) := by decide +kernel
theorem dX5_init_10 : decode cX5_init 10 = .ok (.putfield 9, 3) := by decide +kernel
theorem dX5_init_13 : decode cX5_init 13 = .ok (.return_, 1) := by decide +kernel
theorem dX5_append_0 : decode cX5_append 0 = .ok (.aload_n 0, 1) := by decide +kernel
theorem dX5_append_1 : decode cX5_append 1 = .ok (.getfield 15, 3) := by decide +kernel
theorem dX5_append_4 : decode cX5_append 4 = .ok (.sipush 320, 3) := by decide +kernel
theorem dX5_append_7 : decode cX5_append 7 = .ok (.if_icmp .ge 24, 3) := by decide +kernel
theorem dX5_append_10 : decode cX5_append 10 = .ok (.aload_n 0, 1) := by decide +kernel
theorem dX5_append_11 : decode cX5_append 11 = .ok (.getfield 9, 3) := by decide +kernel
theorem dX5_append_14 : decode cX5_append 14 = .ok (.aload_n 0, 1) := by decide +kernel
theorem dX5_append_15 : decode cX5_append 15 = .ok (.getfield 15, 3) := by decide +kernel
theorem dX5_append_18 : decode cX5_append 18 = .ok (.iload_n 1, 1) := by decide +kernel
theorem dX5_append_19 : decode cX5_append 19 = .ok (.i2b, 1) := by decide +kernel
theorem dX5_append_20 : decode cX5_append 20 = .ok (.bastore, 1) := by decide +kernel
theorem dX5_append_21 : decode cX5_append 21 = .ok (.aload_n 0, 1) := by decide +kernel
theorem dX5_append_22 : decode cX5_append 22 = .ok (.dup, 1) := by decide +kernel
theorem dX5_append_23 : decode cX5_append 23 = .ok (.getfield 15, 3) := by decide +kernel
theorem dX5_append_26 : decode cX5_append 26 = .ok (.iconst 1, 1) := by decide +kernel
theorem dX5_append_27 : decode cX5_append 27 = .ok (.iadd, 1) := by decide +kernel
theorem dX5_append_28 : decode cX5_append 28 = .ok (.putfield 15, 3) := by decide +kernel
theorem dX5_append_31 : decode cX5_append 31 = .ok (.return_, 1) := by decide +kernel
theorem dX5_rewind_0 : decode cX5_rewind 0 = .ok (.aload_n 0, 1) := by decide +kernel
theorem dX5_rewind_1 : decode cX5_rewind 1 = .ok (.iconst 0, 1) := by decide +kernel
theorem dX5_rewind_2 : decode cX5_rewind 2 = .ok (.putfield 19, 3) := by decide +kernel
theorem dX5_rewind_5 : decode cX5_rewind 5 = .ok (.return_, 1) := by decide +kernel
theorem dX5_nextToken_0 : decode cX5_nextToken 0 = .ok (.aload_n 0, 1) := by decide +kernel
theorem dX5_nextToken_1 : decode cX5_nextToken 1 = .ok (.getfield 19, 3) := by decide +kernel
theorem dX5_nextToken_4 : decode cX5_nextToken 4 = .ok (.aload_n 0, 1) := by decide +kernel
theorem dX5_nextToken_5 : decode cX5_nextToken 5 = .ok (.getfield 15, 3) := by decide +kernel
theorem dX5_nextToken_8 : decode cX5_nextToken 8 = .ok (.if_icmp .ge 30, 3) := by decide +kernel
theorem dX5_nextToken_11 : decode cX5_nextToken 11 = .ok (.aload_n 0, 1) := by decide +kernel
theorem dX5_nextToken_12 : decode cX5_nextToken 12 = .ok (.getfield 9, 3) := by decide +kernel
theorem dX5_nextToken_15 : decode cX5_nextToken 15 = .ok (.aload_n 0, 1) := by decide +kernel
theorem dX5_nextToken_16 : decode cX5_nextToken 16 = .ok (.getfield 19, 3) := by decide +kernel
theorem dX5_nextToken_19 : decode cX5_nextToken 19 = .ok (.baload, 1) := by decide +kernel
theorem dX5_nextToken_20 : decode cX5_nextToken 20 = .ok (.bipush 32, 2) := by decide +kernel
theorem dX5_nextToken_22 : decode cX5_nextToken 22 = .ok (.if_icmp .ne 16, 3) := by decide +kernel
theorem dX5_nextToken_25 : decode cX5_nextToken 25 = .ok (.aload_n 0, 1) := by decide +kernel
theorem dX5_nextToken_26 : decode cX5_nextToken 26 = .ok (.dup, 1) := by decide +kernel
theorem dX5_nextToken_27 : decode cX5_nextToken 27 = .ok (.getfield 19, 3) := by decide +kernel
theorem dX5_nextToken_30 : decode cX5_nextToken 30 = .ok (.iconst 1, 1) := by decide +kernel
theorem dX5_nextToken_31 : decode cX5_nextToken 31 = .ok (.iadd, 1) := by decide +kernel
theorem dX5_nextToken_32 : decode cX5_nextToken 32 = .ok (.putfield 19, 3) := by decide +kernel
theorem dX5_nextToken_35 : decode cX5_nextToken 35 = .ok (.goto (-35), 3) := by decide +kernel
theorem dX5_nextToken_38 : decode cX5_nextToken 38 = .ok (.aload_n 0, 1) := by decide +kernel
theorem dX5_nextToken_39 : decode cX5_nextToken 39 = .ok (.aload_n 0, 1) := by decide +kernel
theorem dX5_nextToken_40 : decode cX5_nextToken 40 = .ok (.getfield 19, 3) := by decide +kernel
theorem dX5_nextToken_43 : decode cX5_nextToken 43 = .ok (.putfield 22, 3) := by decide +kernel
theorem dX5_nextToken_46 : decode cX5_nextToken 46 = .ok (.aload_n 0, 1) := by decide +kernel
theorem dX5_nextToken_47 : decode cX5_nextToken 47 = .ok (.getfield 19, 3) := by decide +kernel
theorem dX5_nextToken_50 : decode cX5_nextToken 50 = .ok (.aload_n 0, 1) := by decide +kernel
theorem dX5_nextToken_51 : decode cX5_nextToken 51 = .ok (.getfield 15, 3) := by decide +kernel
theorem dX5_nextToken_54 : decode cX5_nextToken 54 = .ok (.if_icmp .lt 11, 3) := by decide +kernel
theorem dX5_nextToken_57 : decode cX5_nextToken 57 = .ok (.aload_n 0, 1) := by decide +kernel
theorem dX5_nextToken_58 : decode cX5_nextToken 58 = .ok (.iconst 0, 1) := by decide +kernel
theorem dX5_nextToken_59 : decode cX5_nextToken 59 = .ok (.putfield 25, 3) := by decide +kernel
theorem dX5_nextToken_62 : decode cX5_nextToken 62 = .ok (.goto 80, 3) := by decide +kernel
theorem dX5_nextToken_65 : decode cX5_nextToken 65 = .ok (.aload_n 0, 1) := by decide +kernel
theorem dX5_nextToken_66 : decode cX5_nextToken 66 = .ok (.getfield 9, 3) := by decide +kernel
theorem dX5_nextToken_69 : decode cX5_nextToken 69 = .ok (.aload_n 0, 1) := by decide +kernel
theorem dX5_nextToken_70 : decode cX5_nextToken 70 = .ok (.getfield 19, 3) := by decide +kernel
theorem dX5_nextToken_73 : decode cX5_nextToken 73 = .ok (.baload, 1) := by decide +kernel
theorem dX5_nextToken_74 : decode cX5_nextToken 74 = .ok (.invokestatic 28, 3) := by decide +kernel
theorem dX5_nextToken_77 : decode cX5_nextToken 77 = .ok (.ifCond .eq 10, 3) := by decide +kernel
theorem dX5_nextToken_80 : decode cX5_nextToken 80 = .ok (.aload_n 0, 1) := by decide +kernel
theorem dX5_nextToken_81 : decode cX5_nextToken 81 = .ok (.invokevirtual 32, 3) := by decide +kernel
theorem dX5_nextToken_84 : decode cX5_nextToken 84 = .ok (.goto 58, 3) := by decide +kernel
theorem dX5_nextToken_87 : decode cX5_nextToken 87 = .ok (.aload_n 0, 1) := by decide +kernel
theorem dX5_nextToken_88 : decode cX5_nextToken 88 = .ok (.getfield 9, 3) := by decide +kernel
theorem dX5_nextToken_91 : decode cX5_nextToken 91 = .ok (.aload_n 0, 1) := by decide +kernel
theorem dX5_nextToken_92 : decode cX5_nextToken 92 = .ok (.getfield 19, 3) := by decide +kernel
theorem dX5_nextToken_95 : decode cX5_nextToken 95 = .ok (.baload, 1) := by decide +kernel
theorem dX5_nextToken_96 : decode cX5_nextToken 96 = .ok (.invokestatic 35, 3) := by decide +kernel
theorem dX5_nextToken_99 : decode cX5_nextToken 99 = .ok (.ifCond .eq 10, 3) := by decide +kernel
theorem dX5_nextToken_102 : decode cX5_nextToken 102 = .ok (.aload_n 0, 1) := by decide +kernel
theorem dX5_nextToken_103 : decode cX5_nextToken 103 = .ok (.invokevirtual 38, 3) := by decide +kernel
theorem dX5_nextToken_106 : decode cX5_nextToken 106 = .ok (.goto 36, 3) := by decide +kernel
theorem dX5_nextToken_109 : decode cX5_nextToken 109 = .ok (.aload_n 0, 1) := by decide +kernel
theorem dX5_nextToken_110 : decode cX5_nextToken 110 = .ok (.aload_n 0, 1) := by decide +kernel
theorem dX5_nextToken_111 : decode cX5_nextToken 111 = .ok (.getfield 9, 3) := by decide +kernel
theorem dX5_nextToken_114 : decode cX5_nextToken 114 = .ok (.aload_n 0, 1) := by decide +kernel
theorem dX5_nextToken_115 : decode cX5_nextToken 115 = .ok (.getfield 19, 3) := by decide +kernel
theorem dX5_nextToken_118 : decode cX5_nextToken 118 = .ok (.baload, 1) := by decide +kernel
theorem dX5_nextToken_119 : decode cX5_nextToken 119 = .ok (.bipush 59, 2) := by decide +kernel
theorem dX5_nextToken_121 : decode cX5_nextToken 121 = .ok (.if_icmp .ne 7, 3) := by decide +kernel
theorem dX5_nextToken_124 : decode cX5_nextToken 124 = .ok (.iconst 3, 1) := by decide +kernel
theorem dX5_nextToken_125 : decode cX5_nextToken 125 = .ok (.goto 4, 3) := by decide +kernel
theorem dX5_nextToken_128 : decode cX5_nextToken 128 = .ok (.iconst 4, 1) := by decide +kernel
theorem dX5_nextToken_129 : decode cX5_nextToken 129 = .ok (.putfield 25, 3) := by decide +kernel
theorem dX5_nextToken_132 : decode cX5_nextToken 132 = .ok (.aload_n 0, 1) := by decide +kernel
theorem dX5_nextToken_133 : decode cX5_nextToken 133 = .ok (.dup, 1) := by decide +kernel
theorem dX5_nextToken_134 : decode cX5_nextToken 134 = .ok (.getfield 19, 3) := by decide +kernel
theorem dX5_nextToken_137 : decode cX5_nextToken 137 = .ok (.iconst 1, 1) := by decide +kernel
theorem dX5_nextToken_138 : decode cX5_nextToken 138 = .ok (.iadd, 1) := by decide +kernel
theorem dX5_nextToken_139 : decode cX5_nextToken 139 = .ok (.putfield 19, 3) := by decide +kernel
theorem dX5_nextToken_142 : decode cX5_nextToken 142 = .ok (.return_, 1) := by decide +kernel
theorem dX5_takeName_0 : decode cX5_takeName 0 = .ok (.aload_n 0, 1) := by decide +kernel
theorem dX5_takeName_1 : decode cX5_takeName 1 = .ok (.getfield 19, 3) := by decide +kernel
theorem dX5_takeName_4 : decode cX5_takeName 4 = .ok (.aload_n 0, 1) := by decide +kernel
theorem dX5_takeName_5 : decode cX5_takeName 5 = .ok (.getfield 15, 3) := by decide +kernel
theorem dX5_takeName_8 : decode cX5_takeName 8 = .ok (.if_icmp .ge 31, 3) := by decide +kernel
theorem dX5_takeName_11 : decode cX5_takeName 11 = .ok (.aload_n 0, 1) := by decide +kernel
theorem dX5_takeName_12 : decode cX5_takeName 12 = .ok (.getfield 9, 3) := by decide +kernel
theorem dX5_takeName_15 : decode cX5_takeName 15 = .ok (.aload_n 0, 1) := by decide +kernel
theorem dX5_takeName_16 : decode cX5_takeName 16 = .ok (.getfield 19, 3) := by decide +kernel
theorem dX5_takeName_19 : decode cX5_takeName 19 = .ok (.baload, 1) := by decide +kernel
theorem dX5_takeName_20 : decode cX5_takeName 20 = .ok (.invokestatic 28, 3) := by decide +kernel
theorem dX5_takeName_23 : decode cX5_takeName 23 = .ok (.ifCond .eq 16, 3) := by decide +kernel
theorem dX5_takeName_26 : decode cX5_takeName 26 = .ok (.aload_n 0, 1) := by decide +kernel
theorem dX5_takeName_27 : decode cX5_takeName 27 = .ok (.dup, 1) := by decide +kernel
theorem dX5_takeName_28 : decode cX5_takeName 28 = .ok (.getfield 19, 3) := by decide +kernel
theorem dX5_takeName_31 : decode cX5_takeName 31 = .ok (.iconst 1, 1) := by decide +kernel
theorem dX5_takeName_32 : decode cX5_takeName 32 = .ok (.iadd, 1) := by decide +kernel
theorem dX5_takeName_33 : decode cX5_takeName 33 = .ok (.putfield 19, 3) := by decide +kernel
theorem dX5_takeName_36 : decode cX5_takeName 36 = .ok (.goto (-36), 3) := by decide +kernel
theorem dX5_takeName_39 : decode cX5_takeName 39 = .ok (.aload_n 0, 1) := by decide +kernel
theorem dX5_takeName_40 : decode cX5_takeName 40 = .ok (.iconst 1, 1) := by decide +kernel
theorem dX5_takeName_41 : decode cX5_takeName 41 = .ok (.putfield 25, 3) := by decide +kernel
theorem dX5_takeName_44 : decode cX5_takeName 44 = .ok (.return_, 1) := by decide +kernel
theorem dX5_takeNumber_0 : decode cX5_takeNumber 0 = .ok (.aload_n 0, 1) := by decide +kernel
theorem dX5_takeNumber_1 : decode cX5_takeNumber 1 = .ok (.iconst 0, 1) := by decide +kernel
theorem dX5_takeNumber_2 : decode cX5_takeNumber 2 = .ok (.putfield 41, 3) := by decide +kernel
theorem dX5_takeNumber_5 : decode cX5_takeNumber 5 = .ok (.aload_n 0, 1) := by decide +kernel
theorem dX5_takeNumber_6 : decode cX5_takeNumber 6 = .ok (.getfield 19, 3) := by decide +kernel
theorem dX5_takeNumber_9 : decode cX5_takeNumber 9 = .ok (.aload_n 0, 1) := by decide +kernel
theorem dX5_takeNumber_10 : decode cX5_takeNumber 10 = .ok (.getfield 15, 3) := by decide +kernel
theorem dX5_takeNumber_13 : decode cX5_takeNumber 13 = .ok (.if_icmp .ge 55, 3) := by decide +kernel
theorem dX5_takeNumber_16 : decode cX5_takeNumber 16 = .ok (.aload_n 0, 1) := by decide +kernel
theorem dX5_takeNumber_17 : decode cX5_takeNumber 17 = .ok (.getfield 9, 3) := by decide +kernel
theorem dX5_takeNumber_20 : decode cX5_takeNumber 20 = .ok (.aload_n 0, 1) := by decide +kernel
theorem dX5_takeNumber_21 : decode cX5_takeNumber 21 = .ok (.getfield 19, 3) := by decide +kernel
theorem dX5_takeNumber_24 : decode cX5_takeNumber 24 = .ok (.baload, 1) := by decide +kernel
theorem dX5_takeNumber_25 : decode cX5_takeNumber 25 = .ok (.invokestatic 35, 3) := by decide +kernel
theorem dX5_takeNumber_28 : decode cX5_takeNumber 28 = .ok (.ifCond .eq 40, 3) := by decide +kernel
theorem dX5_takeNumber_31 : decode cX5_takeNumber 31 = .ok (.aload_n 0, 1) := by decide +kernel
theorem dX5_takeNumber_32 : decode cX5_takeNumber 32 = .ok (.aload_n 0, 1) := by decide +kernel
theorem dX5_takeNumber_33 : decode cX5_takeNumber 33 = .ok (.getfield 41, 3) := by decide +kernel
theorem dX5_takeNumber_36 : decode cX5_takeNumber 36 = .ok (.bipush 10, 2) := by decide +kernel
theorem dX5_takeNumber_38 : decode cX5_takeNumber 38 = .ok (.imul, 1) := by decide +kernel
theorem dX5_takeNumber_39 : decode cX5_takeNumber 39 = .ok (.aload_n 0, 1) := by decide +kernel
theorem dX5_takeNumber_40 : decode cX5_takeNumber 40 = .ok (.getfield 9, 3) := by decide +kernel
theorem dX5_takeNumber_43 : decode cX5_takeNumber 43 = .ok (.aload_n 0, 1) := by decide +kernel
theorem dX5_takeNumber_44 : decode cX5_takeNumber 44 = .ok (.getfield 19, 3) := by decide +kernel
theorem dX5_takeNumber_47 : decode cX5_takeNumber 47 = .ok (.baload, 1) := by decide +kernel
theorem dX5_takeNumber_48 : decode cX5_takeNumber 48 = .ok (.bipush 48, 2) := by decide +kernel
theorem dX5_takeNumber_50 : decode cX5_takeNumber 50 = .ok (.isub, 1) := by decide +kernel
theorem dX5_takeNumber_51 : decode cX5_takeNumber 51 = .ok (.iadd, 1) := by decide +kernel
theorem dX5_takeNumber_52 : decode cX5_takeNumber 52 = .ok (.putfield 41, 3) := by decide +kernel
theorem dX5_takeNumber_55 : decode cX5_takeNumber 55 = .ok (.aload_n 0, 1) := by decide +kernel
theorem dX5_takeNumber_56 : decode cX5_takeNumber 56 = .ok (.dup, 1) := by decide +kernel
theorem dX5_takeNumber_57 : decode cX5_takeNumber 57 = .ok (.getfield 19, 3) := by decide +kernel
theorem dX5_takeNumber_60 : decode cX5_takeNumber 60 = .ok (.iconst 1, 1) := by decide +kernel
theorem dX5_takeNumber_61 : decode cX5_takeNumber 61 = .ok (.iadd, 1) := by decide +kernel
theorem dX5_takeNumber_62 : decode cX5_takeNumber 62 = .ok (.putfield 19, 3) := by decide +kernel
theorem dX5_takeNumber_65 : decode cX5_takeNumber 65 = .ok (.goto (-60), 3) := by decide +kernel
theorem dX5_takeNumber_68 : decode cX5_takeNumber 68 = .ok (.aload_n 0, 1) := by decide +kernel
theorem dX5_takeNumber_69 : decode cX5_takeNumber 69 = .ok (.aload_n 0, 1) := by decide +kernel
theorem dX5_takeNumber_70 : decode cX5_takeNumber 70 = .ok (.getfield 19, 3) := by decide +kernel
theorem dX5_takeNumber_73 : decode cX5_takeNumber 73 = .ok (.aload_n 0, 1) := by decide +kernel
theorem dX5_takeNumber_74 : decode cX5_takeNumber 74 = .ok (.getfield 22, 3) := by decide +kernel
theorem dX5_takeNumber_77 : decode cX5_takeNumber 77 = .ok (.isub, 1) := by decide +kernel
theorem dX5_takeNumber_78 : decode cX5_takeNumber 78 = .ok (.iconst 3, 1) := by decide +kernel
theorem dX5_takeNumber_79 : decode cX5_takeNumber 79 = .ok (.if_icmp .gt 7, 3) := by decide +kernel
theorem dX5_takeNumber_82 : decode cX5_takeNumber 82 = .ok (.iconst 2, 1) := by decide +kernel
theorem dX5_takeNumber_83 : decode cX5_takeNumber 83 = .ok (.goto 4, 3) := by decide +kernel
theorem dX5_takeNumber_86 : decode cX5_takeNumber 86 = .ok (.iconst 4, 1) := by decide +kernel
theorem dX5_takeNumber_87 : decode cX5_takeNumber 87 = .ok (.putfield 25, 3) := by decide +kernel
theorem dX5_takeNumber_90 : decode cX5_takeNumber 90 = .ok (.return_, 1) := by decide +kernel
theorem dX5_isWord_0 : decode cX5_isWord 0 = .ok (.aload_n 0, 1) := by decide +kernel
theorem dX5_isWord_1 : decode cX5_isWord 1 = .ok (.getfield 25, 3) := by decide +kernel
theorem dX5_isWord_4 : decode cX5_isWord 4 = .ok (.iconst 1, 1) := by decide +kernel
theorem dX5_isWord_5 : decode cX5_isWord 5 = .ok (.if_icmp .ne 19, 3) := by decide +kernel
theorem dX5_isWord_8 : decode cX5_isWord 8 = .ok (.aload_n 0, 1) := by decide +kernel
theorem dX5_isWord_9 : decode cX5_isWord 9 = .ok (.getfield 19, 3) := by decide +kernel
theorem dX5_isWord_12 : decode cX5_isWord 12 = .ok (.aload_n 0, 1) := by decide +kernel
theorem dX5_isWord_13 : decode cX5_isWord 13 = .ok (.getfield 22, 3) := by decide +kernel
theorem dX5_isWord_16 : decode cX5_isWord 16 = .ok (.isub, 1) := by decide +kernel
theorem dX5_isWord_17 : decode cX5_isWord 17 = .ok (.aload_n 1, 1) := by decide +kernel
theorem dX5_isWord_18 : decode cX5_isWord 18 = .ok (.invokevirtual 44, 3) := by decide +kernel
theorem dX5_isWord_21 : decode cX5_isWord 21 = .ok (.if_icmp .eq 5, 3) := by decide +kernel
theorem dX5_isWord_24 : decode cX5_isWord 24 = .ok (.iconst 0, 1) := by decide +kernel
theorem dX5_isWord_25 : decode cX5_isWord 25 = .ok (.ireturn, 1) := by decide +kernel
theorem dX5_isWord_26 : decode cX5_isWord 26 = .ok (.iconst 0, 1) := by decide +kernel
theorem dX5_isWord_27 : decode cX5_isWord 27 = .ok (.istore_n 2, 1) := by decide +kernel
theorem dX5_isWord_28 : decode cX5_isWord 28 = .ok (.iload_n 2, 1) := by decide +kernel
theorem dX5_isWord_29 : decode cX5_isWord 29 = .ok (.aload_n 1, 1) := by decide +kernel
theorem dX5_isWord_30 : decode cX5_isWord 30 = .ok (.invokevirtual 44, 3) := by decide +kernel
theorem dX5_isWord_33 : decode cX5_isWord 33 = .ok (.if_icmp .ge 30, 3) := by decide +kernel
theorem dX5_isWord_36 : decode cX5_isWord 36 = .ok (.aload_n 0, 1) := by decide +kernel
theorem dX5_isWord_37 : decode cX5_isWord 37 = .ok (.getfield 9, 3) := by decide +kernel
theorem dX5_isWord_40 : decode cX5_isWord 40 = .ok (.aload_n 0, 1) := by decide +kernel
theorem dX5_isWord_41 : decode cX5_isWord 41 = .ok (.getfield 22, 3) := by decide +kernel
theorem dX5_isWord_44 : decode cX5_isWord 44 = .ok (.iload_n 2, 1) := by decide +kernel
theorem dX5_isWord_45 : decode cX5_isWord 45 = .ok (.iadd, 1) := by decide +kernel
theorem dX5_isWord_46 : decode cX5_isWord 46 = .ok (.baload, 1) := by decide +kernel
theorem dX5_isWord_47 : decode cX5_isWord 47 = .ok (.aload_n 1, 1) := by decide +kernel
theorem dX5_isWord_48 : decode cX5_isWord 48 = .ok (.iload_n 2, 1) := by decide +kernel
theorem dX5_isWord_49 : decode cX5_isWord 49 = .ok (.invokevirtual 50, 3) := by decide +kernel
theorem dX5_isWord_52 : decode cX5_isWord 52 = .ok (.if_icmp .eq 5, 3) := by decide +kernel
theorem dX5_isWord_55 : decode cX5_isWord 55 = .ok (.iconst 0, 1) := by decide +kernel
theorem dX5_isWord_56 : decode cX5_isWord 56 = .ok (.ireturn, 1) := by decide +kernel
theorem dX5_isWord_57 : decode cX5_isWord 57 = .ok (.iinc 2 1, 3) := by decide +kernel
theorem dX5_isWord_60 : decode cX5_isWord 60 = .ok (.goto (-32), 3) := by decide +kernel
theorem dX5_isWord_63 : decode cX5_isWord 63 = .ok (.iconst 1, 1) := by decide +kernel
theorem dX5_isWord_64 : decode cX5_isWord 64 = .ok (.ireturn, 1) := by decide +kernel
theorem dX5_isLetter_0 : decode cX5_isLetter 0 = .ok (.iload_n 0, 1) := by decide +kernel
theorem dX5_isLetter_1 : decode cX5_isLetter 1 = .ok (.bipush 97, 2) := by decide +kernel
theorem dX5_isLetter_3 : decode cX5_isLetter 3 = .ok (.if_icmp .lt 13, 3) := by decide +kernel
theorem dX5_isLetter_6 : decode cX5_isLetter 6 = .ok (.iload_n 0, 1) := by decide +kernel
theorem dX5_isLetter_7 : decode cX5_isLetter 7 = .ok (.bipush 122, 2) := by decide +kernel
theorem dX5_isLetter_9 : decode cX5_isLetter 9 = .ok (.if_icmp .gt 7, 3) := by decide +kernel
theorem dX5_isLetter_12 : decode cX5_isLetter 12 = .ok (.iconst 1, 1) := by decide +kernel
theorem dX5_isLetter_13 : decode cX5_isLetter 13 = .ok (.goto 4, 3) := by decide +kernel
theorem dX5_isLetter_16 : decode cX5_isLetter 16 = .ok (.iconst 0, 1) := by decide +kernel
theorem dX5_isLetter_17 : decode cX5_isLetter 17 = .ok (.ireturn, 1) := by decide +kernel
theorem dX5_isFigure_0 : decode cX5_isFigure 0 = .ok (.iload_n 0, 1) := by decide +kernel
theorem dX5_isFigure_1 : decode cX5_isFigure 1 = .ok (.bipush 48, 2) := by decide +kernel
theorem dX5_isFigure_3 : decode cX5_isFigure 3 = .ok (.if_icmp .lt 13, 3) := by decide +kernel
theorem dX5_isFigure_6 : decode cX5_isFigure 6 = .ok (.iload_n 0, 1) := by decide +kernel
theorem dX5_isFigure_7 : decode cX5_isFigure 7 = .ok (.bipush 57, 2) := by decide +kernel
theorem dX5_isFigure_9 : decode cX5_isFigure 9 = .ok (.if_icmp .gt 7, 3) := by decide +kernel
theorem dX5_isFigure_12 : decode cX5_isFigure 12 = .ok (.iconst 1, 1) := by decide +kernel
theorem dX5_isFigure_13 : decode cX5_isFigure 13 = .ok (.goto 4, 3) := by decide +kernel
theorem dX5_isFigure_16 : decode cX5_isFigure 16 = .ok (.iconst 0, 1) := by decide +kernel
theorem dX5_isFigure_17 : decode cX5_isFigure 17 = .ok (.ireturn, 1) := by decide +kernel
theorem dX6_init_0 : decode cX6_init 0 = .ok (.aload_n 0, 1) := by decide +kernel
theorem dX6_init_1 : decode cX6_init 1 = .ok (.invokespecial 3, 3) := by decide +kernel
theorem dX6_init_4 : decode cX6_init 4 = .ok (.aload_n 0, 1) := by decide +kernel
theorem dX6_init_5 : decode cX6_init 5 = .ok (.new 9, 3) := by decide +kernel
theorem dX6_init_8 : decode cX6_init 8 = .ok (.dup, 1) := by decide +kernel
theorem dX6_init_9 : decode cX6_init 9 = .ok (.invokespecial 11, 3) := by decide +kernel
theorem dX6_init_12 : decode cX6_init 12 = .ok (.putfield 12, 3) := by decide +kernel
theorem dX6_init_15 : decode cX6_init 15 = .ok (.return_, 1) := by decide +kernel
theorem dX6_takesAll_0 : decode cX6_takesAll 0 = .ok (.aload_n 0, 1) := by decide +kernel
theorem dX6_takesAll_1 : decode cX6_takesAll 1 = .ok (.getfield 12, 3) := by decide +kernel
theorem dX6_takesAll_4 : decode cX6_takesAll 4 = .ok (.invokevirtual 18, 3) := by decide +kernel
theorem dX6_takesAll_7 : decode cX6_takesAll 7 = .ok (.aload_n 0, 1) := by decide +kernel
theorem dX6_takesAll_8 : decode cX6_takesAll 8 = .ok (.iconst 0, 1) := by decide +kernel
theorem dX6_takesAll_9 : decode cX6_takesAll 9 = .ok (.putfield 21, 3) := by decide +kernel
theorem dX6_takesAll_12 : decode cX6_takesAll 12 = .ok (.aload_n 0, 1) := by decide +kernel
theorem dX6_takesAll_13 : decode cX6_takesAll 13 = .ok (.iconst 0, 1) := by decide +kernel
theorem dX6_takesAll_14 : decode cX6_takesAll 14 = .ok (.putfield 25, 3) := by decide +kernel
theorem dX6_takesAll_17 : decode cX6_takesAll 17 = .ok (.aload_n 1, 1) := by decide +kernel
theorem dX6_takesAll_18 : decode cX6_takesAll 18 = .ok (.invokevirtual 28, 3) := by decide +kernel
theorem dX6_takesAll_21 : decode cX6_takesAll 21 = .ok (.aload_n 1, 1) := by decide +kernel
theorem dX6_takesAll_22 : decode cX6_takesAll 22 = .ok (.invokevirtual 33, 3) := by decide +kernel
theorem dX6_takesAll_25 : decode cX6_takesAll 25 = .ok (.aload_n 1, 1) := by decide +kernel
theorem dX6_takesAll_26 : decode cX6_takesAll 26 = .ok (.getfield 36, 3) := by decide +kernel
theorem dX6_takesAll_29 : decode cX6_takesAll 29 = .ok (.ifCond .eq 40, 3) := by decide +kernel
theorem dX6_takesAll_32 : decode cX6_takesAll 32 = .ok (.aload_n 0, 1) := by decide +kernel
theorem dX6_takesAll_33 : decode cX6_takesAll 33 = .ok (.getfield 21, 3) := by decide +kernel
theorem dX6_takesAll_36 : decode cX6_takesAll 36 = .ok (.sipush 320, 3) := by decide +kernel
theorem dX6_takesAll_39 : decode cX6_takesAll 39 = .ok (.if_icmp .ge 30, 3) := by decide +kernel
theorem dX6_takesAll_42 : decode cX6_takesAll 42 = .ok (.aload_n 0, 1) := by decide +kernel
theorem dX6_takesAll_43 : decode cX6_takesAll 43 = .ok (.aload_n 1, 1) := by decide +kernel
theorem dX6_takesAll_44 : decode cX6_takesAll 44 = .ok (.invokevirtual 39, 3) := by decide +kernel
theorem dX6_takesAll_47 : decode cX6_takesAll 47 = .ok (.ifCond .ne 5, 3) := by decide +kernel
theorem dX6_takesAll_50 : decode cX6_takesAll 50 = .ok (.iconst 0, 1) := by decide +kernel
theorem dX6_takesAll_51 : decode cX6_takesAll 51 = .ok (.ireturn, 1) := by decide +kernel
theorem dX6_takesAll_52 : decode cX6_takesAll 52 = .ok (.aload_n 0, 1) := by decide +kernel
theorem dX6_takesAll_53 : decode cX6_takesAll 53 = .ok (.dup, 1) := by decide +kernel
theorem dX6_takesAll_54 : decode cX6_takesAll 54 = .ok (.getfield 21, 3) := by decide +kernel
theorem dX6_takesAll_57 : decode cX6_takesAll 57 = .ok (.iconst 1, 1) := by decide +kernel
theorem dX6_takesAll_58 : decode cX6_takesAll 58 = .ok (.iadd, 1) := by decide +kernel
theorem dX6_takesAll_59 : decode cX6_takesAll 59 = .ok (.putfield 21, 3) := by decide +kernel
theorem dX6_takesAll_62 : decode cX6_takesAll 62 = .ok (.aload_n 1, 1) := by decide +kernel
theorem dX6_takesAll_63 : decode cX6_takesAll 63 = .ok (.invokevirtual 33, 3) := by decide +kernel
theorem dX6_takesAll_66 : decode cX6_takesAll 66 = .ok (.goto (-41), 3) := by decide +kernel
theorem dX6_takesAll_69 : decode cX6_takesAll 69 = .ok (.iconst 1, 1) := by decide +kernel
theorem dX6_takesAll_70 : decode cX6_takesAll 70 = .ok (.ireturn, 1) := by decide +kernel
theorem dX6_takesLine_0 : decode cX6_takesLine 0 = .ok (.aload_n 1, 1) := by decide +kernel
theorem dX6_takesLine_1 : decode cX6_takesLine 1 = .ok (.invokestatic 43, 3) := by decide +kernel
theorem dX6_takesLine_4 : decode cX6_takesLine 4 = .ok (.istore_n 2, 1) := by decide +kernel
theorem dX6_takesLine_5 : decode cX6_takesLine 5 = .ok (.iload_n 2, 1) := by decide +kernel
theorem dX6_takesLine_6 : decode cX6_takesLine 6 = .ok (.ifCond .ne 10, 3) := by decide +kernel
theorem dX6_takesLine_9 : decode cX6_takesLine 9 = .ok (.aload_n 0, 1) := by decide +kernel
theorem dX6_takesLine_10 : decode cX6_takesLine 10 = .ok (.aload_n 1, 1) := by decide +kernel
theorem dX6_takesLine_11 : decode cX6_takesLine 11 = .ok (.iconst 2, 1) := by decide +kernel
theorem dX6_takesLine_12 : decode cX6_takesLine 12 = .ok (.invokevirtual 47, 3) := by decide +kernel
theorem dX6_takesLine_15 : decode cX6_takesLine 15 = .ok (.ireturn, 1) := by decide +kernel
theorem dX6_takesLine_16 : decode cX6_takesLine 16 = .ok (.aload_n 0, 1) := by decide +kernel
theorem dX6_takesLine_17 : decode cX6_takesLine 17 = .ok (.aload_n 1, 1) := by decide +kernel
theorem dX6_takesLine_18 : decode cX6_takesLine 18 = .ok (.iconst 0, 1) := by decide +kernel
theorem dX6_takesLine_19 : decode cX6_takesLine 19 = .ok (.bipush 29, 2) := by decide +kernel
theorem dX6_takesLine_21 : decode cX6_takesLine 21 = .ok (.invokevirtual 51, 3) := by decide +kernel
theorem dX6_takesLine_24 : decode cX6_takesLine 24 = .ok (.ifCond .ne 5, 3) := by decide +kernel
theorem dX6_takesLine_27 : decode cX6_takesLine 27 = .ok (.iconst 0, 1) := by decide +kernel
theorem dX6_takesLine_28 : decode cX6_takesLine 28 = .ok (.ireturn, 1) := by decide +kernel
theorem dX6_takesLine_29 : decode cX6_takesLine 29 = .ok (.aload_n 1, 1) := by decide +kernel
theorem dX6_takesLine_30 : decode cX6_takesLine 30 = .ok (.getfield 55, 3) := by decide +kernel
theorem dX6_takesLine_33 : decode cX6_takesLine 33 = .ok (.istore_n 3, 1) := by decide +kernel
theorem dX6_takesLine_34 : decode cX6_takesLine 34 = .ok (.aload_n 0, 1) := by decide +kernel
theorem dX6_takesLine_35 : decode cX6_takesLine 35 = .ok (.getfield 12, 3) := by decide +kernel
theorem dX6_takesLine_38 : decode cX6_takesLine 38 = .ok (.iload_n 3, 1) := by decide +kernel
theorem dX6_takesLine_39 : decode cX6_takesLine 39 = .ok (.iload_n 2, 1) := by decide +kernel
theorem dX6_takesLine_40 : decode cX6_takesLine 40 = .ok (.invokevirtual 58, 3) := by decide +kernel
theorem dX6_takesLine_43 : decode cX6_takesLine 43 = .ok (.iload_n 2, 1) := by decide +kernel
theorem dX6_takesLine_44 : decode cX6_takesLine 44 = .ok (.iconst 1, 1) := by decide +kernel
theorem dX6_takesLine_45 : decode cX6_takesLine 45 = .ok (.if_icmp .ne 9, 3) := by decide +kernel
theorem dX6_takesLine_48 : decode cX6_takesLine 48 = .ok (.sipush 999, 3) := by decide +kernel
theorem dX6_takesLine_51 : decode cX6_takesLine 51 = .ok (.goto 5, 3) := by decide +kernel
theorem dX6_takesLine_54 : decode cX6_takesLine 54 = .ok (.bipush 29, 2) := by decide +kernel
theorem dX6_takesLine_56 : decode cX6_takesLine 56 = .ok (.istore 4, 2) := by decide +kernel
theorem dX6_takesLine_58 : decode cX6_takesLine 58 = .ok (.iload_n 2, 1) := by decide +kernel
theorem dX6_takesLine_59 : decode cX6_takesLine 59 = .ok (.invokestatic 62, 3) := by decide +kernel
theorem dX6_takesLine_62 : decode cX6_takesLine 62 = .ok (.istore 5, 2) := by decide +kernel
theorem dX6_takesLine_64 : decode cX6_takesLine 64 = .ok (.iconst 1, 1) := by decide +kernel
theorem dX6_takesLine_65 : decode cX6_takesLine 65 = .ok (.istore 6, 2) := by decide +kernel
theorem dX6_takesLine_67 : decode cX6_takesLine 67 = .ok (.iload 6, 2) := by decide +kernel
theorem dX6_takesLine_69 : decode cX6_takesLine 69 = .ok (.iload 5, 2) := by decide +kernel
theorem dX6_takesLine_71 : decode cX6_takesLine 71 = .ok (.if_icmp .gt 65, 3) := by decide +kernel
theorem dX6_takesLine_74 : decode cX6_takesLine 74 = .ok (.iload_n 2, 1) := by decide +kernel
theorem dX6_takesLine_75 : decode cX6_takesLine 75 = .ok (.invokestatic 66, 3) := by decide +kernel
theorem dX6_takesLine_78 : decode cX6_takesLine 78 = .ok (.ifCond .eq 21, 3) := by decide +kernel
theorem dX6_takesLine_81 : decode cX6_takesLine 81 = .ok (.iload 6, 2) := by decide +kernel
theorem dX6_takesLine_83 : decode cX6_takesLine 83 = .ok (.iconst 2, 1) := by decide +kernel
theorem dX6_takesLine_84 : decode cX6_takesLine 84 = .ok (.if_icmp .ne 15, 3) := by decide +kernel
theorem dX6_takesLine_87 : decode cX6_takesLine 87 = .ok (.aload_n 0, 1) := by decide +kernel
theorem dX6_takesLine_88 : decode cX6_takesLine 88 = .ok (.getfield 12, 3) := by decide +kernel
theorem dX6_takesLine_91 : decode cX6_takesLine 91 = .ok (.iload_n 3, 1) := by decide +kernel
theorem dX6_takesLine_92 : decode cX6_takesLine 92 = .ok (.iconst 1, 1) := by decide +kernel
theorem dX6_takesLine_93 : decode cX6_takesLine 93 = .ok (.invokevirtual 70, 3) := by decide +kernel
theorem dX6_takesLine_96 : decode cX6_takesLine 96 = .ok (.goto 4, 3) := by decide +kernel
theorem dX6_takesLine_99 : decode cX6_takesLine 99 = .ok (.iconst 0, 1) := by decide +kernel
theorem dX6_takesLine_100 : decode cX6_takesLine 100 = .ok (.istore 7, 2) := by decide +kernel
theorem dX6_takesLine_102 : decode cX6_takesLine 102 = .ok (.aload_n 0, 1) := by decide +kernel
theorem dX6_takesLine_103 : decode cX6_takesLine 103 = .ok (.aload_n 1, 1) := by decide +kernel
theorem dX6_takesLine_104 : decode cX6_takesLine 104 = .ok (.iload 7, 2) := by decide +kernel
theorem dX6_takesLine_106 : decode cX6_takesLine 106 = .ok (.iload 4, 2) := by decide +kernel
theorem dX6_takesLine_108 : decode cX6_takesLine 108 = .ok (.invokevirtual 51, 3) := by decide +kernel
theorem dX6_takesLine_111 : decode cX6_takesLine 111 = .ok (.ifCond .ne 5, 3) := by decide +kernel
theorem dX6_takesLine_114 : decode cX6_takesLine 114 = .ok (.iconst 0, 1) := by decide +kernel
theorem dX6_takesLine_115 : decode cX6_takesLine 115 = .ok (.ireturn, 1) := by decide +kernel
theorem dX6_takesLine_116 : decode cX6_takesLine 116 = .ok (.aload_n 0, 1) := by decide +kernel
theorem dX6_takesLine_117 : decode cX6_takesLine 117 = .ok (.getfield 12, 3) := by decide +kernel
theorem dX6_takesLine_120 : decode cX6_takesLine 120 = .ok (.iload_n 3, 1) := by decide +kernel
theorem dX6_takesLine_121 : decode cX6_takesLine 121 = .ok (.iload 6, 2) := by decide +kernel
theorem dX6_takesLine_123 : decode cX6_takesLine 123 = .ok (.aload_n 1, 1) := by decide +kernel
theorem dX6_takesLine_124 : decode cX6_takesLine 124 = .ok (.getfield 55, 3) := by decide +kernel
theorem dX6_takesLine_127 : decode cX6_takesLine 127 = .ok (.invokevirtual 74, 3) := by decide +kernel
theorem dX6_takesLine_130 : decode cX6_takesLine 130 = .ok (.iinc 6 1, 3) := by decide +kernel
theorem dX6_takesLine_133 : decode cX6_takesLine 133 = .ok (.goto (-66), 3) := by decide +kernel
theorem dX6_takesLine_136 : decode cX6_takesLine 136 = .ok (.aload_n 1, 1) := by decide +kernel
theorem dX6_takesLine_137 : decode cX6_takesLine 137 = .ok (.invokevirtual 33, 3) := by decide +kernel
theorem dX6_takesLine_140 : decode cX6_takesLine 140 = .ok (.aload_n 1, 1) := by decide +kernel
theorem dX6_takesLine_141 : decode cX6_takesLine 141 = .ok (.getfield 36, 3) := by decide +kernel
theorem dX6_takesLine_144 : decode cX6_takesLine 144 = .ok (.iconst 3, 1) := by decide +kernel
theorem dX6_takesLine_145 : decode cX6_takesLine 145 = .ok (.if_icmp .eq 12, 3) := by decide +kernel
theorem dX6_takesLine_148 : decode cX6_takesLine 148 = .ok (.aload_n 0, 1) := by decide +kernel
theorem dX6_takesLine_149 : decode cX6_takesLine 149 = .ok (.aload_n 1, 1) := by decide +kernel
theorem dX6_takesLine_150 : decode cX6_takesLine 150 = .ok (.iconst 2, 1) := by decide +kernel
theorem dX6_takesLine_151 : decode cX6_takesLine 151 = .ok (.invokevirtual 47, 3) := by decide +kernel
theorem dX6_takesLine_154 : decode cX6_takesLine 154 = .ok (.ifCond .eq 7, 3) := by decide +kernel
theorem dX6_takesLine_157 : decode cX6_takesLine 157 = .ok (.iconst 1, 1) := by decide +kernel
theorem dX6_takesLine_158 : decode cX6_takesLine 158 = .ok (.goto 4, 3) := by decide +kernel
theorem dX6_takesLine_161 : decode cX6_takesLine 161 = .ok (.iconst 0, 1) := by decide +kernel
theorem dX6_takesLine_162 : decode cX6_takesLine 162 = .ok (.ireturn, 1) := by decide +kernel
theorem dX6_takesNumber_0 : decode cX6_takesNumber 0 = .ok (.aload_n 1, 1) := by decide +kernel
theorem dX6_takesNumber_1 : decode cX6_takesNumber 1 = .ok (.invokevirtual 33, 3) := by decide +kernel
theorem dX6_takesNumber_4 : decode cX6_takesNumber 4 = .ok (.aload_n 1, 1) := by decide +kernel
theorem dX6_takesNumber_5 : decode cX6_takesNumber 5 = .ok (.getfield 36, 3) := by decide +kernel
theorem dX6_takesNumber_8 : decode cX6_takesNumber 8 = .ok (.iconst 2, 1) := by decide +kernel
theorem dX6_takesNumber_9 : decode cX6_takesNumber 9 = .ok (.if_icmp .eq 10, 3) := by decide +kernel
theorem dX6_takesNumber_12 : decode cX6_takesNumber 12 = .ok (.aload_n 0, 1) := by decide +kernel
theorem dX6_takesNumber_13 : decode cX6_takesNumber 13 = .ok (.aload_n 1, 1) := by decide +kernel
theorem dX6_takesNumber_14 : decode cX6_takesNumber 14 = .ok (.iconst 2, 1) := by decide +kernel
theorem dX6_takesNumber_15 : decode cX6_takesNumber 15 = .ok (.invokevirtual 47, 3) := by decide +kernel
theorem dX6_takesNumber_18 : decode cX6_takesNumber 18 = .ok (.ireturn, 1) := by decide +kernel
theorem dX6_takesNumber_19 : decode cX6_takesNumber 19 = .ok (.aload_n 1, 1) := by decide +kernel
theorem dX6_takesNumber_20 : decode cX6_takesNumber 20 = .ok (.getfield 55, 3) := by decide +kernel
theorem dX6_takesNumber_23 : decode cX6_takesNumber 23 = .ok (.iload_n 2, 1) := by decide +kernel
theorem dX6_takesNumber_24 : decode cX6_takesNumber 24 = .ok (.if_icmp .lt 11, 3) := by decide +kernel
theorem dX6_takesNumber_27 : decode cX6_takesNumber 27 = .ok (.aload_n 1, 1) := by decide +kernel
theorem dX6_takesNumber_28 : decode cX6_takesNumber 28 = .ok (.getfield 55, 3) := by decide +kernel
theorem dX6_takesNumber_31 : decode cX6_takesNumber 31 = .ok (.iload_n 3, 1) := by decide +kernel
theorem dX6_takesNumber_32 : decode cX6_takesNumber 32 = .ok (.if_icmp .le 10, 3) := by decide +kernel
theorem dX6_takesNumber_35 : decode cX6_takesNumber 35 = .ok (.aload_n 0, 1) := by decide +kernel
theorem dX6_takesNumber_36 : decode cX6_takesNumber 36 = .ok (.aload_n 1, 1) := by decide +kernel
theorem dX6_takesNumber_37 : decode cX6_takesNumber 37 = .ok (.iconst 3, 1) := by decide +kernel
theorem dX6_takesNumber_38 : decode cX6_takesNumber 38 = .ok (.invokevirtual 47, 3) := by decide +kernel
theorem dX6_takesNumber_41 : decode cX6_takesNumber 41 = .ok (.ireturn, 1) := by decide +kernel
theorem dX6_takesNumber_42 : decode cX6_takesNumber 42 = .ok (.iconst 1, 1) := by decide +kernel
theorem dX6_takesNumber_43 : decode cX6_takesNumber 43 = .ok (.ireturn, 1) := by decide +kernel
theorem dX6_fails_0 : decode cX6_fails 0 = .ok (.aload_n 0, 1) := by decide +kernel
theorem dX6_fails_1 : decode cX6_fails 1 = .ok (.aload_n 1, 1) := by decide +kernel
theorem dX6_fails_2 : decode cX6_fails 2 = .ok (.getfield 36, 3) := by decide +kernel
theorem dX6_fails_5 : decode cX6_fails 5 = .ok (.iconst 4, 1) := by decide +kernel
theorem dX6_fails_6 : decode cX6_fails 6 = .ok (.if_icmp .ne 7, 3) := by decide +kernel
theorem dX6_fails_9 : decode cX6_fails 9 = .ok (.iconst 1, 1) := by decide +kernel
theorem dX6_fails_10 : decode cX6_fails 10 = .ok (.goto 4, 3) := by decide +kernel
theorem dX6_fails_13 : decode cX6_fails 13 = .ok (.iload_n 2, 1) := by decide +kernel
theorem dX6_fails_14 : decode cX6_fails 14 = .ok (.putfield 25, 3) := by decide +kernel
theorem dX6_fails_17 : decode cX6_fails 17 = .ok (.iconst 0, 1) := by decide +kernel
theorem dX6_fails_18 : decode cX6_fails 18 = .ok (.ireturn, 1) := by decide +kernel
theorem dX6_kindTold_0 : decode cX6_kindTold 0 = .ok (.iconst 1, 1) := by decide +kernel
theorem dX6_kindTold_1 : decode cX6_kindTold 1 = .ok (.istore_n 1, 1) := by decide +kernel
theorem dX6_kindTold_2 : decode cX6_kindTold 2 = .ok (.iload_n 1, 1) := by decide +kernel
theorem dX6_kindTold_3 : decode cX6_kindTold 3 = .ok (.bipush 9, 2) := by decide +kernel
theorem dX6_kindTold_5 : decode cX6_kindTold 5 = .ok (.if_icmp .ge 22, 3) := by decide +kernel
theorem dX6_kindTold_8 : decode cX6_kindTold 8 = .ok (.aload_n 0, 1) := by decide +kernel
theorem dX6_kindTold_9 : decode cX6_kindTold 9 = .ok (.iload_n 1, 1) := by decide +kernel
theorem dX6_kindTold_10 : decode cX6_kindTold 10 = .ok (.invokestatic 78, 3) := by decide +kernel
theorem dX6_kindTold_13 : decode cX6_kindTold 13 = .ok (.invokevirtual 82, 3) := by decide +kernel
theorem dX6_kindTold_16 : decode cX6_kindTold 16 = .ok (.ifCond .eq 5, 3) := by decide +kernel
theorem dX6_kindTold_19 : decode cX6_kindTold 19 = .ok (.iload_n 1, 1) := by decide +kernel
theorem dX6_kindTold_20 : decode cX6_kindTold 20 = .ok (.ireturn, 1) := by decide +kernel
theorem dX6_kindTold_21 : decode cX6_kindTold 21 = .ok (.iinc 1 1, 3) := by decide +kernel
theorem dX6_kindTold_24 : decode cX6_kindTold 24 = .ok (.goto (-22), 3) := by decide +kernel
theorem dX6_kindTold_27 : decode cX6_kindTold 27 = .ok (.iconst 0, 1) := by decide +kernel
theorem dX6_kindTold_28 : decode cX6_kindTold 28 = .ok (.ireturn, 1) := by decide +kernel
theorem dX6_wordOf_0 : decode cX6_wordOf 0 = .ok (.iload_n 0, 1) := by decide +kernel
theorem dX6_wordOf_1 : decode cX6_wordOf 1 = .ok (.tableswitch 64 1 7 #[43, 46, 49, 52, 55, 58, 61], 43) := by decide +kernel
theorem dX6_wordOf_44 : decode cX6_wordOf 44 = .ok (.ldc 86, 2) := by decide +kernel
theorem dX6_wordOf_46 : decode cX6_wordOf 46 = .ok (.areturn, 1) := by decide +kernel
theorem dX6_wordOf_47 : decode cX6_wordOf 47 = .ok (.ldc 88, 2) := by decide +kernel
theorem dX6_wordOf_49 : decode cX6_wordOf 49 = .ok (.areturn, 1) := by decide +kernel
theorem dX6_wordOf_50 : decode cX6_wordOf 50 = .ok (.ldc 90, 2) := by decide +kernel
theorem dX6_wordOf_52 : decode cX6_wordOf 52 = .ok (.areturn, 1) := by decide +kernel
theorem dX6_wordOf_53 : decode cX6_wordOf 53 = .ok (.ldc 92, 2) := by decide +kernel
theorem dX6_wordOf_55 : decode cX6_wordOf 55 = .ok (.areturn, 1) := by decide +kernel
theorem dX6_wordOf_56 : decode cX6_wordOf 56 = .ok (.ldc 94, 2) := by decide +kernel
theorem dX6_wordOf_58 : decode cX6_wordOf 58 = .ok (.areturn, 1) := by decide +kernel
theorem dX6_wordOf_59 : decode cX6_wordOf 59 = .ok (.ldc 96, 2) := by decide +kernel
theorem dX6_wordOf_61 : decode cX6_wordOf 61 = .ok (.areturn, 1) := by decide +kernel
theorem dX6_wordOf_62 : decode cX6_wordOf 62 = .ok (.ldc 98, 2) := by decide +kernel
theorem dX6_wordOf_64 : decode cX6_wordOf 64 = .ok (.areturn, 1) := by decide +kernel
theorem dX6_wordOf_65 : decode cX6_wordOf 65 = .ok (.ldc 100, 2) := by decide +kernel
theorem dX6_wordOf_67 : decode cX6_wordOf 67 = .ok (.areturn, 1) := by decide +kernel
theorem dJ6_bitCount_0f7a4_0 : decode cJ6_bitCount_0f7a4 0 = .ok (.iload_n 0, 1) := by decide +kernel
theorem dJ6_bitCount_0f7a4_1 : decode cJ6_bitCount_0f7a4 1 = .ok (.iload_n 0, 1) := by decide +kernel
theorem dJ6_bitCount_0f7a4_2 : decode cJ6_bitCount_0f7a4 2 = .ok (.iconst 1, 1) := by decide +kernel
theorem dJ6_bitCount_0f7a4_3 : decode cJ6_bitCount_0f7a4 3 = .ok (.iushr, 1) := by decide +kernel
theorem dJ6_bitCount_0f7a4_4 : decode cJ6_bitCount_0f7a4 4 = .ok (.ldc_w 265, 3) := by decide +kernel
theorem dJ6_bitCount_0f7a4_7 : decode cJ6_bitCount_0f7a4 7 = .ok (.iand, 1) := by decide +kernel
theorem dJ6_bitCount_0f7a4_8 : decode cJ6_bitCount_0f7a4 8 = .ok (.isub, 1) := by decide +kernel
theorem dJ6_bitCount_0f7a4_9 : decode cJ6_bitCount_0f7a4 9 = .ok (.istore_n 0, 1) := by decide +kernel
theorem dJ6_bitCount_0f7a4_10 : decode cJ6_bitCount_0f7a4 10 = .ok (.iload_n 0, 1) := by decide +kernel
theorem dJ6_bitCount_0f7a4_11 : decode cJ6_bitCount_0f7a4 11 = .ok (.ldc_w 266, 3) := by decide +kernel
theorem dJ6_bitCount_0f7a4_14 : decode cJ6_bitCount_0f7a4 14 = .ok (.iand, 1) := by decide +kernel
theorem dJ6_bitCount_0f7a4_15 : decode cJ6_bitCount_0f7a4 15 = .ok (.iload_n 0, 1) := by decide +kernel
theorem dJ6_bitCount_0f7a4_16 : decode cJ6_bitCount_0f7a4 16 = .ok (.iconst 2, 1) := by decide +kernel
theorem dJ6_bitCount_0f7a4_17 : decode cJ6_bitCount_0f7a4 17 = .ok (.iushr, 1) := by decide +kernel
theorem dJ6_bitCount_0f7a4_18 : decode cJ6_bitCount_0f7a4 18 = .ok (.ldc_w 266, 3) := by decide +kernel
theorem dJ6_bitCount_0f7a4_21 : decode cJ6_bitCount_0f7a4 21 = .ok (.iand, 1) := by decide +kernel
theorem dJ6_bitCount_0f7a4_22 : decode cJ6_bitCount_0f7a4 22 = .ok (.iadd, 1) := by decide +kernel
theorem dJ6_bitCount_0f7a4_23 : decode cJ6_bitCount_0f7a4 23 = .ok (.istore_n 0, 1) := by decide +kernel
theorem dJ6_bitCount_0f7a4_24 : decode cJ6_bitCount_0f7a4 24 = .ok (.iload_n 0, 1) := by decide +kernel
theorem dJ6_bitCount_0f7a4_25 : decode cJ6_bitCount_0f7a4 25 = .ok (.iload_n 0, 1) := by decide +kernel
theorem dJ6_bitCount_0f7a4_26 : decode cJ6_bitCount_0f7a4 26 = .ok (.iconst 4, 1) := by decide +kernel
theorem dJ6_bitCount_0f7a4_27 : decode cJ6_bitCount_0f7a4 27 = .ok (.iushr, 1) := by decide +kernel
theorem dJ6_bitCount_0f7a4_28 : decode cJ6_bitCount_0f7a4 28 = .ok (.iadd, 1) := by decide +kernel
theorem dJ6_bitCount_0f7a4_29 : decode cJ6_bitCount_0f7a4 29 = .ok (.ldc_w 267, 3) := by decide +kernel
theorem dJ6_bitCount_0f7a4_32 : decode cJ6_bitCount_0f7a4 32 = .ok (.iand, 1) := by decide +kernel
theorem dJ6_bitCount_0f7a4_33 : decode cJ6_bitCount_0f7a4 33 = .ok (.istore_n 0, 1) := by decide +kernel
theorem dJ6_bitCount_0f7a4_34 : decode cJ6_bitCount_0f7a4 34 = .ok (.iload_n 0, 1) := by decide +kernel
theorem dJ6_bitCount_0f7a4_35 : decode cJ6_bitCount_0f7a4 35 = .ok (.iload_n 0, 1) := by decide +kernel
theorem dJ6_bitCount_0f7a4_36 : decode cJ6_bitCount_0f7a4 36 = .ok (.bipush 8, 2) := by decide +kernel
theorem dJ6_bitCount_0f7a4_38 : decode cJ6_bitCount_0f7a4 38 = .ok (.iushr, 1) := by decide +kernel
theorem dJ6_bitCount_0f7a4_39 : decode cJ6_bitCount_0f7a4 39 = .ok (.iadd, 1) := by decide +kernel
theorem dJ6_bitCount_0f7a4_40 : decode cJ6_bitCount_0f7a4 40 = .ok (.istore_n 0, 1) := by decide +kernel
theorem dJ6_bitCount_0f7a4_41 : decode cJ6_bitCount_0f7a4 41 = .ok (.iload_n 0, 1) := by decide +kernel
theorem dJ6_bitCount_0f7a4_42 : decode cJ6_bitCount_0f7a4 42 = .ok (.iload_n 0, 1) := by decide +kernel
theorem dJ6_bitCount_0f7a4_43 : decode cJ6_bitCount_0f7a4 43 = .ok (.bipush 16, 2) := by decide +kernel
theorem dJ6_bitCount_0f7a4_45 : decode cJ6_bitCount_0f7a4 45 = .ok (.iushr, 1) := by decide +kernel
theorem dJ6_bitCount_0f7a4_46 : decode cJ6_bitCount_0f7a4 46 = .ok (.iadd, 1) := by decide +kernel
theorem dJ6_bitCount_0f7a4_47 : decode cJ6_bitCount_0f7a4 47 = .ok (.istore_n 0, 1) := by decide +kernel
theorem dJ6_bitCount_0f7a4_48 : decode cJ6_bitCount_0f7a4 48 = .ok (.iload_n 0, 1) := by decide +kernel
theorem dJ6_bitCount_0f7a4_49 : decode cJ6_bitCount_0f7a4 49 = .ok (.bipush 63, 2) := by decide +kernel
theorem dJ6_bitCount_0f7a4_51 : decode cJ6_bitCount_0f7a4 51 = .ok (.iand, 1) := by decide +kernel
theorem dJ6_bitCount_0f7a4_52 : decode cJ6_bitCount_0f7a4 52 = .ok (.ireturn, 1) := by decide +kernel
theorem dJ9_floorMod_7cf53_0 : decode cJ9_floorMod_7cf53 0 = .ok (.iload_n 0, 1) := by decide +kernel
theorem dJ9_floorMod_7cf53_1 : decode cJ9_floorMod_7cf53 1 = .ok (.iload_n 1, 1) := by decide +kernel
theorem dJ9_floorMod_7cf53_2 : decode cJ9_floorMod_7cf53 2 = .ok (.irem, 1) := by decide +kernel
theorem dJ9_floorMod_7cf53_3 : decode cJ9_floorMod_7cf53 3 = .ok (.istore_n 2, 1) := by decide +kernel
theorem dJ9_floorMod_7cf53_4 : decode cJ9_floorMod_7cf53 4 = .ok (.iload_n 0, 1) := by decide +kernel
theorem dJ9_floorMod_7cf53_5 : decode cJ9_floorMod_7cf53 5 = .ok (.iload_n 1, 1) := by decide +kernel
theorem dJ9_floorMod_7cf53_6 : decode cJ9_floorMod_7cf53 6 = .ok (.ixor, 1) := by decide +kernel
theorem dJ9_floorMod_7cf53_7 : decode cJ9_floorMod_7cf53 7 = .ok (.ifCond .ge 11, 3) := by decide +kernel
theorem dJ9_floorMod_7cf53_10 : decode cJ9_floorMod_7cf53 10 = .ok (.iload_n 2, 1) := by decide +kernel
theorem dJ9_floorMod_7cf53_11 : decode cJ9_floorMod_7cf53 11 = .ok (.ifCond .eq 7, 3) := by decide +kernel
theorem dJ9_floorMod_7cf53_14 : decode cJ9_floorMod_7cf53 14 = .ok (.iload_n 2, 1) := by decide +kernel
theorem dJ9_floorMod_7cf53_15 : decode cJ9_floorMod_7cf53 15 = .ok (.iload_n 1, 1) := by decide +kernel
theorem dJ9_floorMod_7cf53_16 : decode cJ9_floorMod_7cf53 16 = .ok (.iadd, 1) := by decide +kernel
theorem dJ9_floorMod_7cf53_17 : decode cJ9_floorMod_7cf53 17 = .ok (.ireturn, 1) := by decide +kernel
theorem dJ9_floorMod_7cf53_18 : decode cJ9_floorMod_7cf53 18 = .ok (.iload_n 2, 1) := by decide +kernel
theorem dJ9_floorMod_7cf53_19 : decode cJ9_floorMod_7cf53 19 = .ok (.ireturn, 1) := by decide +kernel
theorem dJ9_max_7cf53_0 : decode cJ9_max_7cf53 0 = .ok (.iload_n 0, 1) := by decide +kernel
theorem dJ9_max_7cf53_1 : decode cJ9_max_7cf53 1 = .ok (.iload_n 1, 1) := by decide +kernel
theorem dJ9_max_7cf53_2 : decode cJ9_max_7cf53 2 = .ok (.if_icmp .lt 7, 3) := by decide +kernel
theorem dJ9_max_7cf53_5 : decode cJ9_max_7cf53 5 = .ok (.iload_n 0, 1) := by decide +kernel
theorem dJ9_max_7cf53_6 : decode cJ9_max_7cf53 6 = .ok (.goto 4, 3) := by decide +kernel
theorem dJ9_max_7cf53_9 : decode cJ9_max_7cf53 9 = .ok (.iload_n 1, 1) := by decide +kernel
theorem dJ9_max_7cf53_10 : decode cJ9_max_7cf53 10 = .ok (.ireturn, 1) := by decide +kernel
theorem dJ9_min_7cf53_0 : decode cJ9_min_7cf53 0 = .ok (.iload_n 0, 1) := by decide +kernel
theorem dJ9_min_7cf53_1 : decode cJ9_min_7cf53 1 = .ok (.iload_n 1, 1) := by decide +kernel
theorem dJ9_min_7cf53_2 : decode cJ9_min_7cf53 2 = .ok (.if_icmp .gt 7, 3) := by decide +kernel
theorem dJ9_min_7cf53_5 : decode cJ9_min_7cf53 5 = .ok (.iload_n 0, 1) := by decide +kernel
theorem dJ9_min_7cf53_6 : decode cJ9_min_7cf53 6 = .ok (.goto 4, 3) := by decide +kernel
theorem dJ9_min_7cf53_9 : decode cJ9_min_7cf53 9 = .ok (.iload_n 1, 1) := by decide +kernel
theorem dJ9_min_7cf53_10 : decode cJ9_min_7cf53 10 = .ok (.ireturn, 1) := by decide +kernel
theorem dJ0_length_8abf5_0 : decode cJ0_length_8abf5 0 = .ok (.aload_n 0, 1) := by decide +kernel
theorem dJ0_length_8abf5_1 : decode cJ0_length_8abf5 1 = .ok (.getfield 9, 3) := by decide +kernel
theorem dJ0_length_8abf5_4 : decode cJ0_length_8abf5 4 = .ok (.arraylength, 1) := by decide +kernel
theorem dJ0_length_8abf5_5 : decode cJ0_length_8abf5 5 = .ok (.aload_n 0, 1) := by decide +kernel
theorem dJ0_length_8abf5_6 : decode cJ0_length_8abf5 6 = .ok (.invokevirtual 335, 3) := by decide +kernel
theorem dJ0_length_8abf5_9 : decode cJ0_length_8abf5 9 = .ok (.ishr, 1) := by decide +kernel
theorem dJ0_length_8abf5_10 : decode cJ0_length_8abf5 10 = .ok (.ireturn, 1) := by decide +kernel
theorem dJ0_charAt_5068e_0 : decode cJ0_charAt_5068e 0 = .ok (.aload_n 0, 1) := by decide +kernel
theorem dJ0_charAt_5068e_1 : decode cJ0_charAt_5068e 1 = .ok (.invokevirtual 492, 3) := by decide +kernel
theorem dJ0_charAt_5068e_4 : decode cJ0_charAt_5068e 4 = .ok (.ifCond .eq 12, 3) := by decide +kernel
theorem dJ0_charAt_5068e_7 : decode cJ0_charAt_5068e 7 = .ok (.aload_n 0, 1) := by decide +kernel
theorem dJ0_charAt_5068e_8 : decode cJ0_charAt_5068e 8 = .ok (.getfield 9, 3) := by decide +kernel
theorem dJ0_charAt_5068e_11 : decode cJ0_charAt_5068e 11 = .ok (.iload_n 1, 1) := by decide +kernel
theorem dJ0_charAt_5068e_12 : decode cJ0_charAt_5068e 12 = .ok (.invokestatic 495, 3) := by decide +kernel
theorem dJ0_charAt_5068e_15 : decode cJ0_charAt_5068e 15 = .ok (.ireturn, 1) := by decide +kernel
theorem dJ0_charAt_5068e_16 : decode cJ0_charAt_5068e 16 = .ok (.aload_n 0, 1) := by decide +kernel
theorem dJ0_charAt_5068e_17 : decode cJ0_charAt_5068e 17 = .ok (.getfield 9, 3) := by decide +kernel
theorem dJ0_charAt_5068e_20 : decode cJ0_charAt_5068e 20 = .ok (.iload_n 1, 1) := by decide +kernel
theorem dJ0_charAt_5068e_21 : decode cJ0_charAt_5068e 21 = .ok (.invokestatic 498, 3) := by decide +kernel
theorem dJ0_charAt_5068e_24 : decode cJ0_charAt_5068e 24 = .ok (.ireturn, 1) := by decide +kernel
theorem dJ0_coder_7d493_0 : decode cJ0_coder_7d493 0 = .ok (.getstatic 38, 3) := by decide +kernel
theorem dJ0_coder_7d493_3 : decode cJ0_coder_7d493 3 = .ok (.ifCond .eq 10, 3) := by decide +kernel
theorem dJ0_coder_7d493_6 : decode cJ0_coder_7d493 6 = .ok (.aload_n 0, 1) := by decide +kernel
theorem dJ0_coder_7d493_7 : decode cJ0_coder_7d493 7 = .ok (.getfield 15, 3) := by decide +kernel
theorem dJ0_coder_7d493_10 : decode cJ0_coder_7d493 10 = .ok (.goto 4, 3) := by decide +kernel
theorem dJ0_coder_7d493_13 : decode cJ0_coder_7d493 13 = .ok (.iconst 1, 1) := by decide +kernel
theorem dJ0_coder_7d493_14 : decode cJ0_coder_7d493 14 = .ok (.ireturn, 1) := by decide +kernel
theorem dJ0_isLatin1_aae02_0 : decode cJ0_isLatin1_aae02 0 = .ok (.getstatic 38, 3) := by decide +kernel
theorem dJ0_isLatin1_aae02_3 : decode cJ0_isLatin1_aae02 3 = .ok (.ifCond .eq 14, 3) := by decide +kernel
theorem dJ0_isLatin1_aae02_6 : decode cJ0_isLatin1_aae02 6 = .ok (.aload_n 0, 1) := by decide +kernel
theorem dJ0_isLatin1_aae02_7 : decode cJ0_isLatin1_aae02 7 = .ok (.getfield 15, 3) := by decide +kernel
theorem dJ0_isLatin1_aae02_10 : decode cJ0_isLatin1_aae02 10 = .ok (.ifCond .ne 7, 3) := by decide +kernel
theorem dJ0_isLatin1_aae02_13 : decode cJ0_isLatin1_aae02 13 = .ok (.iconst 1, 1) := by decide +kernel
theorem dJ0_isLatin1_aae02_14 : decode cJ0_isLatin1_aae02 14 = .ok (.goto 4, 3) := by decide +kernel
theorem dJ0_isLatin1_aae02_17 : decode cJ0_isLatin1_aae02 17 = .ok (.iconst 0, 1) := by decide +kernel
theorem dJ0_isLatin1_aae02_18 : decode cJ0_isLatin1_aae02 18 = .ok (.ireturn, 1) := by decide +kernel
theorem dJ0_checkIndex_df160_0 : decode cJ0_checkIndex_df160 0 = .ok (.iload_n 0, 1) := by decide +kernel
theorem dJ0_checkIndex_df160_1 : decode cJ0_checkIndex_df160 1 = .ok (.iload_n 1, 1) := by decide +kernel
theorem dJ0_checkIndex_df160_2 : decode cJ0_checkIndex_df160 2 = .ok (.getstatic 1053, 3) := by decide +kernel
theorem dJ0_checkIndex_df160_5 : decode cJ0_checkIndex_df160 5 = .ok (.invokestatic 1059, 3) := by decide +kernel
theorem dJ0_checkIndex_df160_8 : decode cJ0_checkIndex_df160 8 = .ok (.pop, 1) := by decide +kernel
theorem dJ0_checkIndex_df160_9 : decode cJ0_checkIndex_df160 9 = .ok (.return_, 1) := by decide +kernel
theorem dJ1_charAt_3b067_0 : decode cJ1_charAt_3b067 0 = .ok (.iload_n 1, 1) := by decide +kernel
theorem dJ1_charAt_3b067_1 : decode cJ1_charAt_3b067 1 = .ok (.aload_n 0, 1) := by decide +kernel
theorem dJ1_charAt_3b067_2 : decode cJ1_charAt_3b067 2 = .ok (.arraylength, 1) := by decide +kernel
theorem dJ1_charAt_3b067_3 : decode cJ1_charAt_3b067 3 = .ok (.invokestatic 9, 3) := by decide +kernel
theorem dJ1_charAt_3b067_6 : decode cJ1_charAt_3b067 6 = .ok (.aload_n 0, 1) := by decide +kernel
theorem dJ1_charAt_3b067_7 : decode cJ1_charAt_3b067 7 = .ok (.iload_n 1, 1) := by decide +kernel
theorem dJ1_charAt_3b067_8 : decode cJ1_charAt_3b067 8 = .ok (.baload, 1) := by decide +kernel
theorem dJ1_charAt_3b067_9 : decode cJ1_charAt_3b067 9 = .ok (.sipush 255, 3) := by decide +kernel
theorem dJ1_charAt_3b067_12 : decode cJ1_charAt_3b067 12 = .ok (.iand, 1) := by decide +kernel
theorem dJ1_charAt_3b067_13 : decode cJ1_charAt_3b067 13 = .ok (.i2c, 1) := by decide +kernel
theorem dJ1_charAt_3b067_14 : decode cJ1_charAt_3b067 14 = .ok (.ireturn, 1) := by decide +kernel
theorem dJ2_getChar_3b067_0 : decode cJ2_getChar_3b067 0 = .ok (.getstatic 44, 3) := by decide +kernel
theorem dJ2_getChar_3b067_3 : decode cJ2_getChar_3b067 3 = .ok (.ifCond .ne 25, 3) := by decide +kernel
theorem dJ2_getChar_3b067_6 : decode cJ2_getChar_3b067 6 = .ok (.iload_n 1, 1) := by decide +kernel
theorem dJ2_getChar_3b067_7 : decode cJ2_getChar_3b067 7 = .ok (.ifCond .lt 11, 3) := by decide +kernel
theorem dJ2_getChar_3b067_10 : decode cJ2_getChar_3b067 10 = .ok (.iload_n 1, 1) := by decide +kernel
theorem dJ2_getChar_3b067_11 : decode cJ2_getChar_3b067 11 = .ok (.aload_n 0, 1) := by decide +kernel
theorem dJ2_getChar_3b067_12 : decode cJ2_getChar_3b067 12 = .ok (.invokestatic 48, 3) := by decide +kernel
theorem dJ2_getChar_3b067_15 : decode cJ2_getChar_3b067 15 = .ok (.if_icmp .lt 13, 3) := by decide +kernel
theorem dJ2_getChar_3b067_18 : decode cJ2_getChar_3b067 18 = .ok (.new 52, 3) := by decide +kernel
theorem dJ2_getChar_3b067_21 : decode cJ2_getChar_3b067 21 = .ok (.dup, 1) := by decide +kernel
theorem dJ2_getChar_3b067_22 : decode cJ2_getChar_3b067 22 = .ok (.ldc 54, 2) := by decide +kernel
theorem dJ2_getChar_3b067_24 : decode cJ2_getChar_3b067 24 = .ok (.invokespecial 56, 3) := by decide +kernel
theorem dJ2_getChar_3b067_27 : decode cJ2_getChar_3b067 27 = .ok (.athrow, 1) := by decide +kernel
theorem dJ2_getChar_3b067_28 : decode cJ2_getChar_3b067 28 = .ok (.iload_n 1, 1) := by decide +kernel
theorem dJ2_getChar_3b067_29 : decode cJ2_getChar_3b067 29 = .ok (.iconst 1, 1) := by decide +kernel
theorem dJ2_getChar_3b067_30 : decode cJ2_getChar_3b067 30 = .ok (.ishl, 1) := by decide +kernel
theorem dJ2_getChar_3b067_31 : decode cJ2_getChar_3b067 31 = .ok (.istore_n 1, 1) := by decide +kernel
theorem dJ2_getChar_3b067_32 : decode cJ2_getChar_3b067 32 = .ok (.aload_n 0, 1) := by decide +kernel
theorem dJ2_getChar_3b067_33 : decode cJ2_getChar_3b067 33 = .ok (.iload_n 1, 1) := by decide +kernel
theorem dJ2_getChar_3b067_34 : decode cJ2_getChar_3b067 34 = .ok (.iinc 1 1, 3) := by decide +kernel
theorem dJ2_getChar_3b067_37 : decode cJ2_getChar_3b067 37 = .ok (.baload, 1) := by decide +kernel
theorem dJ2_getChar_3b067_38 : decode cJ2_getChar_3b067 38 = .ok (.sipush 255, 3) := by decide +kernel
theorem dJ2_getChar_3b067_41 : decode cJ2_getChar_3b067 41 = .ok (.iand, 1) := by decide +kernel
theorem dJ2_getChar_3b067_42 : decode cJ2_getChar_3b067 42 = .ok (.getstatic 59, 3) := by decide +kernel
theorem dJ2_getChar_3b067_45 : decode cJ2_getChar_3b067 45 = .ok (.ishl, 1) := by decide +kernel
theorem dJ2_getChar_3b067_46 : decode cJ2_getChar_3b067 46 = .ok (.aload_n 0, 1) := by decide +kernel
theorem dJ2_getChar_3b067_47 : decode cJ2_getChar_3b067 47 = .ok (.iload_n 1, 1) := by decide +kernel
theorem dJ2_getChar_3b067_48 : decode cJ2_getChar_3b067 48 = .ok (.baload, 1) := by decide +kernel
theorem dJ2_getChar_3b067_49 : decode cJ2_getChar_3b067 49 = .ok (.sipush 255, 3) := by decide +kernel
theorem dJ2_getChar_3b067_52 : decode cJ2_getChar_3b067 52 = .ok (.iand, 1) := by decide +kernel
theorem dJ2_getChar_3b067_53 : decode cJ2_getChar_3b067 53 = .ok (.getstatic 63, 3) := by decide +kernel
theorem dJ2_getChar_3b067_56 : decode cJ2_getChar_3b067 56 = .ok (.ishl, 1) := by decide +kernel
theorem dJ2_getChar_3b067_57 : decode cJ2_getChar_3b067 57 = .ok (.ior, 1) := by decide +kernel
theorem dJ2_getChar_3b067_58 : decode cJ2_getChar_3b067 58 = .ok (.i2c, 1) := by decide +kernel
theorem dJ2_getChar_3b067_59 : decode cJ2_getChar_3b067 59 = .ok (.ireturn, 1) := by decide +kernel
theorem dJ2_length_9d52b_0 : decode cJ2_length_9d52b 0 = .ok (.aload_n 0, 1) := by decide +kernel
theorem dJ2_length_9d52b_1 : decode cJ2_length_9d52b 1 = .ok (.arraylength, 1) := by decide +kernel
theorem dJ2_length_9d52b_2 : decode cJ2_length_9d52b 2 = .ok (.iconst 1, 1) := by decide +kernel
theorem dJ2_length_9d52b_3 : decode cJ2_length_9d52b 3 = .ok (.ishr, 1) := by decide +kernel
theorem dJ2_length_9d52b_4 : decode cJ2_length_9d52b 4 = .ok (.ireturn, 1) := by decide +kernel
theorem dJ2_charAt_3b067_0 : decode cJ2_charAt_3b067 0 = .ok (.iload_n 1, 1) := by decide +kernel
theorem dJ2_charAt_3b067_1 : decode cJ2_charAt_3b067 1 = .ok (.aload_n 0, 1) := by decide +kernel
theorem dJ2_charAt_3b067_2 : decode cJ2_charAt_3b067 2 = .ok (.invokestatic 67, 3) := by decide +kernel
theorem dJ2_charAt_3b067_5 : decode cJ2_charAt_3b067 5 = .ok (.aload_n 0, 1) := by decide +kernel
theorem dJ2_charAt_3b067_6 : decode cJ2_charAt_3b067 6 = .ok (.iload_n 1, 1) := by decide +kernel
theorem dJ2_charAt_3b067_7 : decode cJ2_charAt_3b067 7 = .ok (.invokestatic 71, 3) := by decide +kernel
theorem dJ2_charAt_3b067_10 : decode cJ2_charAt_3b067 10 = .ok (.ireturn, 1) := by decide +kernel
theorem dJ2_checkIndex_2214a_0 : decode cJ2_checkIndex_2214a 0 = .ok (.iload_n 0, 1) := by decide +kernel
theorem dJ2_checkIndex_2214a_1 : decode cJ2_checkIndex_2214a 1 = .ok (.aload_n 1, 1) := by decide +kernel
theorem dJ2_checkIndex_2214a_2 : decode cJ2_checkIndex_2214a 2 = .ok (.invokestatic 48, 3) := by decide +kernel
theorem dJ2_checkIndex_2214a_5 : decode cJ2_checkIndex_2214a 5 = .ok (.invokestatic 414, 3) := by decide +kernel
theorem dJ2_checkIndex_2214a_8 : decode cJ2_checkIndex_2214a 8 = .ok (.return_, 1) := by decide +kernel
theorem dJ7_fill_53178_0 : decode cJ7_fill_53178 0 = .ok (.iconst 0, 1) := by decide +kernel
theorem dJ7_fill_53178_1 : decode cJ7_fill_53178 1 = .ok (.istore_n 2, 1) := by decide +kernel
theorem dJ7_fill_53178_2 : decode cJ7_fill_53178 2 = .ok (.aload_n 0, 1) := by decide +kernel
theorem dJ7_fill_53178_3 : decode cJ7_fill_53178 3 = .ok (.arraylength, 1) := by decide +kernel
theorem dJ7_fill_53178_4 : decode cJ7_fill_53178 4 = .ok (.istore_n 3, 1) := by decide +kernel
theorem dJ7_fill_53178_5 : decode cJ7_fill_53178 5 = .ok (.iload_n 2, 1) := by decide +kernel
theorem dJ7_fill_53178_6 : decode cJ7_fill_53178 6 = .ok (.iload_n 3, 1) := by decide +kernel
theorem dJ7_fill_53178_7 : decode cJ7_fill_53178 7 = .ok (.if_icmp .ge 13, 3) := by decide +kernel
theorem dJ7_fill_53178_10 : decode cJ7_fill_53178 10 = .ok (.aload_n 0, 1) := by decide +kernel
theorem dJ7_fill_53178_11 : decode cJ7_fill_53178 11 = .ok (.iload_n 2, 1) := by decide +kernel
theorem dJ7_fill_53178_12 : decode cJ7_fill_53178 12 = .ok (.iload_n 1, 1) := by decide +kernel
theorem dJ7_fill_53178_13 : decode cJ7_fill_53178 13 = .ok (.iastore, 1) := by decide +kernel
theorem dJ7_fill_53178_14 : decode cJ7_fill_53178 14 = .ok (.iinc 2 1, 3) := by decide +kernel
theorem dJ7_fill_53178_17 : decode cJ7_fill_53178 17 = .ok (.goto (-12), 3) := by decide +kernel
theorem dJ7_fill_53178_20 : decode cJ7_fill_53178 20 = .ok (.return_, 1) := by decide +kernel
theorem dJ3_checkIndex_8e157_0 : decode cJ3_checkIndex_8e157 0 = .ok (.iload_n 0, 1) := by decide +kernel
theorem dJ3_checkIndex_8e157_1 : decode cJ3_checkIndex_8e157 1 = .ok (.ifCond .lt 8, 3) := by decide +kernel
theorem dJ3_checkIndex_8e157_4 : decode cJ3_checkIndex_8e157 4 = .ok (.iload_n 0, 1) := by decide +kernel
theorem dJ3_checkIndex_8e157_5 : decode cJ3_checkIndex_8e157 5 = .ok (.iload_n 1, 1) := by decide +kernel
theorem dJ3_checkIndex_8e157_6 : decode cJ3_checkIndex_8e157 6 = .ok (.if_icmp .lt 10, 3) := by decide +kernel
theorem dJ3_checkIndex_8e157_9 : decode cJ3_checkIndex_8e157 9 = .ok (.aload_n 2, 1) := by decide +kernel
theorem dJ3_checkIndex_8e157_10 : decode cJ3_checkIndex_8e157 10 = .ok (.iload_n 0, 1) := by decide +kernel
theorem dJ3_checkIndex_8e157_11 : decode cJ3_checkIndex_8e157 11 = .ok (.iload_n 1, 1) := by decide +kernel
theorem dJ3_checkIndex_8e157_12 : decode cJ3_checkIndex_8e157 12 = .ok (.invokestatic 95, 3) := by decide +kernel
theorem dJ3_checkIndex_8e157_15 : decode cJ3_checkIndex_8e157 15 = .ok (.athrow, 1) := by decide +kernel
theorem dJ3_checkIndex_8e157_16 : decode cJ3_checkIndex_8e157 16 = .ok (.iload_n 0, 1) := by decide +kernel
theorem dJ3_checkIndex_8e157_17 : decode cJ3_checkIndex_8e157 17 = .ok (.ireturn, 1) := by decide +kernel
