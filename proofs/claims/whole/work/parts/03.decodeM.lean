theorem d_Mo_init_0 : decode b_Mo_init 0 = .ok (.aload_n 0, 1) := by decide +kernel
theorem d_Mo_init_1 : decode b_Mo_init 1 = .ok (.invokespecial 1, 3) := by decide +kernel
theorem d_Mo_init_4 : decode b_Mo_init 4 = .ok (.aload_n 0, 1) := by decide +kernel
theorem d_Mo_init_5 : decode b_Mo_init 5 = .ok (.bipush 64, 2) := by decide +kernel
theorem d_Mo_init_7 : decode b_Mo_init 7 = .ok (.newarray .int, 2) := by decide +kernel
theorem d_Mo_init_9 : decode b_Mo_init 9 = .ok (.putfield 7, 3) := by decide +kernel
theorem d_Mo_init_12 : decode b_Mo_init 12 = .ok (.aload_n 0, 1) := by decide +kernel
theorem d_Mo_init_13 : decode b_Mo_init 13 = .ok (.sipush 200, 3) := by decide +kernel
theorem d_Mo_init_16 : decode b_Mo_init 16 = .ok (.newarray .int, 2) := by decide +kernel
theorem d_Mo_init_18 : decode b_Mo_init 18 = .ok (.putfield 13, 3) := by decide +kernel
theorem d_Mo_init_21 : decode b_Mo_init 21 = .ok (.aload_n 0, 1) := by decide +kernel
theorem d_Mo_init_22 : decode b_Mo_init 22 = .ok (.sipush 269, 3) := by decide +kernel
theorem d_Mo_init_25 : decode b_Mo_init 25 = .ok (.newarray .int, 2) := by decide +kernel
theorem d_Mo_init_27 : decode b_Mo_init 27 = .ok (.putfield 16, 3) := by decide +kernel
theorem d_Mo_init_30 : decode b_Mo_init 30 = .ok (.aload_n 0, 1) := by decide +kernel
theorem d_Mo_init_31 : decode b_Mo_init 31 = .ok (.sipush 269, 3) := by decide +kernel
theorem d_Mo_init_34 : decode b_Mo_init 34 = .ok (.newarray .int, 2) := by decide +kernel
theorem d_Mo_init_36 : decode b_Mo_init 36 = .ok (.putfield 19, 3) := by decide +kernel
theorem d_Mo_init_39 : decode b_Mo_init 39 = .ok (.aload_n 0, 1) := by decide +kernel
theorem d_Mo_init_40 : decode b_Mo_init 40 = .ok (.ldc 22, 2) := by decide +kernel
theorem d_Mo_init_42 : decode b_Mo_init 42 = .ok (.newarray .int, 2) := by decide +kernel
theorem d_Mo_init_44 : decode b_Mo_init 44 = .ok (.putfield 23, 3) := by decide +kernel
theorem d_Mo_init_47 : decode b_Mo_init 47 = .ok (.aload_n 0, 1) := by decide +kernel
theorem d_Mo_init_48 : decode b_Mo_init 48 = .ok (.sipush 1025, 3) := by decide +kernel
theorem d_Mo_init_51 : decode b_Mo_init 51 = .ok (.newarray .int, 2) := by decide +kernel
theorem d_Mo_init_53 : decode b_Mo_init 53 = .ok (.putfield 26, 3) := by decide +kernel
theorem d_Mo_init_56 : decode b_Mo_init 56 = .ok (.aload_n 0, 1) := by decide +kernel
theorem d_Mo_init_57 : decode b_Mo_init 57 = .ok (.sipush 1025, 3) := by decide +kernel
theorem d_Mo_init_60 : decode b_Mo_init 60 = .ok (.newarray .int, 2) := by decide +kernel
theorem d_Mo_init_62 : decode b_Mo_init 62 = .ok (.putfield 29, 3) := by decide +kernel
theorem d_Mo_init_65 : decode b_Mo_init 65 = .ok (.aload_n 0, 1) := by decide +kernel
theorem d_Mo_init_66 : decode b_Mo_init 66 = .ok (.iconst 4, 1) := by decide +kernel
theorem d_Mo_init_67 : decode b_Mo_init 67 = .ok (.iload_n 1, 1) := by decide +kernel
theorem d_Mo_init_68 : decode b_Mo_init 68 = .ok (.sipush 1021, 3) := by decide +kernel
theorem d_Mo_init_71 : decode b_Mo_init 71 = .ok (.invokestatic 32, 3) := by decide +kernel
theorem d_Mo_init_74 : decode b_Mo_init 74 = .ok (.iadd, 1) := by decide +kernel
theorem d_Mo_init_75 : decode b_Mo_init 75 = .ok (.putfield 36, 3) := by decide +kernel
theorem d_Mo_init_78 : decode b_Mo_init 78 = .ok (.aload_n 0, 1) := by decide +kernel
theorem d_Mo_init_79 : decode b_Mo_init 79 = .ok (.iconst 1, 1) := by decide +kernel
theorem d_Mo_init_80 : decode b_Mo_init 80 = .ok (.iload_n 2, 1) := by decide +kernel
theorem d_Mo_init_81 : decode b_Mo_init 81 = .ok (.bipush 63, 2) := by decide +kernel
theorem d_Mo_init_83 : decode b_Mo_init 83 = .ok (.iand, 1) := by decide +kernel
theorem d_Mo_init_84 : decode b_Mo_init 84 = .ok (.iadd, 1) := by decide +kernel
theorem d_Mo_init_85 : decode b_Mo_init 85 = .ok (.putfield 40, 3) := by decide +kernel
theorem d_Mo_init_88 : decode b_Mo_init 88 = .ok (.return_, 1) := by decide +kernel
theorem d_Mo_modulo_0 : decode b_Mo_modulo 0 = .ok (.iload_n 0, 1) := by decide +kernel
theorem d_Mo_modulo_1 : decode b_Mo_modulo 1 = .ok (.iload_n 1, 1) := by decide +kernel
theorem d_Mo_modulo_2 : decode b_Mo_modulo 2 = .ok (.irem, 1) := by decide +kernel
theorem d_Mo_modulo_3 : decode b_Mo_modulo 3 = .ok (.iload_n 1, 1) := by decide +kernel
theorem d_Mo_modulo_4 : decode b_Mo_modulo 4 = .ok (.iadd, 1) := by decide +kernel
theorem d_Mo_modulo_5 : decode b_Mo_modulo 5 = .ok (.iload_n 1, 1) := by decide +kernel
theorem d_Mo_modulo_6 : decode b_Mo_modulo 6 = .ok (.irem, 1) := by decide +kernel
theorem d_Mo_modulo_7 : decode b_Mo_modulo 7 = .ok (.ireturn, 1) := by decide +kernel
theorem d_Mo_thrown_0 : decode b_Mo_thrown 0 = .ok (.aload_n 0, 1) := by decide +kernel
theorem d_Mo_thrown_1 : decode b_Mo_thrown 1 = .ok (.getfield 43, 3) := by decide +kernel
theorem d_Mo_thrown_4 : decode b_Mo_thrown 4 = .ok (.ireturn, 1) := by decide +kernel
theorem d_Mo_fail_0 : decode b_Mo_fail 0 = .ok (.aload_n 0, 1) := by decide +kernel
theorem d_Mo_fail_1 : decode b_Mo_fail 1 = .ok (.iload_n 1, 1) := by decide +kernel
theorem d_Mo_fail_2 : decode b_Mo_fail 2 = .ok (.putfield 43, 3) := by decide +kernel
theorem d_Mo_fail_5 : decode b_Mo_fail 5 = .ok (.iconst 0, 1) := by decide +kernel
theorem d_Mo_fail_6 : decode b_Mo_fail 6 = .ok (.ireturn, 1) := by decide +kernel
theorem d_Mo_within_0 : decode b_Mo_within 0 = .ok (.iload_n 0, 1) := by decide +kernel
theorem d_Mo_within_1 : decode b_Mo_within 1 = .ok (.iload_n 1, 1) := by decide +kernel
theorem d_Mo_within_2 : decode b_Mo_within 2 = .ok (.if_icmp .lt 12, 3) := by decide +kernel
theorem d_Mo_within_5 : decode b_Mo_within 5 = .ok (.iload_n 0, 1) := by decide +kernel
theorem d_Mo_within_6 : decode b_Mo_within 6 = .ok (.iload_n 2, 1) := by decide +kernel
theorem d_Mo_within_7 : decode b_Mo_within 7 = .ok (.if_icmp .gt 7, 3) := by decide +kernel
theorem d_Mo_within_10 : decode b_Mo_within 10 = .ok (.iconst 1, 1) := by decide +kernel
theorem d_Mo_within_11 : decode b_Mo_within 11 = .ok (.goto 4, 3) := by decide +kernel
theorem d_Mo_within_14 : decode b_Mo_within 14 = .ok (.iconst 0, 1) := by decide +kernel
theorem d_Mo_within_15 : decode b_Mo_within 15 = .ok (.ireturn, 1) := by decide +kernel
theorem d_Mo_slot_0 : decode b_Mo_slot 0 = .ok (.iload_n 0, 1) := by decide +kernel
theorem d_Mo_slot_1 : decode b_Mo_slot 1 = .ok (.sipush 1025, 3) := by decide +kernel
theorem d_Mo_slot_4 : decode b_Mo_slot 4 = .ok (.irem, 1) := by decide +kernel
theorem d_Mo_slot_5 : decode b_Mo_slot 5 = .ok (.ireturn, 1) := by decide +kernel
theorem d_Mo_program_0 : decode b_Mo_program 0 = .ok (.aload_n 0, 1) := by decide +kernel
theorem d_Mo_program_1 : decode b_Mo_program 1 = .ok (.iconst 0, 1) := by decide +kernel
theorem d_Mo_program_2 : decode b_Mo_program 2 = .ok (.putfield 43, 3) := by decide +kernel
theorem d_Mo_program_5 : decode b_Mo_program 5 = .ok (.iload_n 1, 1) := by decide +kernel
theorem d_Mo_program_6 : decode b_Mo_program 6 = .ok (.iconst 0, 1) := by decide +kernel
theorem d_Mo_program_7 : decode b_Mo_program 7 = .ok (.bipush 63, 2) := by decide +kernel
theorem d_Mo_program_9 : decode b_Mo_program 9 = .ok (.invokestatic 46, 3) := by decide +kernel
theorem d_Mo_program_12 : decode b_Mo_program 12 = .ok (.ifCond .ne 9, 3) := by decide +kernel
theorem d_Mo_program_15 : decode b_Mo_program 15 = .ok (.aload_n 0, 1) := by decide +kernel
theorem d_Mo_program_16 : decode b_Mo_program 16 = .ok (.iconst 1, 1) := by decide +kernel
theorem d_Mo_program_17 : decode b_Mo_program 17 = .ok (.invokevirtual 50, 3) := by decide +kernel
theorem d_Mo_program_20 : decode b_Mo_program 20 = .ok (.ireturn, 1) := by decide +kernel
theorem d_Mo_program_21 : decode b_Mo_program 21 = .ok (.aload_n 0, 1) := by decide +kernel
theorem d_Mo_program_22 : decode b_Mo_program 22 = .ok (.getfield 7, 3) := by decide +kernel
theorem d_Mo_program_25 : decode b_Mo_program 25 = .ok (.iload_n 1, 1) := by decide +kernel
theorem d_Mo_program_26 : decode b_Mo_program 26 = .ok (.iaload, 1) := by decide +kernel
theorem d_Mo_program_27 : decode b_Mo_program 27 = .ok (.istore_n 3, 1) := by decide +kernel
theorem d_Mo_program_28 : decode b_Mo_program 28 = .ok (.aload_n 0, 1) := by decide +kernel
theorem d_Mo_program_29 : decode b_Mo_program 29 = .ok (.getfield 7, 3) := by decide +kernel
theorem d_Mo_program_32 : decode b_Mo_program 32 = .ok (.iload_n 1, 1) := by decide +kernel
theorem d_Mo_program_33 : decode b_Mo_program 33 = .ok (.iload_n 2, 1) := by decide +kernel
theorem d_Mo_program_34 : decode b_Mo_program 34 = .ok (.iastore, 1) := by decide +kernel
theorem d_Mo_program_35 : decode b_Mo_program 35 = .ok (.iload_n 3, 1) := by decide +kernel
theorem d_Mo_program_36 : decode b_Mo_program 36 = .ok (.ireturn, 1) := by decide +kernel
theorem d_Mo_input_0 : decode b_Mo_input 0 = .ok (.aload_n 0, 1) := by decide +kernel
theorem d_Mo_input_1 : decode b_Mo_input 1 = .ok (.iconst 0, 1) := by decide +kernel
theorem d_Mo_input_2 : decode b_Mo_input 2 = .ok (.putfield 43, 3) := by decide +kernel
theorem d_Mo_input_5 : decode b_Mo_input 5 = .ok (.aload_n 0, 1) := by decide +kernel
theorem d_Mo_input_6 : decode b_Mo_input 6 = .ok (.getfield 54, 3) := by decide +kernel
theorem d_Mo_input_9 : decode b_Mo_input 9 = .ok (.sipush 200, 3) := by decide +kernel
theorem d_Mo_input_12 : decode b_Mo_input 12 = .ok (.if_icmp .ne 9, 3) := by decide +kernel
theorem d_Mo_input_15 : decode b_Mo_input 15 = .ok (.aload_n 0, 1) := by decide +kernel
theorem d_Mo_input_16 : decode b_Mo_input 16 = .ok (.iconst 1, 1) := by decide +kernel
theorem d_Mo_input_17 : decode b_Mo_input 17 = .ok (.invokevirtual 50, 3) := by decide +kernel
theorem d_Mo_input_20 : decode b_Mo_input 20 = .ok (.ireturn, 1) := by decide +kernel
theorem d_Mo_input_21 : decode b_Mo_input 21 = .ok (.aload_n 0, 1) := by decide +kernel
theorem d_Mo_input_22 : decode b_Mo_input 22 = .ok (.getfield 13, 3) := by decide +kernel
theorem d_Mo_input_25 : decode b_Mo_input 25 = .ok (.aload_n 0, 1) := by decide +kernel
theorem d_Mo_input_26 : decode b_Mo_input 26 = .ok (.getfield 54, 3) := by decide +kernel
theorem d_Mo_input_29 : decode b_Mo_input 29 = .ok (.iload_n 1, 1) := by decide +kernel
theorem d_Mo_input_30 : decode b_Mo_input 30 = .ok (.iastore, 1) := by decide +kernel
theorem d_Mo_input_31 : decode b_Mo_input 31 = .ok (.aload_n 0, 1) := by decide +kernel
theorem d_Mo_input_32 : decode b_Mo_input 32 = .ok (.dup, 1) := by decide +kernel
theorem d_Mo_input_33 : decode b_Mo_input 33 = .ok (.getfield 54, 3) := by decide +kernel
theorem d_Mo_input_36 : decode b_Mo_input 36 = .ok (.iconst 1, 1) := by decide +kernel
theorem d_Mo_input_37 : decode b_Mo_input 37 = .ok (.iadd, 1) := by decide +kernel
theorem d_Mo_input_38 : decode b_Mo_input 38 = .ok (.putfield 54, 3) := by decide +kernel
theorem d_Mo_input_41 : decode b_Mo_input 41 = .ok (.aload_n 0, 1) := by decide +kernel
theorem d_Mo_input_42 : decode b_Mo_input 42 = .ok (.getfield 54, 3) := by decide +kernel
theorem d_Mo_input_45 : decode b_Mo_input 45 = .ok (.aload_n 0, 1) := by decide +kernel
theorem d_Mo_input_46 : decode b_Mo_input 46 = .ok (.getfield 16, 3) := by decide +kernel
theorem d_Mo_input_49 : decode b_Mo_input 49 = .ok (.sipush 265, 3) := by decide +kernel
theorem d_Mo_input_52 : decode b_Mo_input 52 = .ok (.iaload, 1) := by decide +kernel
theorem d_Mo_input_53 : decode b_Mo_input 53 = .ok (.isub, 1) := by decide +kernel
theorem d_Mo_input_54 : decode b_Mo_input 54 = .ok (.ireturn, 1) := by decide +kernel
theorem d_Mo_save_0 : decode b_Mo_save 0 = .ok (.iconst 0, 1) := by decide +kernel
theorem d_Mo_save_1 : decode b_Mo_save 1 = .ok (.istore_n 1, 1) := by decide +kernel
theorem d_Mo_save_2 : decode b_Mo_save 2 = .ok (.iload_n 1, 1) := by decide +kernel
theorem d_Mo_save_3 : decode b_Mo_save 3 = .ok (.sipush 269, 3) := by decide +kernel
theorem d_Mo_save_6 : decode b_Mo_save 6 = .ok (.if_icmp .ge 33, 3) := by decide +kernel
theorem d_Mo_save_9 : decode b_Mo_save 9 = .ok (.aload_n 0, 1) := by decide +kernel
theorem d_Mo_save_10 : decode b_Mo_save 10 = .ok (.getfield 23, 3) := by decide +kernel
theorem d_Mo_save_13 : decode b_Mo_save 13 = .ok (.sipush 269, 3) := by decide +kernel
theorem d_Mo_save_16 : decode b_Mo_save 16 = .ok (.aload_n 0, 1) := by decide +kernel
theorem d_Mo_save_17 : decode b_Mo_save 17 = .ok (.getfield 57, 3) := by decide +kernel
theorem d_Mo_save_20 : decode b_Mo_save 20 = .ok (.invokestatic 60, 3) := by decide +kernel
theorem d_Mo_save_23 : decode b_Mo_save 23 = .ok (.imul, 1) := by decide +kernel
theorem d_Mo_save_24 : decode b_Mo_save 24 = .ok (.iload_n 1, 1) := by decide +kernel
theorem d_Mo_save_25 : decode b_Mo_save 25 = .ok (.iadd, 1) := by decide +kernel
theorem d_Mo_save_26 : decode b_Mo_save 26 = .ok (.aload_n 0, 1) := by decide +kernel
theorem d_Mo_save_27 : decode b_Mo_save 27 = .ok (.getfield 16, 3) := by decide +kernel
theorem d_Mo_save_30 : decode b_Mo_save 30 = .ok (.iload_n 1, 1) := by decide +kernel
theorem d_Mo_save_31 : decode b_Mo_save 31 = .ok (.iaload, 1) := by decide +kernel
theorem d_Mo_save_32 : decode b_Mo_save 32 = .ok (.iastore, 1) := by decide +kernel
theorem d_Mo_save_33 : decode b_Mo_save 33 = .ok (.iinc 1 1, 3) := by decide +kernel
theorem d_Mo_save_36 : decode b_Mo_save 36 = .ok (.goto (-34), 3) := by decide +kernel
theorem d_Mo_save_39 : decode b_Mo_save 39 = .ok (.return_, 1) := by decide +kernel
theorem d_Mo_stateAt_0 : decode b_Mo_stateAt 0 = .ok (.iload_n 1, 1) := by decide +kernel
theorem d_Mo_stateAt_1 : decode b_Mo_stateAt 1 = .ok (.aload_n 0, 1) := by decide +kernel
theorem d_Mo_stateAt_2 : decode b_Mo_stateAt 2 = .ok (.getfield 57, 3) := by decide +kernel
theorem d_Mo_stateAt_5 : decode b_Mo_stateAt 5 = .ok (.if_icmp .ne 12, 3) := by decide +kernel
theorem d_Mo_stateAt_8 : decode b_Mo_stateAt 8 = .ok (.aload_n 0, 1) := by decide +kernel
theorem d_Mo_stateAt_9 : decode b_Mo_stateAt 9 = .ok (.getfield 16, 3) := by decide +kernel
theorem d_Mo_stateAt_12 : decode b_Mo_stateAt 12 = .ok (.iload_n 2, 1) := by decide +kernel
theorem d_Mo_stateAt_13 : decode b_Mo_stateAt 13 = .ok (.iaload, 1) := by decide +kernel
theorem d_Mo_stateAt_14 : decode b_Mo_stateAt 14 = .ok (.goto 18, 3) := by decide +kernel
theorem d_Mo_stateAt_17 : decode b_Mo_stateAt 17 = .ok (.aload_n 0, 1) := by decide +kernel
theorem d_Mo_stateAt_18 : decode b_Mo_stateAt 18 = .ok (.getfield 23, 3) := by decide +kernel
theorem d_Mo_stateAt_21 : decode b_Mo_stateAt 21 = .ok (.sipush 269, 3) := by decide +kernel
theorem d_Mo_stateAt_24 : decode b_Mo_stateAt 24 = .ok (.iload_n 1, 1) := by decide +kernel
theorem d_Mo_stateAt_25 : decode b_Mo_stateAt 25 = .ok (.invokestatic 60, 3) := by decide +kernel
theorem d_Mo_stateAt_28 : decode b_Mo_stateAt 28 = .ok (.imul, 1) := by decide +kernel
theorem d_Mo_stateAt_29 : decode b_Mo_stateAt 29 = .ok (.iload_n 2, 1) := by decide +kernel
theorem d_Mo_stateAt_30 : decode b_Mo_stateAt 30 = .ok (.iadd, 1) := by decide +kernel
theorem d_Mo_stateAt_31 : decode b_Mo_stateAt 31 = .ok (.iaload, 1) := by decide +kernel
theorem d_Mo_stateAt_32 : decode b_Mo_stateAt 32 = .ok (.ireturn, 1) := by decide +kernel
theorem d_Mo_poke_0 : decode b_Mo_poke 0 = .ok (.aload_n 0, 1) := by decide +kernel
theorem d_Mo_poke_1 : decode b_Mo_poke 1 = .ok (.iconst 0, 1) := by decide +kernel
theorem d_Mo_poke_2 : decode b_Mo_poke 2 = .ok (.putfield 43, 3) := by decide +kernel
theorem d_Mo_poke_5 : decode b_Mo_poke 5 = .ok (.iload_n 1, 1) := by decide +kernel
theorem d_Mo_poke_6 : decode b_Mo_poke 6 = .ok (.iconst 0, 1) := by decide +kernel
theorem d_Mo_poke_7 : decode b_Mo_poke 7 = .ok (.sipush 263, 3) := by decide +kernel
theorem d_Mo_poke_10 : decode b_Mo_poke 10 = .ok (.invokestatic 46, 3) := by decide +kernel
theorem d_Mo_poke_13 : decode b_Mo_poke 13 = .ok (.ifCond .ne 9, 3) := by decide +kernel
theorem d_Mo_poke_16 : decode b_Mo_poke 16 = .ok (.aload_n 0, 1) := by decide +kernel
theorem d_Mo_poke_17 : decode b_Mo_poke 17 = .ok (.iconst 1, 1) := by decide +kernel
theorem d_Mo_poke_18 : decode b_Mo_poke 18 = .ok (.invokevirtual 50, 3) := by decide +kernel
theorem d_Mo_poke_21 : decode b_Mo_poke 21 = .ok (.ireturn, 1) := by decide +kernel
theorem d_Mo_poke_22 : decode b_Mo_poke 22 = .ok (.aload_n 0, 1) := by decide +kernel
theorem d_Mo_poke_23 : decode b_Mo_poke 23 = .ok (.getfield 16, 3) := by decide +kernel
theorem d_Mo_poke_26 : decode b_Mo_poke 26 = .ok (.iload_n 1, 1) := by decide +kernel
theorem d_Mo_poke_27 : decode b_Mo_poke 27 = .ok (.iaload, 1) := by decide +kernel
theorem d_Mo_poke_28 : decode b_Mo_poke 28 = .ok (.istore_n 3, 1) := by decide +kernel
theorem d_Mo_poke_29 : decode b_Mo_poke 29 = .ok (.aload_n 0, 1) := by decide +kernel
theorem d_Mo_poke_30 : decode b_Mo_poke 30 = .ok (.getfield 16, 3) := by decide +kernel
theorem d_Mo_poke_33 : decode b_Mo_poke 33 = .ok (.iload_n 1, 1) := by decide +kernel
theorem d_Mo_poke_34 : decode b_Mo_poke 34 = .ok (.iload_n 2, 1) := by decide +kernel
theorem d_Mo_poke_35 : decode b_Mo_poke 35 = .ok (.iastore, 1) := by decide +kernel
theorem d_Mo_poke_36 : decode b_Mo_poke 36 = .ok (.aload_n 0, 1) := by decide +kernel
theorem d_Mo_poke_37 : decode b_Mo_poke 37 = .ok (.dup, 1) := by decide +kernel
theorem d_Mo_poke_38 : decode b_Mo_poke 38 = .ok (.getfield 63, 3) := by decide +kernel
theorem d_Mo_poke_41 : decode b_Mo_poke 41 = .ok (.aload_n 0, 1) := by decide +kernel
theorem d_Mo_poke_42 : decode b_Mo_poke 42 = .ok (.getfield 57, 3) := by decide +kernel
theorem d_Mo_poke_45 : decode b_Mo_poke 45 = .ok (.aload_n 0, 1) := by decide +kernel
theorem d_Mo_poke_46 : decode b_Mo_poke 46 = .ok (.getfield 66, 3) := by decide +kernel
theorem d_Mo_poke_49 : decode b_Mo_poke 49 = .ok (.isub, 1) := by decide +kernel
theorem d_Mo_poke_50 : decode b_Mo_poke 50 = .ok (.iadd, 1) := by decide +kernel
theorem d_Mo_poke_51 : decode b_Mo_poke 51 = .ok (.putfield 63, 3) := by decide +kernel
theorem d_Mo_poke_54 : decode b_Mo_poke 54 = .ok (.aload_n 0, 1) := by decide +kernel
theorem d_Mo_poke_55 : decode b_Mo_poke 55 = .ok (.aload_n 0, 1) := by decide +kernel
theorem d_Mo_poke_56 : decode b_Mo_poke 56 = .ok (.getfield 57, 3) := by decide +kernel
theorem d_Mo_poke_59 : decode b_Mo_poke 59 = .ok (.putfield 66, 3) := by decide +kernel
theorem d_Mo_poke_62 : decode b_Mo_poke 62 = .ok (.iload_n 3, 1) := by decide +kernel
theorem d_Mo_poke_63 : decode b_Mo_poke 63 = .ok (.ireturn, 1) := by decide +kernel
theorem d_Mo_kindOf_0 : decode b_Mo_kindOf 0 = .ok (.iload_n 0, 1) := by decide +kernel
theorem d_Mo_kindOf_1 : decode b_Mo_kindOf 1 = .ok (.bipush 28, 2) := by decide +kernel
theorem d_Mo_kindOf_3 : decode b_Mo_kindOf 3 = .ok (.iushr, 1) := by decide +kernel
theorem d_Mo_kindOf_4 : decode b_Mo_kindOf 4 = .ok (.ireturn, 1) := by decide +kernel
theorem d_Mo_result_0 : decode b_Mo_result 0 = .ok (.iload_n 0, 1) := by decide +kernel
theorem d_Mo_result_1 : decode b_Mo_result 1 = .ok (.tableswitch 84 1 11 #[59, 61, 65, 69, 84, 84, 84, 84, 84, 73, 80], 59) := by decide +kernel
theorem d_Mo_result_60 : decode b_Mo_result 60 = .ok (.iload_n 3, 1) := by decide +kernel
theorem d_Mo_result_61 : decode b_Mo_result 61 = .ok (.ireturn, 1) := by decide +kernel
theorem d_Mo_result_62 : decode b_Mo_result 62 = .ok (.iload_n 1, 1) := by decide +kernel
theorem d_Mo_result_63 : decode b_Mo_result 63 = .ok (.iload_n 2, 1) := by decide +kernel
theorem d_Mo_result_64 : decode b_Mo_result 64 = .ok (.iadd, 1) := by decide +kernel
theorem d_Mo_result_65 : decode b_Mo_result 65 = .ok (.ireturn, 1) := by decide +kernel
theorem d_Mo_result_66 : decode b_Mo_result 66 = .ok (.iload_n 1, 1) := by decide +kernel
theorem d_Mo_result_67 : decode b_Mo_result 67 = .ok (.iload_n 2, 1) := by decide +kernel
theorem d_Mo_result_68 : decode b_Mo_result 68 = .ok (.isub, 1) := by decide +kernel
theorem d_Mo_result_69 : decode b_Mo_result 69 = .ok (.ireturn, 1) := by decide +kernel
theorem d_Mo_result_70 : decode b_Mo_result 70 = .ok (.iload_n 1, 1) := by decide +kernel
theorem d_Mo_result_71 : decode b_Mo_result 71 = .ok (.iload_n 2, 1) := by decide +kernel
theorem d_Mo_result_72 : decode b_Mo_result 72 = .ok (.ixor, 1) := by decide +kernel
theorem d_Mo_result_73 : decode b_Mo_result 73 = .ok (.ireturn, 1) := by decide +kernel
theorem d_Mo_result_74 : decode b_Mo_result 74 = .ok (.iload_n 1, 1) := by decide +kernel
theorem d_Mo_result_75 : decode b_Mo_result 75 = .ok (.iload_n 2, 1) := by decide +kernel
theorem d_Mo_result_76 : decode b_Mo_result 76 = .ok (.bipush 31, 2) := by decide +kernel
theorem d_Mo_result_78 : decode b_Mo_result 78 = .ok (.iand, 1) := by decide +kernel
theorem d_Mo_result_79 : decode b_Mo_result 79 = .ok (.iushr, 1) := by decide +kernel
theorem d_Mo_result_80 : decode b_Mo_result 80 = .ok (.ireturn, 1) := by decide +kernel
theorem d_Mo_result_81 : decode b_Mo_result 81 = .ok (.iload_n 1, 1) := by decide +kernel
theorem d_Mo_result_82 : decode b_Mo_result 82 = .ok (.iload_n 2, 1) := by decide +kernel
theorem d_Mo_result_83 : decode b_Mo_result 83 = .ok (.imul, 1) := by decide +kernel
theorem d_Mo_result_84 : decode b_Mo_result 84 = .ok (.ireturn, 1) := by decide +kernel
theorem d_Mo_result_85 : decode b_Mo_result 85 = .ok (.iload_n 1, 1) := by decide +kernel
theorem d_Mo_result_86 : decode b_Mo_result 86 = .ok (.iload_n 2, 1) := by decide +kernel
theorem d_Mo_result_87 : decode b_Mo_result 87 = .ok (.if_icmp .ge 7, 3) := by decide +kernel
theorem d_Mo_result_90 : decode b_Mo_result 90 = .ok (.iconst 1, 1) := by decide +kernel
theorem d_Mo_result_91 : decode b_Mo_result 91 = .ok (.goto 4, 3) := by decide +kernel
theorem d_Mo_result_94 : decode b_Mo_result 94 = .ok (.iconst 0, 1) := by decide +kernel
theorem d_Mo_result_95 : decode b_Mo_result 95 = .ok (.ireturn, 1) := by decide +kernel
theorem d_Mo_advance_0 : decode b_Mo_advance 0 = .ok (.aload_n 0, 1) := by decide +kernel
theorem d_Mo_advance_1 : decode b_Mo_advance 1 = .ok (.getfield 7, 3) := by decide +kernel
theorem d_Mo_advance_4 : decode b_Mo_advance 4 = .ok (.aload_n 1, 1) := by decide +kernel
theorem d_Mo_advance_5 : decode b_Mo_advance 5 = .ok (.sipush 264, 3) := by decide +kernel
theorem d_Mo_advance_8 : decode b_Mo_advance 8 = .ok (.iaload, 1) := by decide +kernel
theorem d_Mo_advance_9 : decode b_Mo_advance 9 = .ok (.iaload, 1) := by decide +kernel
theorem d_Mo_advance_10 : decode b_Mo_advance 10 = .ok (.istore_n 3, 1) := by decide +kernel
theorem d_Mo_advance_11 : decode b_Mo_advance 11 = .ok (.iload_n 3, 1) := by decide +kernel
theorem d_Mo_advance_12 : decode b_Mo_advance 12 = .ok (.invokestatic 69, 3) := by decide +kernel
theorem d_Mo_advance_15 : decode b_Mo_advance 15 = .ok (.istore 4, 2) := by decide +kernel
theorem d_Mo_advance_17 : decode b_Mo_advance 17 = .ok (.iload_n 3, 1) := by decide +kernel
theorem d_Mo_advance_18 : decode b_Mo_advance 18 = .ok (.bipush 24, 2) := by decide +kernel
theorem d_Mo_advance_20 : decode b_Mo_advance 20 = .ok (.ishr, 1) := by decide +kernel
theorem d_Mo_advance_21 : decode b_Mo_advance 21 = .ok (.bipush 7, 2) := by decide +kernel
theorem d_Mo_advance_23 : decode b_Mo_advance 23 = .ok (.iand, 1) := by decide +kernel
theorem d_Mo_advance_24 : decode b_Mo_advance 24 = .ok (.istore 5, 2) := by decide +kernel
theorem d_Mo_advance_26 : decode b_Mo_advance 26 = .ok (.iload_n 3, 1) := by decide +kernel
theorem d_Mo_advance_27 : decode b_Mo_advance 27 = .ok (.bipush 20, 2) := by decide +kernel
theorem d_Mo_advance_29 : decode b_Mo_advance 29 = .ok (.ishr, 1) := by decide +kernel
theorem d_Mo_advance_30 : decode b_Mo_advance 30 = .ok (.bipush 7, 2) := by decide +kernel
theorem d_Mo_advance_32 : decode b_Mo_advance 32 = .ok (.iand, 1) := by decide +kernel
theorem d_Mo_advance_33 : decode b_Mo_advance 33 = .ok (.istore 6, 2) := by decide +kernel
theorem d_Mo_advance_35 : decode b_Mo_advance 35 = .ok (.iload_n 3, 1) := by decide +kernel
theorem d_Mo_advance_36 : decode b_Mo_advance 36 = .ok (.bipush 16, 2) := by decide +kernel
theorem d_Mo_advance_38 : decode b_Mo_advance 38 = .ok (.ishr, 1) := by decide +kernel
theorem d_Mo_advance_39 : decode b_Mo_advance 39 = .ok (.bipush 7, 2) := by decide +kernel
theorem d_Mo_advance_41 : decode b_Mo_advance 41 = .ok (.iand, 1) := by decide +kernel
theorem d_Mo_advance_42 : decode b_Mo_advance 42 = .ok (.istore 7, 2) := by decide +kernel
theorem d_Mo_advance_44 : decode b_Mo_advance 44 = .ok (.iload_n 3, 1) := by decide +kernel
theorem d_Mo_advance_45 : decode b_Mo_advance 45 = .ok (.bipush 16, 2) := by decide +kernel
theorem d_Mo_advance_47 : decode b_Mo_advance 47 = .ok (.ishl, 1) := by decide +kernel
theorem d_Mo_advance_48 : decode b_Mo_advance 48 = .ok (.bipush 16, 2) := by decide +kernel
theorem d_Mo_advance_50 : decode b_Mo_advance 50 = .ok (.ishr, 1) := by decide +kernel
theorem d_Mo_advance_51 : decode b_Mo_advance 51 = .ok (.istore 8, 2) := by decide +kernel
theorem d_Mo_advance_53 : decode b_Mo_advance 53 = .ok (.aload_n 0, 1) := by decide +kernel
theorem d_Mo_advance_54 : decode b_Mo_advance 54 = .ok (.iconst (-1), 1) := by decide +kernel
theorem d_Mo_advance_55 : decode b_Mo_advance 55 = .ok (.putfield 72, 3) := by decide +kernel
theorem d_Mo_advance_58 : decode b_Mo_advance 58 = .ok (.iload 4, 2) := by decide +kernel
theorem d_Mo_advance_60 : decode b_Mo_advance 60 = .ok (.bipush 8, 2) := by decide +kernel
theorem d_Mo_advance_62 : decode b_Mo_advance 62 = .ok (.if_icmp .ne 14, 3) := by decide +kernel
theorem d_Mo_advance_65 : decode b_Mo_advance 65 = .ok (.aload_n 1, 1) := by decide +kernel
theorem d_Mo_advance_66 : decode b_Mo_advance 66 = .ok (.sipush 265, 3) := by decide +kernel
theorem d_Mo_advance_69 : decode b_Mo_advance 69 = .ok (.iaload, 1) := by decide +kernel
theorem d_Mo_advance_70 : decode b_Mo_advance 70 = .ok (.iload_n 2, 1) := by decide +kernel
theorem d_Mo_advance_71 : decode b_Mo_advance 71 = .ok (.if_icmp .lt 5, 3) := by decide +kernel
theorem d_Mo_advance_74 : decode b_Mo_advance 74 = .ok (.iconst 0, 1) := by decide +kernel
theorem d_Mo_advance_75 : decode b_Mo_advance 75 = .ok (.ireturn, 1) := by decide +kernel
theorem d_Mo_advance_76 : decode b_Mo_advance 76 = .ok (.iload 4, 2) := by decide +kernel
theorem d_Mo_advance_78 : decode b_Mo_advance 78 = .ok (.ifCond .eq 10, 3) := by decide +kernel
theorem d_Mo_advance_81 : decode b_Mo_advance 81 = .ok (.iload 4, 2) := by decide +kernel
theorem d_Mo_advance_83 : decode b_Mo_advance 83 = .ok (.bipush 12, 2) := by decide +kernel
theorem d_Mo_advance_85 : decode b_Mo_advance 85 = .ok (.if_icmp .le 20, 3) := by decide +kernel
theorem d_Mo_advance_88 : decode b_Mo_advance 88 = .ok (.aload_n 1, 1) := by decide +kernel
theorem d_Mo_advance_89 : decode b_Mo_advance 89 = .ok (.sipush 268, 3) := by decide +kernel
theorem d_Mo_advance_92 : decode b_Mo_advance 92 = .ok (.iload 4, 2) := by decide +kernel
theorem d_Mo_advance_94 : decode b_Mo_advance 94 = .ok (.ifCond .ne 7, 3) := by decide +kernel
theorem d_Mo_advance_97 : decode b_Mo_advance 97 = .ok (.iconst 1, 1) := by decide +kernel
theorem d_Mo_advance_98 : decode b_Mo_advance 98 = .ok (.goto 4, 3) := by decide +kernel
theorem d_Mo_advance_101 : decode b_Mo_advance 101 = .ok (.iconst 2, 1) := by decide +kernel
theorem d_Mo_advance_102 : decode b_Mo_advance 102 = .ok (.iastore, 1) := by decide +kernel
theorem d_Mo_advance_103 : decode b_Mo_advance 103 = .ok (.iconst 1, 1) := by decide +kernel
theorem d_Mo_advance_104 : decode b_Mo_advance 104 = .ok (.ireturn, 1) := by decide +kernel
theorem d_Mo_advance_105 : decode b_Mo_advance 105 = .ok (.aload_n 1, 1) := by decide +kernel
theorem d_Mo_advance_106 : decode b_Mo_advance 106 = .ok (.sipush 264, 3) := by decide +kernel
theorem d_Mo_advance_109 : decode b_Mo_advance 109 = .ok (.iaload, 1) := by decide +kernel
theorem d_Mo_advance_110 : decode b_Mo_advance 110 = .ok (.iconst 1, 1) := by decide +kernel
theorem d_Mo_advance_111 : decode b_Mo_advance 111 = .ok (.iadd, 1) := by decide +kernel
theorem d_Mo_advance_112 : decode b_Mo_advance 112 = .ok (.bipush 63, 2) := by decide +kernel
theorem d_Mo_advance_114 : decode b_Mo_advance 114 = .ok (.iand, 1) := by decide +kernel
theorem d_Mo_advance_115 : decode b_Mo_advance 115 = .ok (.istore 9, 2) := by decide +kernel
theorem d_Mo_advance_117 : decode b_Mo_advance 117 = .ok (.iload 4, 2) := by decide +kernel
theorem d_Mo_advance_119 : decode b_Mo_advance 119 = .ok (.bipush 7, 2) := by decide +kernel
theorem d_Mo_advance_121 : decode b_Mo_advance 121 = .ok (.if_icmp .ne 31, 3) := by decide +kernel
theorem d_Mo_advance_124 : decode b_Mo_advance 124 = .ok (.aload_n 1, 1) := by decide +kernel
theorem d_Mo_advance_125 : decode b_Mo_advance 125 = .ok (.iload 5, 2) := by decide +kernel
theorem d_Mo_advance_127 : decode b_Mo_advance 127 = .ok (.iaload, 1) := by decide +kernel
theorem d_Mo_advance_128 : decode b_Mo_advance 128 = .ok (.ifCond .eq 17, 3) := by decide +kernel
theorem d_Mo_advance_131 : decode b_Mo_advance 131 = .ok (.aload_n 1, 1) := by decide +kernel
theorem d_Mo_advance_132 : decode b_Mo_advance 132 = .ok (.sipush 264, 3) := by decide +kernel
theorem d_Mo_advance_135 : decode b_Mo_advance 135 = .ok (.iaload, 1) := by decide +kernel
theorem d_Mo_advance_136 : decode b_Mo_advance 136 = .ok (.iload 8, 2) := by decide +kernel
theorem d_Mo_advance_138 : decode b_Mo_advance 138 = .ok (.iadd, 1) := by decide +kernel
theorem d_Mo_advance_139 : decode b_Mo_advance 139 = .ok (.bipush 63, 2) := by decide +kernel
theorem d_Mo_advance_141 : decode b_Mo_advance 141 = .ok (.iand, 1) := by decide +kernel
theorem d_Mo_advance_142 : decode b_Mo_advance 142 = .ok (.goto 5, 3) := by decide +kernel
theorem d_Mo_advance_145 : decode b_Mo_advance 145 = .ok (.iload 9, 2) := by decide +kernel
theorem d_Mo_advance_147 : decode b_Mo_advance 147 = .ok (.istore 9, 2) := by decide +kernel
theorem d_Mo_advance_149 : decode b_Mo_advance 149 = .ok (.goto 172, 3) := by decide +kernel
theorem d_Mo_advance_152 : decode b_Mo_advance 152 = .ok (.iload 4, 2) := by decide +kernel
theorem d_Mo_advance_154 : decode b_Mo_advance 154 = .ok (.bipush 9, 2) := by decide +kernel
theorem d_Mo_advance_156 : decode b_Mo_advance 156 = .ok (.if_icmp .ne 33, 3) := by decide +kernel
theorem d_Mo_advance_159 : decode b_Mo_advance 159 = .ok (.aload_n 1, 1) := by decide +kernel
theorem d_Mo_advance_160 : decode b_Mo_advance 160 = .ok (.sipush 266, 3) := by decide +kernel
theorem d_Mo_advance_163 : decode b_Mo_advance 163 = .ok (.dup2, 1) := by decide +kernel
theorem d_Mo_advance_164 : decode b_Mo_advance 164 = .ok (.iaload, 1) := by decide +kernel
theorem d_Mo_advance_165 : decode b_Mo_advance 165 = .ok (.iconst 1, 1) := by decide +kernel
theorem d_Mo_advance_166 : decode b_Mo_advance 166 = .ok (.iadd, 1) := by decide +kernel
theorem d_Mo_advance_167 : decode b_Mo_advance 167 = .ok (.iastore, 1) := by decide +kernel
theorem d_Mo_advance_168 : decode b_Mo_advance 168 = .ok (.aload_n 1, 1) := by decide +kernel
theorem d_Mo_advance_169 : decode b_Mo_advance 169 = .ok (.sipush 267, 3) := by decide +kernel
theorem d_Mo_advance_172 : decode b_Mo_advance 172 = .ok (.bipush 31, 2) := by decide +kernel
theorem d_Mo_advance_174 : decode b_Mo_advance 174 = .ok (.aload_n 1, 1) := by decide +kernel
theorem d_Mo_advance_175 : decode b_Mo_advance 175 = .ok (.sipush 267, 3) := by decide +kernel
theorem d_Mo_advance_178 : decode b_Mo_advance 178 = .ok (.iaload, 1) := by decide +kernel
theorem d_Mo_advance_179 : decode b_Mo_advance 179 = .ok (.imul, 1) := by decide +kernel
theorem d_Mo_advance_180 : decode b_Mo_advance 180 = .ok (.aload_n 1, 1) := by decide +kernel
theorem d_Mo_advance_181 : decode b_Mo_advance 181 = .ok (.iload 5, 2) := by decide +kernel
theorem d_Mo_advance_183 : decode b_Mo_advance 183 = .ok (.iaload, 1) := by decide +kernel
theorem d_Mo_advance_184 : decode b_Mo_advance 184 = .ok (.iadd, 1) := by decide +kernel
theorem d_Mo_advance_185 : decode b_Mo_advance 185 = .ok (.iastore, 1) := by decide +kernel
theorem d_Mo_advance_186 : decode b_Mo_advance 186 = .ok (.goto 135, 3) := by decide +kernel
theorem d_Mo_advance_189 : decode b_Mo_advance 189 = .ok (.iload 4, 2) := by decide +kernel
theorem d_Mo_advance_191 : decode b_Mo_advance 191 = .ok (.bipush 6, 2) := by decide +kernel
theorem d_Mo_advance_193 : decode b_Mo_advance 193 = .ok (.if_icmp .ne 34, 3) := by decide +kernel
theorem d_Mo_advance_196 : decode b_Mo_advance 196 = .ok (.aload_n 0, 1) := by decide +kernel
theorem d_Mo_advance_197 : decode b_Mo_advance 197 = .ok (.bipush 8, 2) := by decide +kernel
theorem d_Mo_advance_199 : decode b_Mo_advance 199 = .ok (.aload_n 1, 1) := by decide +kernel
theorem d_Mo_advance_200 : decode b_Mo_advance 200 = .ok (.iload 6, 2) := by decide +kernel
theorem d_Mo_advance_202 : decode b_Mo_advance 202 = .ok (.iaload, 1) := by decide +kernel
theorem d_Mo_advance_203 : decode b_Mo_advance 203 = .ok (.iload 8, 2) := by decide +kernel
theorem d_Mo_advance_205 : decode b_Mo_advance 205 = .ok (.iadd, 1) := by decide +kernel
theorem d_Mo_advance_206 : decode b_Mo_advance 206 = .ok (.sipush 255, 3) := by decide +kernel
theorem d_Mo_advance_209 : decode b_Mo_advance 209 = .ok (.iand, 1) := by decide +kernel
theorem d_Mo_advance_210 : decode b_Mo_advance 210 = .ok (.iadd, 1) := by decide +kernel
theorem d_Mo_advance_211 : decode b_Mo_advance 211 = .ok (.putfield 72, 3) := by decide +kernel
theorem d_Mo_advance_214 : decode b_Mo_advance 214 = .ok (.aload_n 1, 1) := by decide +kernel
theorem d_Mo_advance_215 : decode b_Mo_advance 215 = .ok (.aload_n 0, 1) := by decide +kernel
theorem d_Mo_advance_216 : decode b_Mo_advance 216 = .ok (.getfield 72, 3) := by decide +kernel
theorem d_Mo_advance_219 : decode b_Mo_advance 219 = .ok (.aload_n 1, 1) := by decide +kernel
theorem d_Mo_advance_220 : decode b_Mo_advance 220 = .ok (.iload 5, 2) := by decide +kernel
theorem d_Mo_advance_222 : decode b_Mo_advance 222 = .ok (.iaload, 1) := by decide +kernel
theorem d_Mo_advance_223 : decode b_Mo_advance 223 = .ok (.iastore, 1) := by decide +kernel
theorem d_Mo_advance_224 : decode b_Mo_advance 224 = .ok (.goto 97, 3) := by decide +kernel
theorem d_Mo_advance_227 : decode b_Mo_advance 227 = .ok (.iload 4, 2) := by decide +kernel
theorem d_Mo_advance_229 : decode b_Mo_advance 229 = .ok (.iconst 5, 1) := by decide +kernel
theorem d_Mo_advance_230 : decode b_Mo_advance 230 = .ok (.if_icmp .ne 22, 3) := by decide +kernel
theorem d_Mo_advance_233 : decode b_Mo_advance 233 = .ok (.aload_n 1, 1) := by decide +kernel
theorem d_Mo_advance_234 : decode b_Mo_advance 234 = .ok (.bipush 8, 2) := by decide +kernel
theorem d_Mo_advance_236 : decode b_Mo_advance 236 = .ok (.aload_n 1, 1) := by decide +kernel
theorem d_Mo_advance_237 : decode b_Mo_advance 237 = .ok (.iload 6, 2) := by decide +kernel
theorem d_Mo_advance_239 : decode b_Mo_advance 239 = .ok (.iaload, 1) := by decide +kernel
theorem d_Mo_advance_240 : decode b_Mo_advance 240 = .ok (.iload 8, 2) := by decide +kernel
theorem d_Mo_advance_242 : decode b_Mo_advance 242 = .ok (.iadd, 1) := by decide +kernel
theorem d_Mo_advance_243 : decode b_Mo_advance 243 = .ok (.sipush 255, 3) := by decide +kernel
theorem d_Mo_advance_246 : decode b_Mo_advance 246 = .ok (.iand, 1) := by decide +kernel
theorem d_Mo_advance_247 : decode b_Mo_advance 247 = .ok (.iadd, 1) := by decide +kernel
theorem d_Mo_advance_248 : decode b_Mo_advance 248 = .ok (.iaload, 1) := by decide +kernel
theorem d_Mo_advance_249 : decode b_Mo_advance 249 = .ok (.goto 38, 3) := by decide +kernel
theorem d_Mo_advance_252 : decode b_Mo_advance 252 = .ok (.iload 4, 2) := by decide +kernel
theorem d_Mo_advance_254 : decode b_Mo_advance 254 = .ok (.bipush 8, 2) := by decide +kernel
theorem d_Mo_advance_256 : decode b_Mo_advance 256 = .ok (.if_icmp .ne 16, 3) := by decide +kernel
theorem d_Mo_advance_259 : decode b_Mo_advance 259 = .ok (.aload_n 0, 1) := by decide +kernel
theorem d_Mo_advance_260 : decode b_Mo_advance 260 = .ok (.getfield 13, 3) := by decide +kernel
theorem d_Mo_advance_263 : decode b_Mo_advance 263 = .ok (.aload_n 1, 1) := by decide +kernel
theorem d_Mo_advance_264 : decode b_Mo_advance 264 = .ok (.sipush 265, 3) := by decide +kernel
theorem d_Mo_advance_267 : decode b_Mo_advance 267 = .ok (.iaload, 1) := by decide +kernel
theorem d_Mo_advance_268 : decode b_Mo_advance 268 = .ok (.iaload, 1) := by decide +kernel
theorem d_Mo_advance_269 : decode b_Mo_advance 269 = .ok (.goto 18, 3) := by decide +kernel
theorem d_Mo_advance_272 : decode b_Mo_advance 272 = .ok (.iload 4, 2) := by decide +kernel
theorem d_Mo_advance_274 : decode b_Mo_advance 274 = .ok (.aload_n 1, 1) := by decide +kernel
theorem d_Mo_advance_275 : decode b_Mo_advance 275 = .ok (.iload 6, 2) := by decide +kernel
theorem d_Mo_advance_277 : decode b_Mo_advance 277 = .ok (.iaload, 1) := by decide +kernel
theorem d_Mo_advance_278 : decode b_Mo_advance 278 = .ok (.aload_n 1, 1) := by decide +kernel
theorem d_Mo_advance_279 : decode b_Mo_advance 279 = .ok (.iload 7, 2) := by decide +kernel
theorem d_Mo_advance_281 : decode b_Mo_advance 281 = .ok (.iaload, 1) := by decide +kernel
theorem d_Mo_advance_282 : decode b_Mo_advance 282 = .ok (.iload 8, 2) := by decide +kernel
theorem d_Mo_advance_284 : decode b_Mo_advance 284 = .ok (.invokestatic 75, 3) := by decide +kernel
theorem d_Mo_advance_287 : decode b_Mo_advance 287 = .ok (.istore 10, 2) := by decide +kernel
theorem d_Mo_advance_289 : decode b_Mo_advance 289 = .ok (.aload_n 1, 1) := by decide +kernel
theorem d_Mo_advance_290 : decode b_Mo_advance 290 = .ok (.sipush 265, 3) := by decide +kernel
theorem d_Mo_advance_293 : decode b_Mo_advance 293 = .ok (.dup2, 1) := by decide +kernel
theorem d_Mo_advance_294 : decode b_Mo_advance 294 = .ok (.iaload, 1) := by decide +kernel
theorem d_Mo_advance_295 : decode b_Mo_advance 295 = .ok (.iload 4, 2) := by decide +kernel
theorem d_Mo_advance_297 : decode b_Mo_advance 297 = .ok (.bipush 8, 2) := by decide +kernel
theorem d_Mo_advance_299 : decode b_Mo_advance 299 = .ok (.if_icmp .ne 7, 3) := by decide +kernel
theorem d_Mo_advance_302 : decode b_Mo_advance 302 = .ok (.iconst 1, 1) := by decide +kernel
theorem d_Mo_advance_303 : decode b_Mo_advance 303 = .ok (.goto 4, 3) := by decide +kernel
theorem d_Mo_advance_306 : decode b_Mo_advance 306 = .ok (.iconst 0, 1) := by decide +kernel
theorem d_Mo_advance_307 : decode b_Mo_advance 307 = .ok (.iadd, 1) := by decide +kernel
theorem d_Mo_advance_308 : decode b_Mo_advance 308 = .ok (.iastore, 1) := by decide +kernel
theorem d_Mo_advance_309 : decode b_Mo_advance 309 = .ok (.aload_n 1, 1) := by decide +kernel
theorem d_Mo_advance_310 : decode b_Mo_advance 310 = .ok (.iload 5, 2) := by decide +kernel
theorem d_Mo_advance_312 : decode b_Mo_advance 312 = .ok (.iload 10, 2) := by decide +kernel
theorem d_Mo_advance_314 : decode b_Mo_advance 314 = .ok (.iastore, 1) := by decide +kernel
theorem d_Mo_advance_315 : decode b_Mo_advance 315 = .ok (.aload_n 0, 1) := by decide +kernel
theorem d_Mo_advance_316 : decode b_Mo_advance 316 = .ok (.iload 5, 2) := by decide +kernel
theorem d_Mo_advance_318 : decode b_Mo_advance 318 = .ok (.putfield 72, 3) := by decide +kernel
theorem d_Mo_advance_321 : decode b_Mo_advance 321 = .ok (.aload_n 1, 1) := by decide +kernel
theorem d_Mo_advance_322 : decode b_Mo_advance 322 = .ok (.sipush 264, 3) := by decide +kernel
theorem d_Mo_advance_325 : decode b_Mo_advance 325 = .ok (.iload 9, 2) := by decide +kernel
theorem d_Mo_advance_327 : decode b_Mo_advance 327 = .ok (.iastore, 1) := by decide +kernel
theorem d_Mo_advance_328 : decode b_Mo_advance 328 = .ok (.iconst 1, 1) := by decide +kernel
theorem d_Mo_advance_329 : decode b_Mo_advance 329 = .ok (.ireturn, 1) := by decide +kernel
theorem d_Mo_costOf_0 : decode b_Mo_costOf 0 = .ok (.aload_n 0, 1) := by decide +kernel
theorem d_Mo_costOf_1 : decode b_Mo_costOf 1 = .ok (.getfield 57, 3) := by decide +kernel
theorem d_Mo_costOf_4 : decode b_Mo_costOf 4 = .ok (.invokestatic 60, 3) := by decide +kernel
theorem d_Mo_costOf_7 : decode b_Mo_costOf 7 = .ok (.istore_n 1, 1) := by decide +kernel
theorem d_Mo_costOf_8 : decode b_Mo_costOf 8 = .ok (.iconst 1, 1) := by decide +kernel
theorem d_Mo_costOf_9 : decode b_Mo_costOf 9 = .ok (.istore_n 2, 1) := by decide +kernel
theorem d_Mo_costOf_10 : decode b_Mo_costOf 10 = .ok (.iload_n 2, 1) := by decide +kernel
theorem d_Mo_costOf_11 : decode b_Mo_costOf 11 = .ok (.aload_n 0, 1) := by decide +kernel
theorem d_Mo_costOf_12 : decode b_Mo_costOf 12 = .ok (.getfield 72, 3) := by decide +kernel
theorem d_Mo_costOf_15 : decode b_Mo_costOf 15 = .ok (.ifCond .lt 34, 3) := by decide +kernel
theorem d_Mo_costOf_18 : decode b_Mo_costOf 18 = .ok (.aload_n 0, 1) := by decide +kernel
theorem d_Mo_costOf_19 : decode b_Mo_costOf 19 = .ok (.getfield 16, 3) := by decide +kernel
theorem d_Mo_costOf_22 : decode b_Mo_costOf 22 = .ok (.aload_n 0, 1) := by decide +kernel
theorem d_Mo_costOf_23 : decode b_Mo_costOf 23 = .ok (.getfield 72, 3) := by decide +kernel
theorem d_Mo_costOf_26 : decode b_Mo_costOf 26 = .ok (.iaload, 1) := by decide +kernel
theorem d_Mo_costOf_27 : decode b_Mo_costOf 27 = .ok (.aload_n 0, 1) := by decide +kernel
theorem d_Mo_costOf_28 : decode b_Mo_costOf 28 = .ok (.getfield 23, 3) := by decide +kernel
theorem d_Mo_costOf_31 : decode b_Mo_costOf 31 = .ok (.sipush 269, 3) := by decide +kernel
theorem d_Mo_costOf_34 : decode b_Mo_costOf 34 = .ok (.iload_n 1, 1) := by decide +kernel
theorem d_Mo_costOf_35 : decode b_Mo_costOf 35 = .ok (.imul, 1) := by decide +kernel
theorem d_Mo_costOf_36 : decode b_Mo_costOf 36 = .ok (.aload_n 0, 1) := by decide +kernel
theorem d_Mo_costOf_37 : decode b_Mo_costOf 37 = .ok (.getfield 72, 3) := by decide +kernel
theorem d_Mo_costOf_40 : decode b_Mo_costOf 40 = .ok (.iadd, 1) := by decide +kernel
theorem d_Mo_costOf_41 : decode b_Mo_costOf 41 = .ok (.iaload, 1) := by decide +kernel
theorem d_Mo_costOf_42 : decode b_Mo_costOf 42 = .ok (.if_icmp .eq 7, 3) := by decide +kernel
theorem d_Mo_costOf_45 : decode b_Mo_costOf 45 = .ok (.iconst 1, 1) := by decide +kernel
theorem d_Mo_costOf_46 : decode b_Mo_costOf 46 = .ok (.goto 4, 3) := by decide +kernel
theorem d_Mo_costOf_49 : decode b_Mo_costOf 49 = .ok (.iconst 0, 1) := by decide +kernel
theorem d_Mo_costOf_50 : decode b_Mo_costOf 50 = .ok (.iadd, 1) := by decide +kernel
theorem d_Mo_costOf_51 : decode b_Mo_costOf 51 = .ok (.istore_n 2, 1) := by decide +kernel
theorem d_Mo_costOf_52 : decode b_Mo_costOf 52 = .ok (.iload_n 2, 1) := by decide +kernel
theorem d_Mo_costOf_53 : decode b_Mo_costOf 53 = .ok (.aload_n 0, 1) := by decide +kernel
theorem d_Mo_costOf_54 : decode b_Mo_costOf 54 = .ok (.getfield 16, 3) := by decide +kernel
theorem d_Mo_costOf_57 : decode b_Mo_costOf 57 = .ok (.sipush 264, 3) := by decide +kernel
theorem d_Mo_costOf_60 : decode b_Mo_costOf 60 = .ok (.iaload, 1) := by decide +kernel
theorem d_Mo_costOf_61 : decode b_Mo_costOf 61 = .ok (.aload_n 0, 1) := by decide +kernel
theorem d_Mo_costOf_62 : decode b_Mo_costOf 62 = .ok (.getfield 23, 3) := by decide +kernel
theorem d_Mo_costOf_65 : decode b_Mo_costOf 65 = .ok (.sipush 269, 3) := by decide +kernel
theorem d_Mo_costOf_68 : decode b_Mo_costOf 68 = .ok (.iload_n 1, 1) := by decide +kernel
theorem d_Mo_costOf_69 : decode b_Mo_costOf 69 = .ok (.imul, 1) := by decide +kernel
theorem d_Mo_costOf_70 : decode b_Mo_costOf 70 = .ok (.sipush 264, 3) := by decide +kernel
theorem d_Mo_costOf_73 : decode b_Mo_costOf 73 = .ok (.iadd, 1) := by decide +kernel
theorem d_Mo_costOf_74 : decode b_Mo_costOf 74 = .ok (.iaload, 1) := by decide +kernel
theorem d_Mo_costOf_75 : decode b_Mo_costOf 75 = .ok (.iconst 1, 1) := by decide +kernel
theorem d_Mo_costOf_76 : decode b_Mo_costOf 76 = .ok (.iadd, 1) := by decide +kernel
theorem d_Mo_costOf_77 : decode b_Mo_costOf 77 = .ok (.bipush 63, 2) := by decide +kernel
theorem d_Mo_costOf_79 : decode b_Mo_costOf 79 = .ok (.iand, 1) := by decide +kernel
theorem d_Mo_costOf_80 : decode b_Mo_costOf 80 = .ok (.if_icmp .eq 7, 3) := by decide +kernel
theorem d_Mo_costOf_83 : decode b_Mo_costOf 83 = .ok (.iconst 1, 1) := by decide +kernel
theorem d_Mo_costOf_84 : decode b_Mo_costOf 84 = .ok (.goto 4, 3) := by decide +kernel
theorem d_Mo_costOf_87 : decode b_Mo_costOf 87 = .ok (.iconst 0, 1) := by decide +kernel
theorem d_Mo_costOf_88 : decode b_Mo_costOf 88 = .ok (.iadd, 1) := by decide +kernel
theorem d_Mo_costOf_89 : decode b_Mo_costOf 89 = .ok (.istore_n 2, 1) := by decide +kernel
theorem d_Mo_costOf_90 : decode b_Mo_costOf 90 = .ok (.iload_n 2, 1) := by decide +kernel
theorem d_Mo_costOf_91 : decode b_Mo_costOf 91 = .ok (.aload_n 0, 1) := by decide +kernel
theorem d_Mo_costOf_92 : decode b_Mo_costOf 92 = .ok (.getfield 16, 3) := by decide +kernel
theorem d_Mo_costOf_95 : decode b_Mo_costOf 95 = .ok (.sipush 265, 3) := by decide +kernel
theorem d_Mo_costOf_98 : decode b_Mo_costOf 98 = .ok (.iaload, 1) := by decide +kernel
theorem d_Mo_costOf_99 : decode b_Mo_costOf 99 = .ok (.aload_n 0, 1) := by decide +kernel
theorem d_Mo_costOf_100 : decode b_Mo_costOf 100 = .ok (.getfield 23, 3) := by decide +kernel
theorem d_Mo_costOf_103 : decode b_Mo_costOf 103 = .ok (.sipush 269, 3) := by decide +kernel
theorem d_Mo_costOf_106 : decode b_Mo_costOf 106 = .ok (.iload_n 1, 1) := by decide +kernel
theorem d_Mo_costOf_107 : decode b_Mo_costOf 107 = .ok (.imul, 1) := by decide +kernel
theorem d_Mo_costOf_108 : decode b_Mo_costOf 108 = .ok (.sipush 265, 3) := by decide +kernel
theorem d_Mo_costOf_111 : decode b_Mo_costOf 111 = .ok (.iadd, 1) := by decide +kernel
theorem d_Mo_costOf_112 : decode b_Mo_costOf 112 = .ok (.iaload, 1) := by decide +kernel
theorem d_Mo_costOf_113 : decode b_Mo_costOf 113 = .ok (.isub, 1) := by decide +kernel
theorem d_Mo_costOf_114 : decode b_Mo_costOf 114 = .ok (.iadd, 1) := by decide +kernel
theorem d_Mo_costOf_115 : decode b_Mo_costOf 115 = .ok (.istore_n 2, 1) := by decide +kernel
theorem d_Mo_costOf_116 : decode b_Mo_costOf 116 = .ok (.iload_n 2, 1) := by decide +kernel
theorem d_Mo_costOf_117 : decode b_Mo_costOf 117 = .ok (.aload_n 0, 1) := by decide +kernel
theorem d_Mo_costOf_118 : decode b_Mo_costOf 118 = .ok (.getfield 16, 3) := by decide +kernel
theorem d_Mo_costOf_121 : decode b_Mo_costOf 121 = .ok (.sipush 266, 3) := by decide +kernel
theorem d_Mo_costOf_124 : decode b_Mo_costOf 124 = .ok (.iaload, 1) := by decide +kernel
theorem d_Mo_costOf_125 : decode b_Mo_costOf 125 = .ok (.aload_n 0, 1) := by decide +kernel
theorem d_Mo_costOf_126 : decode b_Mo_costOf 126 = .ok (.getfield 23, 3) := by decide +kernel
theorem d_Mo_costOf_129 : decode b_Mo_costOf 129 = .ok (.sipush 269, 3) := by decide +kernel
theorem d_Mo_costOf_132 : decode b_Mo_costOf 132 = .ok (.iload_n 1, 1) := by decide +kernel
theorem d_Mo_costOf_133 : decode b_Mo_costOf 133 = .ok (.imul, 1) := by decide +kernel
theorem d_Mo_costOf_134 : decode b_Mo_costOf 134 = .ok (.sipush 266, 3) := by decide +kernel
theorem d_Mo_costOf_137 : decode b_Mo_costOf 137 = .ok (.iadd, 1) := by decide +kernel
theorem d_Mo_costOf_138 : decode b_Mo_costOf 138 = .ok (.iaload, 1) := by decide +kernel
theorem d_Mo_costOf_139 : decode b_Mo_costOf 139 = .ok (.isub, 1) := by decide +kernel
theorem d_Mo_costOf_140 : decode b_Mo_costOf 140 = .ok (.iadd, 1) := by decide +kernel
theorem d_Mo_costOf_141 : decode b_Mo_costOf 141 = .ok (.istore_n 2, 1) := by decide +kernel
theorem d_Mo_costOf_142 : decode b_Mo_costOf 142 = .ok (.iload_n 2, 1) := by decide +kernel
theorem d_Mo_costOf_143 : decode b_Mo_costOf 143 = .ok (.ireturn, 1) := by decide +kernel
theorem d_Mo_allCosts_0 : decode b_Mo_allCosts 0 = .ok (.iconst 0, 1) := by decide +kernel
theorem d_Mo_allCosts_1 : decode b_Mo_allCosts 1 = .ok (.istore_n 1, 1) := by decide +kernel
theorem d_Mo_allCosts_2 : decode b_Mo_allCosts 2 = .ok (.aload_n 0, 1) := by decide +kernel
theorem d_Mo_allCosts_3 : decode b_Mo_allCosts 3 = .ok (.getfield 66, 3) := by decide +kernel
theorem d_Mo_allCosts_6 : decode b_Mo_allCosts 6 = .ok (.istore_n 2, 1) := by decide +kernel
theorem d_Mo_allCosts_7 : decode b_Mo_allCosts 7 = .ok (.iload_n 2, 1) := by decide +kernel
theorem d_Mo_allCosts_8 : decode b_Mo_allCosts 8 = .ok (.aload_n 0, 1) := by decide +kernel
theorem d_Mo_allCosts_9 : decode b_Mo_allCosts 9 = .ok (.getfield 57, 3) := by decide +kernel
theorem d_Mo_allCosts_12 : decode b_Mo_allCosts 12 = .ok (.if_icmp .ge 21, 3) := by decide +kernel
theorem d_Mo_allCosts_15 : decode b_Mo_allCosts 15 = .ok (.iload_n 1, 1) := by decide +kernel
theorem d_Mo_allCosts_16 : decode b_Mo_allCosts 16 = .ok (.aload_n 0, 1) := by decide +kernel
theorem d_Mo_allCosts_17 : decode b_Mo_allCosts 17 = .ok (.getfield 26, 3) := by decide +kernel
theorem d_Mo_allCosts_20 : decode b_Mo_allCosts 20 = .ok (.iload_n 2, 1) := by decide +kernel
theorem d_Mo_allCosts_21 : decode b_Mo_allCosts 21 = .ok (.invokestatic 60, 3) := by decide +kernel
theorem d_Mo_allCosts_24 : decode b_Mo_allCosts 24 = .ok (.iaload, 1) := by decide +kernel
theorem d_Mo_allCosts_25 : decode b_Mo_allCosts 25 = .ok (.iadd, 1) := by decide +kernel
theorem d_Mo_allCosts_26 : decode b_Mo_allCosts 26 = .ok (.istore_n 1, 1) := by decide +kernel
theorem d_Mo_allCosts_27 : decode b_Mo_allCosts 27 = .ok (.iinc 2 1, 3) := by decide +kernel
theorem d_Mo_allCosts_30 : decode b_Mo_allCosts 30 = .ok (.goto (-23), 3) := by decide +kernel
theorem d_Mo_allCosts_33 : decode b_Mo_allCosts 33 = .ok (.iload_n 1, 1) := by decide +kernel
theorem d_Mo_allCosts_34 : decode b_Mo_allCosts 34 = .ok (.ireturn, 1) := by decide +kernel
theorem d_Mo_stepOnce_0 : decode b_Mo_stepOnce 0 = .ok (.aload_n 0, 1) := by decide +kernel
theorem d_Mo_stepOnce_1 : decode b_Mo_stepOnce 1 = .ok (.getfield 16, 3) := by decide +kernel
theorem d_Mo_stepOnce_4 : decode b_Mo_stepOnce 4 = .ok (.sipush 268, 3) := by decide +kernel
theorem d_Mo_stepOnce_7 : decode b_Mo_stepOnce 7 = .ok (.iaload, 1) := by decide +kernel
theorem d_Mo_stepOnce_8 : decode b_Mo_stepOnce 8 = .ok (.ifCond .le 5, 3) := by decide +kernel
theorem d_Mo_stepOnce_11 : decode b_Mo_stepOnce 11 = .ok (.iconst 0, 1) := by decide +kernel
theorem d_Mo_stepOnce_12 : decode b_Mo_stepOnce 12 = .ok (.ireturn, 1) := by decide +kernel
theorem d_Mo_stepOnce_13 : decode b_Mo_stepOnce 13 = .ok (.aload_n 0, 1) := by decide +kernel
theorem d_Mo_stepOnce_14 : decode b_Mo_stepOnce 14 = .ok (.invokevirtual 79, 3) := by decide +kernel
theorem d_Mo_stepOnce_17 : decode b_Mo_stepOnce 17 = .ok (.aload_n 0, 1) := by decide +kernel
theorem d_Mo_stepOnce_18 : decode b_Mo_stepOnce 18 = .ok (.aload_n 0, 1) := by decide +kernel
theorem d_Mo_stepOnce_19 : decode b_Mo_stepOnce 19 = .ok (.getfield 16, 3) := by decide +kernel
theorem d_Mo_stepOnce_22 : decode b_Mo_stepOnce 22 = .ok (.aload_n 0, 1) := by decide +kernel
theorem d_Mo_stepOnce_23 : decode b_Mo_stepOnce 23 = .ok (.getfield 54, 3) := by decide +kernel
theorem d_Mo_stepOnce_26 : decode b_Mo_stepOnce 26 = .ok (.invokevirtual 82, 3) := by decide +kernel
theorem d_Mo_stepOnce_29 : decode b_Mo_stepOnce 29 = .ok (.ifCond .ne 5, 3) := by decide +kernel
theorem d_Mo_stepOnce_32 : decode b_Mo_stepOnce 32 = .ok (.iconst 0, 1) := by decide +kernel
theorem d_Mo_stepOnce_33 : decode b_Mo_stepOnce 33 = .ok (.ireturn, 1) := by decide +kernel
theorem d_Mo_stepOnce_34 : decode b_Mo_stepOnce 34 = .ok (.aload_n 0, 1) := by decide +kernel
theorem d_Mo_stepOnce_35 : decode b_Mo_stepOnce 35 = .ok (.getfield 26, 3) := by decide +kernel
theorem d_Mo_stepOnce_38 : decode b_Mo_stepOnce 38 = .ok (.aload_n 0, 1) := by decide +kernel
theorem d_Mo_stepOnce_39 : decode b_Mo_stepOnce 39 = .ok (.getfield 57, 3) := by decide +kernel
theorem d_Mo_stepOnce_42 : decode b_Mo_stepOnce 42 = .ok (.invokestatic 60, 3) := by decide +kernel
theorem d_Mo_stepOnce_45 : decode b_Mo_stepOnce 45 = .ok (.aload_n 0, 1) := by decide +kernel
theorem d_Mo_stepOnce_46 : decode b_Mo_stepOnce 46 = .ok (.invokevirtual 86, 3) := by decide +kernel
theorem d_Mo_stepOnce_49 : decode b_Mo_stepOnce 49 = .ok (.iastore, 1) := by decide +kernel
theorem d_Mo_stepOnce_50 : decode b_Mo_stepOnce 50 = .ok (.aload_n 0, 1) := by decide +kernel
theorem d_Mo_stepOnce_51 : decode b_Mo_stepOnce 51 = .ok (.getfield 29, 3) := by decide +kernel
theorem d_Mo_stepOnce_54 : decode b_Mo_stepOnce 54 = .ok (.aload_n 0, 1) := by decide +kernel
theorem d_Mo_stepOnce_55 : decode b_Mo_stepOnce 55 = .ok (.getfield 57, 3) := by decide +kernel
theorem d_Mo_stepOnce_58 : decode b_Mo_stepOnce 58 = .ok (.invokestatic 60, 3) := by decide +kernel
theorem d_Mo_stepOnce_61 : decode b_Mo_stepOnce 61 = .ok (.aload_n 0, 1) := by decide +kernel
theorem d_Mo_stepOnce_62 : decode b_Mo_stepOnce 62 = .ok (.getfield 72, 3) := by decide +kernel
theorem d_Mo_stepOnce_65 : decode b_Mo_stepOnce 65 = .ok (.iastore, 1) := by decide +kernel
theorem d_Mo_stepOnce_66 : decode b_Mo_stepOnce 66 = .ok (.aload_n 0, 1) := by decide +kernel
theorem d_Mo_stepOnce_67 : decode b_Mo_stepOnce 67 = .ok (.dup, 1) := by decide +kernel
theorem d_Mo_stepOnce_68 : decode b_Mo_stepOnce 68 = .ok (.getfield 57, 3) := by decide +kernel
theorem d_Mo_stepOnce_71 : decode b_Mo_stepOnce 71 = .ok (.iconst 1, 1) := by decide +kernel
theorem d_Mo_stepOnce_72 : decode b_Mo_stepOnce 72 = .ok (.iadd, 1) := by decide +kernel
theorem d_Mo_stepOnce_73 : decode b_Mo_stepOnce 73 = .ok (.putfield 57, 3) := by decide +kernel
theorem d_Mo_stepOnce_76 : decode b_Mo_stepOnce 76 = .ok (.aload_n 0, 1) := by decide +kernel
theorem d_Mo_stepOnce_77 : decode b_Mo_stepOnce 77 = .ok (.invokevirtual 90, 3) := by decide +kernel
theorem d_Mo_stepOnce_80 : decode b_Mo_stepOnce 80 = .ok (.istore_n 1, 1) := by decide +kernel
theorem d_Mo_stepOnce_81 : decode b_Mo_stepOnce 81 = .ok (.iload_n 1, 1) := by decide +kernel
theorem d_Mo_stepOnce_82 : decode b_Mo_stepOnce 82 = .ok (.aload_n 0, 1) := by decide +kernel
theorem d_Mo_stepOnce_83 : decode b_Mo_stepOnce 83 = .ok (.getfield 36, 3) := by decide +kernel
theorem d_Mo_stepOnce_86 : decode b_Mo_stepOnce 86 = .ok (.if_icmp .le 41, 3) := by decide +kernel
theorem d_Mo_stepOnce_89 : decode b_Mo_stepOnce 89 = .ok (.iload_n 1, 1) := by decide +kernel
theorem d_Mo_stepOnce_90 : decode b_Mo_stepOnce 90 = .ok (.aload_n 0, 1) := by decide +kernel
theorem d_Mo_stepOnce_91 : decode b_Mo_stepOnce 91 = .ok (.getfield 26, 3) := by decide +kernel
theorem d_Mo_stepOnce_94 : decode b_Mo_stepOnce 94 = .ok (.aload_n 0, 1) := by decide +kernel
theorem d_Mo_stepOnce_95 : decode b_Mo_stepOnce 95 = .ok (.getfield 66, 3) := by decide +kernel
theorem d_Mo_stepOnce_98 : decode b_Mo_stepOnce 98 = .ok (.invokestatic 60, 3) := by decide +kernel
theorem d_Mo_stepOnce_101 : decode b_Mo_stepOnce 101 = .ok (.iaload, 1) := by decide +kernel
theorem d_Mo_stepOnce_102 : decode b_Mo_stepOnce 102 = .ok (.isub, 1) := by decide +kernel
theorem d_Mo_stepOnce_103 : decode b_Mo_stepOnce 103 = .ok (.istore_n 1, 1) := by decide +kernel
theorem d_Mo_stepOnce_104 : decode b_Mo_stepOnce 104 = .ok (.aload_n 0, 1) := by decide +kernel
theorem d_Mo_stepOnce_105 : decode b_Mo_stepOnce 105 = .ok (.dup, 1) := by decide +kernel
theorem d_Mo_stepOnce_106 : decode b_Mo_stepOnce 106 = .ok (.getfield 66, 3) := by decide +kernel
theorem d_Mo_stepOnce_109 : decode b_Mo_stepOnce 109 = .ok (.iconst 1, 1) := by decide +kernel
theorem d_Mo_stepOnce_110 : decode b_Mo_stepOnce 110 = .ok (.iadd, 1) := by decide +kernel
theorem d_Mo_stepOnce_111 : decode b_Mo_stepOnce 111 = .ok (.putfield 66, 3) := by decide +kernel
theorem d_Mo_stepOnce_114 : decode b_Mo_stepOnce 114 = .ok (.aload_n 0, 1) := by decide +kernel
theorem d_Mo_stepOnce_115 : decode b_Mo_stepOnce 115 = .ok (.dup, 1) := by decide +kernel
theorem d_Mo_stepOnce_116 : decode b_Mo_stepOnce 116 = .ok (.getfield 63, 3) := by decide +kernel
theorem d_Mo_stepOnce_119 : decode b_Mo_stepOnce 119 = .ok (.iconst 1, 1) := by decide +kernel
theorem d_Mo_stepOnce_120 : decode b_Mo_stepOnce 120 = .ok (.iadd, 1) := by decide +kernel
theorem d_Mo_stepOnce_121 : decode b_Mo_stepOnce 121 = .ok (.putfield 63, 3) := by decide +kernel
theorem d_Mo_stepOnce_124 : decode b_Mo_stepOnce 124 = .ok (.goto (-43), 3) := by decide +kernel
theorem d_Mo_stepOnce_127 : decode b_Mo_stepOnce 127 = .ok (.iconst 1, 1) := by decide +kernel
theorem d_Mo_stepOnce_128 : decode b_Mo_stepOnce 128 = .ok (.ireturn, 1) := by decide +kernel
theorem d_Mo_step_0 : decode b_Mo_step 0 = .ok (.aload_n 0, 1) := by decide +kernel
theorem d_Mo_step_1 : decode b_Mo_step 1 = .ok (.iconst 0, 1) := by decide +kernel
theorem d_Mo_step_2 : decode b_Mo_step 2 = .ok (.putfield 43, 3) := by decide +kernel
theorem d_Mo_step_5 : decode b_Mo_step 5 = .ok (.iload_n 1, 1) := by decide +kernel
theorem d_Mo_step_6 : decode b_Mo_step 6 = .ok (.iconst 1, 1) := by decide +kernel
theorem d_Mo_step_7 : decode b_Mo_step 7 = .ok (.sipush 2000, 3) := by decide +kernel
theorem d_Mo_step_10 : decode b_Mo_step 10 = .ok (.invokestatic 46, 3) := by decide +kernel
theorem d_Mo_step_13 : decode b_Mo_step 13 = .ok (.ifCond .ne 9, 3) := by decide +kernel
theorem d_Mo_step_16 : decode b_Mo_step 16 = .ok (.aload_n 0, 1) := by decide +kernel
theorem d_Mo_step_17 : decode b_Mo_step 17 = .ok (.iconst 1, 1) := by decide +kernel
theorem d_Mo_step_18 : decode b_Mo_step 18 = .ok (.invokevirtual 50, 3) := by decide +kernel
theorem d_Mo_step_21 : decode b_Mo_step 21 = .ok (.ireturn, 1) := by decide +kernel
theorem d_Mo_step_22 : decode b_Mo_step 22 = .ok (.iconst 0, 1) := by decide +kernel
theorem d_Mo_step_23 : decode b_Mo_step 23 = .ok (.istore_n 2, 1) := by decide +kernel
theorem d_Mo_step_24 : decode b_Mo_step 24 = .ok (.iload_n 2, 1) := by decide +kernel
theorem d_Mo_step_25 : decode b_Mo_step 25 = .ok (.iload_n 1, 1) := by decide +kernel
theorem d_Mo_step_26 : decode b_Mo_step 26 = .ok (.if_icmp .ge 16, 3) := by decide +kernel
theorem d_Mo_step_29 : decode b_Mo_step 29 = .ok (.aload_n 0, 1) := by decide +kernel
theorem d_Mo_step_30 : decode b_Mo_step 30 = .ok (.invokevirtual 93, 3) := by decide +kernel
theorem d_Mo_step_33 : decode b_Mo_step 33 = .ok (.ifCond .eq 9, 3) := by decide +kernel
theorem d_Mo_step_36 : decode b_Mo_step 36 = .ok (.iinc 2 1, 3) := by decide +kernel
theorem d_Mo_step_39 : decode b_Mo_step 39 = .ok (.goto (-15), 3) := by decide +kernel
theorem d_Mo_step_42 : decode b_Mo_step 42 = .ok (.iload_n 2, 1) := by decide +kernel
theorem d_Mo_step_43 : decode b_Mo_step 43 = .ok (.ireturn, 1) := by decide +kernel
theorem d_Mo_isKept_0 : decode b_Mo_isKept 0 = .ok (.iload_n 1, 1) := by decide +kernel
theorem d_Mo_isKept_1 : decode b_Mo_isKept 1 = .ok (.aload_n 0, 1) := by decide +kernel
theorem d_Mo_isKept_2 : decode b_Mo_isKept 2 = .ok (.getfield 66, 3) := by decide +kernel
theorem d_Mo_isKept_5 : decode b_Mo_isKept 5 = .ok (.aload_n 0, 1) := by decide +kernel
theorem d_Mo_isKept_6 : decode b_Mo_isKept 6 = .ok (.getfield 57, 3) := by decide +kernel
theorem d_Mo_isKept_9 : decode b_Mo_isKept 9 = .ok (.invokestatic 46, 3) := by decide +kernel
theorem d_Mo_isKept_12 : decode b_Mo_isKept 12 = .ok (.ireturn, 1) := by decide +kernel
theorem d_Mo_back_0 : decode b_Mo_back 0 = .ok (.aload_n 0, 1) := by decide +kernel
theorem d_Mo_back_1 : decode b_Mo_back 1 = .ok (.iconst 0, 1) := by decide +kernel
theorem d_Mo_back_2 : decode b_Mo_back 2 = .ok (.putfield 43, 3) := by decide +kernel
theorem d_Mo_back_5 : decode b_Mo_back 5 = .ok (.aload_n 0, 1) := by decide +kernel
theorem d_Mo_back_6 : decode b_Mo_back 6 = .ok (.iload_n 1, 1) := by decide +kernel
theorem d_Mo_back_7 : decode b_Mo_back 7 = .ok (.invokevirtual 97, 3) := by decide +kernel
theorem d_Mo_back_10 : decode b_Mo_back 10 = .ok (.ifCond .ne 9, 3) := by decide +kernel
theorem d_Mo_back_13 : decode b_Mo_back 13 = .ok (.aload_n 0, 1) := by decide +kernel
theorem d_Mo_back_14 : decode b_Mo_back 14 = .ok (.iconst 1, 1) := by decide +kernel
theorem d_Mo_back_15 : decode b_Mo_back 15 = .ok (.invokevirtual 50, 3) := by decide +kernel
theorem d_Mo_back_18 : decode b_Mo_back 18 = .ok (.ireturn, 1) := by decide +kernel
theorem d_Mo_back_19 : decode b_Mo_back 19 = .ok (.aload_n 0, 1) := by decide +kernel
theorem d_Mo_back_20 : decode b_Mo_back 20 = .ok (.getfield 57, 3) := by decide +kernel
theorem d_Mo_back_23 : decode b_Mo_back 23 = .ok (.iload_n 1, 1) := by decide +kernel
theorem d_Mo_back_24 : decode b_Mo_back 24 = .ok (.isub, 1) := by decide +kernel
theorem d_Mo_back_25 : decode b_Mo_back 25 = .ok (.istore_n 2, 1) := by decide +kernel
theorem d_Mo_back_26 : decode b_Mo_back 26 = .ok (.iconst 0, 1) := by decide +kernel
theorem d_Mo_back_27 : decode b_Mo_back 27 = .ok (.istore_n 3, 1) := by decide +kernel
theorem d_Mo_back_28 : decode b_Mo_back 28 = .ok (.iload_n 3, 1) := by decide +kernel
theorem d_Mo_back_29 : decode b_Mo_back 29 = .ok (.sipush 269, 3) := by decide +kernel
theorem d_Mo_back_32 : decode b_Mo_back 32 = .ok (.if_icmp .ge 21, 3) := by decide +kernel
theorem d_Mo_back_35 : decode b_Mo_back 35 = .ok (.aload_n 0, 1) := by decide +kernel
theorem d_Mo_back_36 : decode b_Mo_back 36 = .ok (.getfield 16, 3) := by decide +kernel
theorem d_Mo_back_39 : decode b_Mo_back 39 = .ok (.iload_n 3, 1) := by decide +kernel
theorem d_Mo_back_40 : decode b_Mo_back 40 = .ok (.aload_n 0, 1) := by decide +kernel
theorem d_Mo_back_41 : decode b_Mo_back 41 = .ok (.iload_n 1, 1) := by decide +kernel
theorem d_Mo_back_42 : decode b_Mo_back 42 = .ok (.iload_n 3, 1) := by decide +kernel
theorem d_Mo_back_43 : decode b_Mo_back 43 = .ok (.invokevirtual 101, 3) := by decide +kernel
theorem d_Mo_back_46 : decode b_Mo_back 46 = .ok (.iastore, 1) := by decide +kernel
theorem d_Mo_back_47 : decode b_Mo_back 47 = .ok (.iinc 3 1, 3) := by decide +kernel
theorem d_Mo_back_50 : decode b_Mo_back 50 = .ok (.goto (-22), 3) := by decide +kernel
theorem d_Mo_back_53 : decode b_Mo_back 53 = .ok (.aload_n 0, 1) := by decide +kernel
theorem d_Mo_back_54 : decode b_Mo_back 54 = .ok (.iload_n 1, 1) := by decide +kernel
theorem d_Mo_back_55 : decode b_Mo_back 55 = .ok (.putfield 57, 3) := by decide +kernel
theorem d_Mo_back_58 : decode b_Mo_back 58 = .ok (.iload_n 2, 1) := by decide +kernel
theorem d_Mo_back_59 : decode b_Mo_back 59 = .ok (.ireturn, 1) := by decide +kernel
theorem d_Mo_look_0 : decode b_Mo_look 0 = .ok (.aload_n 0, 1) := by decide +kernel
theorem d_Mo_look_1 : decode b_Mo_look 1 = .ok (.iconst 0, 1) := by decide +kernel
theorem d_Mo_look_2 : decode b_Mo_look 2 = .ok (.putfield 43, 3) := by decide +kernel
theorem d_Mo_look_5 : decode b_Mo_look 5 = .ok (.aload_n 0, 1) := by decide +kernel
theorem d_Mo_look_6 : decode b_Mo_look 6 = .ok (.iload_n 1, 1) := by decide +kernel
theorem d_Mo_look_7 : decode b_Mo_look 7 = .ok (.invokevirtual 97, 3) := by decide +kernel
theorem d_Mo_look_10 : decode b_Mo_look 10 = .ok (.ifCond .ne 9, 3) := by decide +kernel
theorem d_Mo_look_13 : decode b_Mo_look 13 = .ok (.aload_n 0, 1) := by decide +kernel
theorem d_Mo_look_14 : decode b_Mo_look 14 = .ok (.iconst 1, 1) := by decide +kernel
theorem d_Mo_look_15 : decode b_Mo_look 15 = .ok (.invokevirtual 50, 3) := by decide +kernel
theorem d_Mo_look_18 : decode b_Mo_look 18 = .ok (.ireturn, 1) := by decide +kernel
theorem d_Mo_look_19 : decode b_Mo_look 19 = .ok (.iload_n 2, 1) := by decide +kernel
theorem d_Mo_look_20 : decode b_Mo_look 20 = .ok (.iconst 0, 1) := by decide +kernel
theorem d_Mo_look_21 : decode b_Mo_look 21 = .ok (.sipush 268, 3) := by decide +kernel
theorem d_Mo_look_24 : decode b_Mo_look 24 = .ok (.invokestatic 46, 3) := by decide +kernel
theorem d_Mo_look_27 : decode b_Mo_look 27 = .ok (.ifCond .eq 12, 3) := by decide +kernel
theorem d_Mo_look_30 : decode b_Mo_look 30 = .ok (.aload_n 0, 1) := by decide +kernel
theorem d_Mo_look_31 : decode b_Mo_look 31 = .ok (.iload_n 1, 1) := by decide +kernel
theorem d_Mo_look_32 : decode b_Mo_look 32 = .ok (.iload_n 2, 1) := by decide +kernel
theorem d_Mo_look_33 : decode b_Mo_look 33 = .ok (.invokevirtual 101, 3) := by decide +kernel
theorem d_Mo_look_36 : decode b_Mo_look 36 = .ok (.goto 8, 3) := by decide +kernel
theorem d_Mo_look_39 : decode b_Mo_look 39 = .ok (.aload_n 0, 1) := by decide +kernel
theorem d_Mo_look_40 : decode b_Mo_look 40 = .ok (.iconst 2, 1) := by decide +kernel
theorem d_Mo_look_41 : decode b_Mo_look 41 = .ok (.invokevirtual 50, 3) := by decide +kernel
theorem d_Mo_look_44 : decode b_Mo_look 44 = .ok (.ireturn, 1) := by decide +kernel
theorem d_Mo_wrote_0 : decode b_Mo_wrote 0 = .ok (.aload_n 0, 1) := by decide +kernel
theorem d_Mo_wrote_1 : decode b_Mo_wrote 1 = .ok (.iconst 0, 1) := by decide +kernel
theorem d_Mo_wrote_2 : decode b_Mo_wrote 2 = .ok (.putfield 43, 3) := by decide +kernel
theorem d_Mo_wrote_5 : decode b_Mo_wrote 5 = .ok (.iload_n 1, 1) := by decide +kernel
theorem d_Mo_wrote_6 : decode b_Mo_wrote 6 = .ok (.iconst 0, 1) := by decide +kernel
theorem d_Mo_wrote_7 : decode b_Mo_wrote 7 = .ok (.sipush 263, 3) := by decide +kernel
theorem d_Mo_wrote_10 : decode b_Mo_wrote 10 = .ok (.invokestatic 46, 3) := by decide +kernel
theorem d_Mo_wrote_13 : decode b_Mo_wrote 13 = .ok (.ifCond .ne 9, 3) := by decide +kernel
theorem d_Mo_wrote_16 : decode b_Mo_wrote 16 = .ok (.aload_n 0, 1) := by decide +kernel
theorem d_Mo_wrote_17 : decode b_Mo_wrote 17 = .ok (.iconst 1, 1) := by decide +kernel
theorem d_Mo_wrote_18 : decode b_Mo_wrote 18 = .ok (.invokevirtual 50, 3) := by decide +kernel
theorem d_Mo_wrote_21 : decode b_Mo_wrote 21 = .ok (.ireturn, 1) := by decide +kernel
theorem d_Mo_wrote_22 : decode b_Mo_wrote 22 = .ok (.aload_n 0, 1) := by decide +kernel
theorem d_Mo_wrote_23 : decode b_Mo_wrote 23 = .ok (.getfield 57, 3) := by decide +kernel
theorem d_Mo_wrote_26 : decode b_Mo_wrote 26 = .ok (.iconst 1, 1) := by decide +kernel
theorem d_Mo_wrote_27 : decode b_Mo_wrote 27 = .ok (.isub, 1) := by decide +kernel
theorem d_Mo_wrote_28 : decode b_Mo_wrote 28 = .ok (.istore_n 2, 1) := by decide +kernel
theorem d_Mo_wrote_29 : decode b_Mo_wrote 29 = .ok (.iload_n 2, 1) := by decide +kernel
theorem d_Mo_wrote_30 : decode b_Mo_wrote 30 = .ok (.aload_n 0, 1) := by decide +kernel
theorem d_Mo_wrote_31 : decode b_Mo_wrote 31 = .ok (.getfield 66, 3) := by decide +kernel
theorem d_Mo_wrote_34 : decode b_Mo_wrote 34 = .ok (.if_icmp .lt 26, 3) := by decide +kernel
theorem d_Mo_wrote_37 : decode b_Mo_wrote 37 = .ok (.aload_n 0, 1) := by decide +kernel
theorem d_Mo_wrote_38 : decode b_Mo_wrote 38 = .ok (.getfield 29, 3) := by decide +kernel
theorem d_Mo_wrote_41 : decode b_Mo_wrote 41 = .ok (.iload_n 2, 1) := by decide +kernel
theorem d_Mo_wrote_42 : decode b_Mo_wrote 42 = .ok (.invokestatic 60, 3) := by decide +kernel
theorem d_Mo_wrote_45 : decode b_Mo_wrote 45 = .ok (.iaload, 1) := by decide +kernel
theorem d_Mo_wrote_46 : decode b_Mo_wrote 46 = .ok (.iload_n 1, 1) := by decide +kernel
theorem d_Mo_wrote_47 : decode b_Mo_wrote 47 = .ok (.if_icmp .ne 7, 3) := by decide +kernel
theorem d_Mo_wrote_50 : decode b_Mo_wrote 50 = .ok (.iload_n 2, 1) := by decide +kernel
theorem d_Mo_wrote_51 : decode b_Mo_wrote 51 = .ok (.iconst 1, 1) := by decide +kernel
theorem d_Mo_wrote_52 : decode b_Mo_wrote 52 = .ok (.iadd, 1) := by decide +kernel
theorem d_Mo_wrote_53 : decode b_Mo_wrote 53 = .ok (.ireturn, 1) := by decide +kernel
theorem d_Mo_wrote_54 : decode b_Mo_wrote 54 = .ok (.iinc 2 (-1), 3) := by decide +kernel
theorem d_Mo_wrote_57 : decode b_Mo_wrote 57 = .ok (.goto (-28), 3) := by decide +kernel
theorem d_Mo_wrote_60 : decode b_Mo_wrote 60 = .ok (.iconst (-1), 1) := by decide +kernel
theorem d_Mo_wrote_61 : decode b_Mo_wrote 61 = .ok (.ireturn, 1) := by decide +kernel
theorem d_Mo_when_0 : decode b_Mo_when 0 = .ok (.aload_n 0, 1) := by decide +kernel
theorem d_Mo_when_1 : decode b_Mo_when 1 = .ok (.iconst 0, 1) := by decide +kernel
theorem d_Mo_when_2 : decode b_Mo_when 2 = .ok (.putfield 43, 3) := by decide +kernel
theorem d_Mo_when_5 : decode b_Mo_when 5 = .ok (.aload_n 0, 1) := by decide +kernel
theorem d_Mo_when_6 : decode b_Mo_when 6 = .ok (.iload_n 1, 1) := by decide +kernel
theorem d_Mo_when_7 : decode b_Mo_when 7 = .ok (.invokevirtual 97, 3) := by decide +kernel
theorem d_Mo_when_10 : decode b_Mo_when 10 = .ok (.ifCond .ne 9, 3) := by decide +kernel
theorem d_Mo_when_13 : decode b_Mo_when 13 = .ok (.aload_n 0, 1) := by decide +kernel
theorem d_Mo_when_14 : decode b_Mo_when 14 = .ok (.iconst 1, 1) := by decide +kernel
theorem d_Mo_when_15 : decode b_Mo_when 15 = .ok (.invokevirtual 50, 3) := by decide +kernel
theorem d_Mo_when_18 : decode b_Mo_when 18 = .ok (.ireturn, 1) := by decide +kernel
theorem d_Mo_when_19 : decode b_Mo_when 19 = .ok (.iload_n 2, 1) := by decide +kernel
theorem d_Mo_when_20 : decode b_Mo_when 20 = .ok (.iconst 0, 1) := by decide +kernel
theorem d_Mo_when_21 : decode b_Mo_when 21 = .ok (.sipush 263, 3) := by decide +kernel
theorem d_Mo_when_24 : decode b_Mo_when 24 = .ok (.invokestatic 46, 3) := by decide +kernel
theorem d_Mo_when_27 : decode b_Mo_when 27 = .ok (.ifCond .ne 9, 3) := by decide +kernel
theorem d_Mo_when_30 : decode b_Mo_when 30 = .ok (.aload_n 0, 1) := by decide +kernel
theorem d_Mo_when_31 : decode b_Mo_when 31 = .ok (.iconst 2, 1) := by decide +kernel
theorem d_Mo_when_32 : decode b_Mo_when 32 = .ok (.invokevirtual 50, 3) := by decide +kernel
theorem d_Mo_when_35 : decode b_Mo_when 35 = .ok (.ireturn, 1) := by decide +kernel
theorem d_Mo_when_36 : decode b_Mo_when 36 = .ok (.iload_n 1, 1) := by decide +kernel
theorem d_Mo_when_37 : decode b_Mo_when 37 = .ok (.istore 4, 2) := by decide +kernel
theorem d_Mo_when_39 : decode b_Mo_when 39 = .ok (.iload 4, 2) := by decide +kernel
theorem d_Mo_when_41 : decode b_Mo_when 41 = .ok (.aload_n 0, 1) := by decide +kernel
theorem d_Mo_when_42 : decode b_Mo_when 42 = .ok (.getfield 66, 3) := by decide +kernel
theorem d_Mo_when_45 : decode b_Mo_when 45 = .ok (.if_icmp .lt 23, 3) := by decide +kernel
theorem d_Mo_when_48 : decode b_Mo_when 48 = .ok (.aload_n 0, 1) := by decide +kernel
theorem d_Mo_when_49 : decode b_Mo_when 49 = .ok (.iload 4, 2) := by decide +kernel
theorem d_Mo_when_51 : decode b_Mo_when 51 = .ok (.iload_n 2, 1) := by decide +kernel
theorem d_Mo_when_52 : decode b_Mo_when 52 = .ok (.invokevirtual 101, 3) := by decide +kernel
theorem d_Mo_when_55 : decode b_Mo_when 55 = .ok (.iload_n 3, 1) := by decide +kernel
theorem d_Mo_when_56 : decode b_Mo_when 56 = .ok (.if_icmp .ne 6, 3) := by decide +kernel
theorem d_Mo_when_59 : decode b_Mo_when 59 = .ok (.iload 4, 2) := by decide +kernel
theorem d_Mo_when_61 : decode b_Mo_when 61 = .ok (.ireturn, 1) := by decide +kernel
theorem d_Mo_when_62 : decode b_Mo_when 62 = .ok (.iinc 4 (-1), 3) := by decide +kernel
theorem d_Mo_when_65 : decode b_Mo_when 65 = .ok (.goto (-26), 3) := by decide +kernel
theorem d_Mo_when_68 : decode b_Mo_when 68 = .ok (.iconst (-1), 1) := by decide +kernel
theorem d_Mo_when_69 : decode b_Mo_when 69 = .ok (.ireturn, 1) := by decide +kernel
theorem d_Mo_isSame_0 : decode b_Mo_isSame 0 = .ok (.iconst 1, 1) := by decide +kernel
theorem d_Mo_isSame_1 : decode b_Mo_isSame 1 = .ok (.istore_n 2, 1) := by decide +kernel
theorem d_Mo_isSame_2 : decode b_Mo_isSame 2 = .ok (.iconst 0, 1) := by decide +kernel
theorem d_Mo_isSame_3 : decode b_Mo_isSame 3 = .ok (.istore_n 3, 1) := by decide +kernel
theorem d_Mo_isSame_4 : decode b_Mo_isSame 4 = .ok (.iload_n 3, 1) := by decide +kernel
theorem d_Mo_isSame_5 : decode b_Mo_isSame 5 = .ok (.sipush 269, 3) := by decide +kernel
theorem d_Mo_isSame_8 : decode b_Mo_isSame 8 = .ok (.if_icmp .ge 34, 3) := by decide +kernel
theorem d_Mo_isSame_11 : decode b_Mo_isSame 11 = .ok (.iload_n 2, 1) := by decide +kernel
theorem d_Mo_isSame_12 : decode b_Mo_isSame 12 = .ok (.ifCond .eq 30, 3) := by decide +kernel
theorem d_Mo_isSame_15 : decode b_Mo_isSame 15 = .ok (.aload_n 0, 1) := by decide +kernel
theorem d_Mo_isSame_16 : decode b_Mo_isSame 16 = .ok (.getfield 19, 3) := by decide +kernel
theorem d_Mo_isSame_19 : decode b_Mo_isSame 19 = .ok (.iload_n 3, 1) := by decide +kernel
theorem d_Mo_isSame_20 : decode b_Mo_isSame 20 = .ok (.iaload, 1) := by decide +kernel
theorem d_Mo_isSame_21 : decode b_Mo_isSame 21 = .ok (.aload_n 0, 1) := by decide +kernel
theorem d_Mo_isSame_22 : decode b_Mo_isSame 22 = .ok (.iload_n 1, 1) := by decide +kernel
theorem d_Mo_isSame_23 : decode b_Mo_isSame 23 = .ok (.iload_n 3, 1) := by decide +kernel
theorem d_Mo_isSame_24 : decode b_Mo_isSame 24 = .ok (.invokevirtual 101, 3) := by decide +kernel
theorem d_Mo_isSame_27 : decode b_Mo_isSame 27 = .ok (.if_icmp .ne 7, 3) := by decide +kernel
theorem d_Mo_isSame_30 : decode b_Mo_isSame 30 = .ok (.iconst 1, 1) := by decide +kernel
theorem d_Mo_isSame_31 : decode b_Mo_isSame 31 = .ok (.goto 4, 3) := by decide +kernel
theorem d_Mo_isSame_34 : decode b_Mo_isSame 34 = .ok (.iconst 0, 1) := by decide +kernel
theorem d_Mo_isSame_35 : decode b_Mo_isSame 35 = .ok (.istore_n 2, 1) := by decide +kernel
theorem d_Mo_isSame_36 : decode b_Mo_isSame 36 = .ok (.iinc 3 1, 3) := by decide +kernel
theorem d_Mo_isSame_39 : decode b_Mo_isSame 39 = .ok (.goto (-35), 3) := by decide +kernel
theorem d_Mo_isSame_42 : decode b_Mo_isSame 42 = .ok (.iload_n 2, 1) := by decide +kernel
theorem d_Mo_isSame_43 : decode b_Mo_isSame 43 = .ok (.ireturn, 1) := by decide +kernel
theorem d_Mo_replay_0 : decode b_Mo_replay 0 = .ok (.aload_n 0, 1) := by decide +kernel
theorem d_Mo_replay_1 : decode b_Mo_replay 1 = .ok (.iconst 0, 1) := by decide +kernel
theorem d_Mo_replay_2 : decode b_Mo_replay 2 = .ok (.putfield 43, 3) := by decide +kernel
theorem d_Mo_replay_5 : decode b_Mo_replay 5 = .ok (.iconst 0, 1) := by decide +kernel
theorem d_Mo_replay_6 : decode b_Mo_replay 6 = .ok (.istore_n 1, 1) := by decide +kernel
theorem d_Mo_replay_7 : decode b_Mo_replay 7 = .ok (.iload_n 1, 1) := by decide +kernel
theorem d_Mo_replay_8 : decode b_Mo_replay 8 = .ok (.sipush 269, 3) := by decide +kernel
theorem d_Mo_replay_11 : decode b_Mo_replay 11 = .ok (.if_icmp .ge 24, 3) := by decide +kernel
theorem d_Mo_replay_14 : decode b_Mo_replay 14 = .ok (.aload_n 0, 1) := by decide +kernel
theorem d_Mo_replay_15 : decode b_Mo_replay 15 = .ok (.getfield 19, 3) := by decide +kernel
theorem d_Mo_replay_18 : decode b_Mo_replay 18 = .ok (.iload_n 1, 1) := by decide +kernel
theorem d_Mo_replay_19 : decode b_Mo_replay 19 = .ok (.aload_n 0, 1) := by decide +kernel
theorem d_Mo_replay_20 : decode b_Mo_replay 20 = .ok (.aload_n 0, 1) := by decide +kernel
theorem d_Mo_replay_21 : decode b_Mo_replay 21 = .ok (.getfield 66, 3) := by decide +kernel
theorem d_Mo_replay_24 : decode b_Mo_replay 24 = .ok (.iload_n 1, 1) := by decide +kernel
theorem d_Mo_replay_25 : decode b_Mo_replay 25 = .ok (.invokevirtual 101, 3) := by decide +kernel
theorem d_Mo_replay_28 : decode b_Mo_replay 28 = .ok (.iastore, 1) := by decide +kernel
theorem d_Mo_replay_29 : decode b_Mo_replay 29 = .ok (.iinc 1 1, 3) := by decide +kernel
theorem d_Mo_replay_32 : decode b_Mo_replay 32 = .ok (.goto (-25), 3) := by decide +kernel
theorem d_Mo_replay_35 : decode b_Mo_replay 35 = .ok (.aload_n 0, 1) := by decide +kernel
theorem d_Mo_replay_36 : decode b_Mo_replay 36 = .ok (.getfield 66, 3) := by decide +kernel
theorem d_Mo_replay_39 : decode b_Mo_replay 39 = .ok (.iconst 1, 1) := by decide +kernel
theorem d_Mo_replay_40 : decode b_Mo_replay 40 = .ok (.iadd, 1) := by decide +kernel
theorem d_Mo_replay_41 : decode b_Mo_replay 41 = .ok (.istore_n 1, 1) := by decide +kernel
theorem d_Mo_replay_42 : decode b_Mo_replay 42 = .ok (.iload_n 1, 1) := by decide +kernel
theorem d_Mo_replay_43 : decode b_Mo_replay 43 = .ok (.aload_n 0, 1) := by decide +kernel
theorem d_Mo_replay_44 : decode b_Mo_replay 44 = .ok (.getfield 57, 3) := by decide +kernel
theorem d_Mo_replay_47 : decode b_Mo_replay 47 = .ok (.if_icmp .gt 49, 3) := by decide +kernel
theorem d_Mo_replay_50 : decode b_Mo_replay 50 = .ok (.aload_n 0, 1) := by decide +kernel
theorem d_Mo_replay_51 : decode b_Mo_replay 51 = .ok (.getfield 19, 3) := by decide +kernel
theorem d_Mo_replay_54 : decode b_Mo_replay 54 = .ok (.sipush 268, 3) := by decide +kernel
theorem d_Mo_replay_57 : decode b_Mo_replay 57 = .ok (.iaload, 1) := by decide +kernel
theorem d_Mo_replay_58 : decode b_Mo_replay 58 = .ok (.ifCond .gt 30, 3) := by decide +kernel
theorem d_Mo_replay_61 : decode b_Mo_replay 61 = .ok (.aload_n 0, 1) := by decide +kernel
theorem d_Mo_replay_62 : decode b_Mo_replay 62 = .ok (.aload_n 0, 1) := by decide +kernel
theorem d_Mo_replay_63 : decode b_Mo_replay 63 = .ok (.getfield 19, 3) := by decide +kernel
theorem d_Mo_replay_66 : decode b_Mo_replay 66 = .ok (.aload_n 0, 1) := by decide +kernel
theorem d_Mo_replay_67 : decode b_Mo_replay 67 = .ok (.getfield 16, 3) := by decide +kernel
theorem d_Mo_replay_70 : decode b_Mo_replay 70 = .ok (.sipush 265, 3) := by decide +kernel
theorem d_Mo_replay_73 : decode b_Mo_replay 73 = .ok (.iaload, 1) := by decide +kernel
theorem d_Mo_replay_74 : decode b_Mo_replay 74 = .ok (.invokevirtual 82, 3) := by decide +kernel
theorem d_Mo_replay_77 : decode b_Mo_replay 77 = .ok (.ifCond .eq 11, 3) := by decide +kernel
theorem d_Mo_replay_80 : decode b_Mo_replay 80 = .ok (.aload_n 0, 1) := by decide +kernel
theorem d_Mo_replay_81 : decode b_Mo_replay 81 = .ok (.iload_n 1, 1) := by decide +kernel
theorem d_Mo_replay_82 : decode b_Mo_replay 82 = .ok (.invokevirtual 104, 3) := by decide +kernel
theorem d_Mo_replay_85 : decode b_Mo_replay 85 = .ok (.ifCond .ne 5, 3) := by decide +kernel
theorem d_Mo_replay_88 : decode b_Mo_replay 88 = .ok (.iload_n 1, 1) := by decide +kernel
theorem d_Mo_replay_89 : decode b_Mo_replay 89 = .ok (.ireturn, 1) := by decide +kernel
theorem d_Mo_replay_90 : decode b_Mo_replay 90 = .ok (.iinc 1 1, 3) := by decide +kernel
theorem d_Mo_replay_93 : decode b_Mo_replay 93 = .ok (.goto (-51), 3) := by decide +kernel
theorem d_Mo_replay_96 : decode b_Mo_replay 96 = .ok (.iconst (-1), 1) := by decide +kernel
theorem d_Mo_replay_97 : decode b_Mo_replay 97 = .ok (.ireturn, 1) := by decide +kernel
theorem d_Mo_cost_0 : decode b_Mo_cost 0 = .ok (.aload_n 0, 1) := by decide +kernel
theorem d_Mo_cost_1 : decode b_Mo_cost 1 = .ok (.iconst 0, 1) := by decide +kernel
theorem d_Mo_cost_2 : decode b_Mo_cost 2 = .ok (.putfield 43, 3) := by decide +kernel
theorem d_Mo_cost_5 : decode b_Mo_cost 5 = .ok (.iload_n 1, 1) := by decide +kernel
theorem d_Mo_cost_6 : decode b_Mo_cost 6 = .ok (.aload_n 0, 1) := by decide +kernel
theorem d_Mo_cost_7 : decode b_Mo_cost 7 = .ok (.getfield 66, 3) := by decide +kernel
theorem d_Mo_cost_10 : decode b_Mo_cost 10 = .ok (.aload_n 0, 1) := by decide +kernel
theorem d_Mo_cost_11 : decode b_Mo_cost 11 = .ok (.getfield 57, 3) := by decide +kernel
theorem d_Mo_cost_14 : decode b_Mo_cost 14 = .ok (.iconst 1, 1) := by decide +kernel
theorem d_Mo_cost_15 : decode b_Mo_cost 15 = .ok (.isub, 1) := by decide +kernel
theorem d_Mo_cost_16 : decode b_Mo_cost 16 = .ok (.invokestatic 46, 3) := by decide +kernel
theorem d_Mo_cost_19 : decode b_Mo_cost 19 = .ok (.ifCond .eq 15, 3) := by decide +kernel
theorem d_Mo_cost_22 : decode b_Mo_cost 22 = .ok (.aload_n 0, 1) := by decide +kernel
theorem d_Mo_cost_23 : decode b_Mo_cost 23 = .ok (.getfield 26, 3) := by decide +kernel
theorem d_Mo_cost_26 : decode b_Mo_cost 26 = .ok (.iload_n 1, 1) := by decide +kernel
theorem d_Mo_cost_27 : decode b_Mo_cost 27 = .ok (.invokestatic 60, 3) := by decide +kernel
theorem d_Mo_cost_30 : decode b_Mo_cost 30 = .ok (.iaload, 1) := by decide +kernel
theorem d_Mo_cost_31 : decode b_Mo_cost 31 = .ok (.goto 8, 3) := by decide +kernel
theorem d_Mo_cost_34 : decode b_Mo_cost 34 = .ok (.aload_n 0, 1) := by decide +kernel
theorem d_Mo_cost_35 : decode b_Mo_cost 35 = .ok (.iconst 1, 1) := by decide +kernel
theorem d_Mo_cost_36 : decode b_Mo_cost 36 = .ok (.invokevirtual 50, 3) := by decide +kernel
theorem d_Mo_cost_39 : decode b_Mo_cost 39 = .ok (.ireturn, 1) := by decide +kernel
theorem d_Mo_waits_0 : decode b_Mo_waits 0 = .ok (.aload_n 0, 1) := by decide +kernel
theorem d_Mo_waits_1 : decode b_Mo_waits 1 = .ok (.getfield 7, 3) := by decide +kernel
theorem d_Mo_waits_4 : decode b_Mo_waits 4 = .ok (.aload_n 0, 1) := by decide +kernel
theorem d_Mo_waits_5 : decode b_Mo_waits 5 = .ok (.getfield 16, 3) := by decide +kernel
theorem d_Mo_waits_8 : decode b_Mo_waits 8 = .ok (.sipush 264, 3) := by decide +kernel
theorem d_Mo_waits_11 : decode b_Mo_waits 11 = .ok (.iaload, 1) := by decide +kernel
theorem d_Mo_waits_12 : decode b_Mo_waits 12 = .ok (.iaload, 1) := by decide +kernel
theorem d_Mo_waits_13 : decode b_Mo_waits 13 = .ok (.invokestatic 69, 3) := by decide +kernel
theorem d_Mo_waits_16 : decode b_Mo_waits 16 = .ok (.bipush 8, 2) := by decide +kernel
theorem d_Mo_waits_18 : decode b_Mo_waits 18 = .ok (.if_icmp .ne 22, 3) := by decide +kernel
theorem d_Mo_waits_21 : decode b_Mo_waits 21 = .ok (.aload_n 0, 1) := by decide +kernel
theorem d_Mo_waits_22 : decode b_Mo_waits 22 = .ok (.getfield 16, 3) := by decide +kernel
theorem d_Mo_waits_25 : decode b_Mo_waits 25 = .ok (.sipush 265, 3) := by decide +kernel
theorem d_Mo_waits_28 : decode b_Mo_waits 28 = .ok (.iaload, 1) := by decide +kernel
theorem d_Mo_waits_29 : decode b_Mo_waits 29 = .ok (.aload_n 0, 1) := by decide +kernel
theorem d_Mo_waits_30 : decode b_Mo_waits 30 = .ok (.getfield 54, 3) := by decide +kernel
theorem d_Mo_waits_33 : decode b_Mo_waits 33 = .ok (.if_icmp .ne 7, 3) := by decide +kernel
theorem d_Mo_waits_36 : decode b_Mo_waits 36 = .ok (.iconst 1, 1) := by decide +kernel
theorem d_Mo_waits_37 : decode b_Mo_waits 37 = .ok (.goto 4, 3) := by decide +kernel
theorem d_Mo_waits_40 : decode b_Mo_waits 40 = .ok (.iconst 0, 1) := by decide +kernel
theorem d_Mo_waits_41 : decode b_Mo_waits 41 = .ok (.ireturn, 1) := by decide +kernel
theorem d_Mo_count_0 : decode b_Mo_count 0 = .ok (.aload_n 0, 1) := by decide +kernel
theorem d_Mo_count_1 : decode b_Mo_count 1 = .ok (.iconst 0, 1) := by decide +kernel
theorem d_Mo_count_2 : decode b_Mo_count 2 = .ok (.putfield 43, 3) := by decide +kernel
theorem d_Mo_count_5 : decode b_Mo_count 5 = .ok (.iload_n 1, 1) := by decide +kernel
theorem d_Mo_count_6 : decode b_Mo_count 6 = .ok (.iconst 0, 1) := by decide +kernel
theorem d_Mo_count_7 : decode b_Mo_count 7 = .ok (.bipush 6, 2) := by decide +kernel
theorem d_Mo_count_9 : decode b_Mo_count 9 = .ok (.invokestatic 46, 3) := by decide +kernel
theorem d_Mo_count_12 : decode b_Mo_count 12 = .ok (.ifCond .ne 5, 3) := by decide +kernel
theorem d_Mo_count_15 : decode b_Mo_count 15 = .ok (.iconst (-1), 1) := by decide +kernel
theorem d_Mo_count_16 : decode b_Mo_count 16 = .ok (.ireturn, 1) := by decide +kernel
theorem d_Mo_count_17 : decode b_Mo_count 17 = .ok (.iload_n 1, 1) := by decide +kernel
theorem d_Mo_count_18 : decode b_Mo_count 18 = .ok (.iconst 3, 1) := by decide +kernel
theorem d_Mo_count_19 : decode b_Mo_count 19 = .ok (.if_icmp .ge 31, 3) := by decide +kernel
theorem d_Mo_count_22 : decode b_Mo_count 22 = .ok (.iload_n 1, 1) := by decide +kernel
theorem d_Mo_count_23 : decode b_Mo_count 23 = .ok (.ifCond .ne 10, 3) := by decide +kernel
theorem d_Mo_count_26 : decode b_Mo_count 26 = .ok (.aload_n 0, 1) := by decide +kernel
theorem d_Mo_count_27 : decode b_Mo_count 27 = .ok (.getfield 57, 3) := by decide +kernel
theorem d_Mo_count_30 : decode b_Mo_count 30 = .ok (.goto 19, 3) := by decide +kernel
theorem d_Mo_count_33 : decode b_Mo_count 33 = .ok (.iload_n 1, 1) := by decide +kernel
theorem d_Mo_count_34 : decode b_Mo_count 34 = .ok (.iconst 1, 1) := by decide +kernel
theorem d_Mo_count_35 : decode b_Mo_count 35 = .ok (.if_icmp .ne 10, 3) := by decide +kernel
theorem d_Mo_count_38 : decode b_Mo_count 38 = .ok (.aload_n 0, 1) := by decide +kernel
theorem d_Mo_count_39 : decode b_Mo_count 39 = .ok (.getfield 66, 3) := by decide +kernel
theorem d_Mo_count_42 : decode b_Mo_count 42 = .ok (.goto 7, 3) := by decide +kernel
theorem d_Mo_count_45 : decode b_Mo_count 45 = .ok (.aload_n 0, 1) := by decide +kernel
theorem d_Mo_count_46 : decode b_Mo_count 46 = .ok (.invokevirtual 90, 3) := by decide +kernel
theorem d_Mo_count_49 : decode b_Mo_count 49 = .ok (.ireturn, 1) := by decide +kernel
theorem d_Mo_count_50 : decode b_Mo_count 50 = .ok (.iload_n 1, 1) := by decide +kernel
theorem d_Mo_count_51 : decode b_Mo_count 51 = .ok (.iconst 5, 1) := by decide +kernel
theorem d_Mo_count_52 : decode b_Mo_count 52 = .ok (.if_icmp .ge 20, 3) := by decide +kernel
theorem d_Mo_count_55 : decode b_Mo_count 55 = .ok (.iload_n 1, 1) := by decide +kernel
theorem d_Mo_count_56 : decode b_Mo_count 56 = .ok (.iconst 3, 1) := by decide +kernel
theorem d_Mo_count_57 : decode b_Mo_count 57 = .ok (.if_icmp .ne 10, 3) := by decide +kernel
theorem d_Mo_count_60 : decode b_Mo_count 60 = .ok (.aload_n 0, 1) := by decide +kernel
theorem d_Mo_count_61 : decode b_Mo_count 61 = .ok (.getfield 63, 3) := by decide +kernel
theorem d_Mo_count_64 : decode b_Mo_count 64 = .ok (.goto 7, 3) := by decide +kernel
theorem d_Mo_count_67 : decode b_Mo_count 67 = .ok (.aload_n 0, 1) := by decide +kernel
theorem d_Mo_count_68 : decode b_Mo_count 68 = .ok (.getfield 54, 3) := by decide +kernel
theorem d_Mo_count_71 : decode b_Mo_count 71 = .ok (.ireturn, 1) := by decide +kernel
theorem d_Mo_count_72 : decode b_Mo_count 72 = .ok (.iload_n 1, 1) := by decide +kernel
theorem d_Mo_count_73 : decode b_Mo_count 73 = .ok (.bipush 6, 2) := by decide +kernel
theorem d_Mo_count_75 : decode b_Mo_count 75 = .ok (.if_icmp .ne 38, 3) := by decide +kernel
theorem d_Mo_count_78 : decode b_Mo_count 78 = .ok (.aload_n 0, 1) := by decide +kernel
theorem d_Mo_count_79 : decode b_Mo_count 79 = .ok (.getfield 16, 3) := by decide +kernel
theorem d_Mo_count_82 : decode b_Mo_count 82 = .ok (.sipush 268, 3) := by decide +kernel
theorem d_Mo_count_85 : decode b_Mo_count 85 = .ok (.iaload, 1) := by decide +kernel
theorem d_Mo_count_86 : decode b_Mo_count 86 = .ok (.ifCond .le 14, 3) := by decide +kernel
theorem d_Mo_count_89 : decode b_Mo_count 89 = .ok (.aload_n 0, 1) := by decide +kernel
theorem d_Mo_count_90 : decode b_Mo_count 90 = .ok (.getfield 16, 3) := by decide +kernel
theorem d_Mo_count_93 : decode b_Mo_count 93 = .ok (.sipush 268, 3) := by decide +kernel
theorem d_Mo_count_96 : decode b_Mo_count 96 = .ok (.iaload, 1) := by decide +kernel
theorem d_Mo_count_97 : decode b_Mo_count 97 = .ok (.goto 15, 3) := by decide +kernel
theorem d_Mo_count_100 : decode b_Mo_count 100 = .ok (.aload_n 0, 1) := by decide +kernel
theorem d_Mo_count_101 : decode b_Mo_count 101 = .ok (.invokevirtual 107, 3) := by decide +kernel
theorem d_Mo_count_104 : decode b_Mo_count 104 = .ok (.ifCond .eq 7, 3) := by decide +kernel
theorem d_Mo_count_107 : decode b_Mo_count 107 = .ok (.iconst 3, 1) := by decide +kernel
theorem d_Mo_count_108 : decode b_Mo_count 108 = .ok (.goto 4, 3) := by decide +kernel
theorem d_Mo_count_111 : decode b_Mo_count 111 = .ok (.iconst 0, 1) := by decide +kernel
theorem d_Mo_count_112 : decode b_Mo_count 112 = .ok (.ireturn, 1) := by decide +kernel
theorem d_Mo_count_113 : decode b_Mo_count 113 = .ok (.iconst 0, 1) := by decide +kernel
theorem d_Mo_count_114 : decode b_Mo_count 114 = .ok (.istore_n 2, 1) := by decide +kernel
theorem d_Mo_count_115 : decode b_Mo_count 115 = .ok (.aload_n 0, 1) := by decide +kernel
theorem d_Mo_count_116 : decode b_Mo_count 116 = .ok (.getfield 66, 3) := by decide +kernel
theorem d_Mo_count_119 : decode b_Mo_count 119 = .ok (.istore_n 3, 1) := by decide +kernel
theorem d_Mo_count_120 : decode b_Mo_count 120 = .ok (.iload_n 3, 1) := by decide +kernel
theorem d_Mo_count_121 : decode b_Mo_count 121 = .ok (.aload_n 0, 1) := by decide +kernel
theorem d_Mo_count_122 : decode b_Mo_count 122 = .ok (.getfield 57, 3) := by decide +kernel
theorem d_Mo_count_125 : decode b_Mo_count 125 = .ok (.if_icmp .gt 26, 3) := by decide +kernel
theorem d_Mo_count_128 : decode b_Mo_count 128 = .ok (.iload_n 2, 1) := by decide +kernel
theorem d_Mo_count_129 : decode b_Mo_count 129 = .ok (.iload_n 3, 1) := by decide +kernel
theorem d_Mo_count_130 : decode b_Mo_count 130 = .ok (.aload_n 0, 1) := by decide +kernel
theorem d_Mo_count_131 : decode b_Mo_count 131 = .ok (.getfield 40, 3) := by decide +kernel
theorem d_Mo_count_134 : decode b_Mo_count 134 = .ok (.irem, 1) := by decide +kernel
theorem d_Mo_count_135 : decode b_Mo_count 135 = .ok (.ifCond .ne 7, 3) := by decide +kernel
theorem d_Mo_count_138 : decode b_Mo_count 138 = .ok (.iconst 1, 1) := by decide +kernel
theorem d_Mo_count_139 : decode b_Mo_count 139 = .ok (.goto 4, 3) := by decide +kernel
theorem d_Mo_count_142 : decode b_Mo_count 142 = .ok (.iconst 0, 1) := by decide +kernel
theorem d_Mo_count_143 : decode b_Mo_count 143 = .ok (.iadd, 1) := by decide +kernel
theorem d_Mo_count_144 : decode b_Mo_count 144 = .ok (.istore_n 2, 1) := by decide +kernel
theorem d_Mo_count_145 : decode b_Mo_count 145 = .ok (.iinc 3 1, 3) := by decide +kernel
theorem d_Mo_count_148 : decode b_Mo_count 148 = .ok (.goto (-28), 3) := by decide +kernel
theorem d_Mo_count_151 : decode b_Mo_count 151 = .ok (.iload_n 2, 1) := by decide +kernel
theorem d_Mo_count_152 : decode b_Mo_count 152 = .ok (.ireturn, 1) := by decide +kernel
