theorem d_BS_init_0 : decode b_BS_init 0 = .ok (.aload_n 0, 1) := by decide +kernel
theorem d_BS_init_1 : decode b_BS_init 1 = .ok (.invokespecial 3, 3) := by decide +kernel
theorem d_BS_init_4 : decode b_BS_init 4 = .ok (.aload_n 0, 1) := by decide +kernel
theorem d_BS_init_5 : decode b_BS_init 5 = .ok (.bipush 64, 2) := by decide +kernel
theorem d_BS_init_7 : decode b_BS_init 7 = .ok (.newarray .int, 2) := by decide +kernel
theorem d_BS_init_9 : decode b_BS_init 9 = .ok (.putfield 9, 3) := by decide +kernel
theorem d_BS_init_12 : decode b_BS_init 12 = .ok (.aload_n 0, 1) := by decide +kernel
theorem d_BS_init_13 : decode b_BS_init 13 = .ok (.sipush 200, 3) := by decide +kernel
theorem d_BS_init_16 : decode b_BS_init 16 = .ok (.newarray .int, 2) := by decide +kernel
theorem d_BS_init_18 : decode b_BS_init 18 = .ok (.putfield 13, 3) := by decide +kernel
theorem d_BS_init_21 : decode b_BS_init 21 = .ok (.aload_n 0, 1) := by decide +kernel
theorem d_BS_init_22 : decode b_BS_init 22 = .ok (.new 16, 3) := by decide +kernel
theorem d_BS_init_25 : decode b_BS_init 25 = .ok (.dup, 1) := by decide +kernel
theorem d_BS_init_26 : decode b_BS_init 26 = .ok (.invokespecial 18, 3) := by decide +kernel
theorem d_BS_init_29 : decode b_BS_init 29 = .ok (.putfield 19, 3) := by decide +kernel
theorem d_BS_init_32 : decode b_BS_init 32 = .ok (.aload_n 0, 1) := by decide +kernel
theorem d_BS_init_33 : decode b_BS_init 33 = .ok (.new 16, 3) := by decide +kernel
theorem d_BS_init_36 : decode b_BS_init 36 = .ok (.dup, 1) := by decide +kernel
theorem d_BS_init_37 : decode b_BS_init 37 = .ok (.invokespecial 18, 3) := by decide +kernel
theorem d_BS_init_40 : decode b_BS_init 40 = .ok (.putfield 23, 3) := by decide +kernel
theorem d_BS_init_43 : decode b_BS_init 43 = .ok (.aload_n 0, 1) := by decide +kernel
theorem d_BS_init_44 : decode b_BS_init 44 = .ok (.new 26, 3) := by decide +kernel
theorem d_BS_init_47 : decode b_BS_init 47 = .ok (.dup, 1) := by decide +kernel
theorem d_BS_init_48 : decode b_BS_init 48 = .ok (.iconst 4, 1) := by decide +kernel
theorem d_BS_init_49 : decode b_BS_init 49 = .ok (.iload_n 1, 1) := by decide +kernel
theorem d_BS_init_50 : decode b_BS_init 50 = .ok (.sipush 1021, 3) := by decide +kernel
theorem d_BS_init_53 : decode b_BS_init 53 = .ok (.invokestatic 28, 3) := by decide +kernel
theorem d_BS_init_56 : decode b_BS_init 56 = .ok (.iadd, 1) := by decide +kernel
theorem d_BS_init_57 : decode b_BS_init 57 = .ok (.invokespecial 34, 3) := by decide +kernel
theorem d_BS_init_60 : decode b_BS_init 60 = .ok (.putfield 37, 3) := by decide +kernel
theorem d_BS_init_63 : decode b_BS_init 63 = .ok (.aload_n 0, 1) := by decide +kernel
theorem d_BS_init_64 : decode b_BS_init 64 = .ok (.iconst 1, 1) := by decide +kernel
theorem d_BS_init_65 : decode b_BS_init 65 = .ok (.iload_n 2, 1) := by decide +kernel
theorem d_BS_init_66 : decode b_BS_init 66 = .ok (.bipush 64, 2) := by decide +kernel
theorem d_BS_init_68 : decode b_BS_init 68 = .ok (.invokestatic 28, 3) := by decide +kernel
theorem d_BS_init_71 : decode b_BS_init 71 = .ok (.iadd, 1) := by decide +kernel
theorem d_BS_init_72 : decode b_BS_init 72 = .ok (.putfield 41, 3) := by decide +kernel
theorem d_BS_init_75 : decode b_BS_init 75 = .ok (.return_, 1) := by decide +kernel
theorem d_BS_program_0 : decode b_BS_program 0 = .ok (.iload_n 1, 1) := by decide +kernel
theorem d_BS_program_1 : decode b_BS_program 1 = .ok (.ifCond .lt 9, 3) := by decide +kernel
theorem d_BS_program_4 : decode b_BS_program 4 = .ok (.iload_n 1, 1) := by decide +kernel
theorem d_BS_program_5 : decode b_BS_program 5 = .ok (.bipush 64, 2) := by decide +kernel
theorem d_BS_program_7 : decode b_BS_program 7 = .ok (.if_icmp .lt 13, 3) := by decide +kernel
theorem d_BS_program_10 : decode b_BS_program 10 = .ok (.new 45, 3) := by decide +kernel
theorem d_BS_program_13 : decode b_BS_program 13 = .ok (.dup, 1) := by decide +kernel
theorem d_BS_program_14 : decode b_BS_program 14 = .ok (.ldc 47, 2) := by decide +kernel
theorem d_BS_program_16 : decode b_BS_program 16 = .ok (.invokespecial 49, 3) := by decide +kernel
theorem d_BS_program_19 : decode b_BS_program 19 = .ok (.athrow, 1) := by decide +kernel
theorem d_BS_program_20 : decode b_BS_program 20 = .ok (.aload_n 0, 1) := by decide +kernel
theorem d_BS_program_21 : decode b_BS_program 21 = .ok (.getfield 9, 3) := by decide +kernel
theorem d_BS_program_24 : decode b_BS_program 24 = .ok (.iload_n 1, 1) := by decide +kernel
theorem d_BS_program_25 : decode b_BS_program 25 = .ok (.iaload, 1) := by decide +kernel
theorem d_BS_program_26 : decode b_BS_program 26 = .ok (.istore_n 3, 1) := by decide +kernel
theorem d_BS_program_27 : decode b_BS_program 27 = .ok (.aload_n 0, 1) := by decide +kernel
theorem d_BS_program_28 : decode b_BS_program 28 = .ok (.getfield 9, 3) := by decide +kernel
theorem d_BS_program_31 : decode b_BS_program 31 = .ok (.iload_n 1, 1) := by decide +kernel
theorem d_BS_program_32 : decode b_BS_program 32 = .ok (.iload_n 2, 1) := by decide +kernel
theorem d_BS_program_33 : decode b_BS_program 33 = .ok (.iastore, 1) := by decide +kernel
theorem d_BS_program_34 : decode b_BS_program 34 = .ok (.iload_n 3, 1) := by decide +kernel
theorem d_BS_program_35 : decode b_BS_program 35 = .ok (.ireturn, 1) := by decide +kernel
theorem d_BS_input_0 : decode b_BS_input 0 = .ok (.aload_n 0, 1) := by decide +kernel
theorem d_BS_input_1 : decode b_BS_input 1 = .ok (.getfield 52, 3) := by decide +kernel
theorem d_BS_input_4 : decode b_BS_input 4 = .ok (.sipush 200, 3) := by decide +kernel
theorem d_BS_input_7 : decode b_BS_input 7 = .ok (.if_icmp .lt 13, 3) := by decide +kernel
theorem d_BS_input_10 : decode b_BS_input 10 = .ok (.new 55, 3) := by decide +kernel
theorem d_BS_input_13 : decode b_BS_input 13 = .ok (.dup, 1) := by decide +kernel
theorem d_BS_input_14 : decode b_BS_input 14 = .ok (.ldc 57, 2) := by decide +kernel
theorem d_BS_input_16 : decode b_BS_input 16 = .ok (.invokespecial 59, 3) := by decide +kernel
theorem d_BS_input_19 : decode b_BS_input 19 = .ok (.athrow, 1) := by decide +kernel
theorem d_BS_input_20 : decode b_BS_input 20 = .ok (.aload_n 0, 1) := by decide +kernel
theorem d_BS_input_21 : decode b_BS_input 21 = .ok (.getfield 13, 3) := by decide +kernel
theorem d_BS_input_24 : decode b_BS_input 24 = .ok (.aload_n 0, 1) := by decide +kernel
theorem d_BS_input_25 : decode b_BS_input 25 = .ok (.getfield 52, 3) := by decide +kernel
theorem d_BS_input_28 : decode b_BS_input 28 = .ok (.iload_n 1, 1) := by decide +kernel
theorem d_BS_input_29 : decode b_BS_input 29 = .ok (.iastore, 1) := by decide +kernel
theorem d_BS_input_30 : decode b_BS_input 30 = .ok (.aload_n 0, 1) := by decide +kernel
theorem d_BS_input_31 : decode b_BS_input 31 = .ok (.dup, 1) := by decide +kernel
theorem d_BS_input_32 : decode b_BS_input 32 = .ok (.getfield 52, 3) := by decide +kernel
theorem d_BS_input_35 : decode b_BS_input 35 = .ok (.iconst 1, 1) := by decide +kernel
theorem d_BS_input_36 : decode b_BS_input 36 = .ok (.iadd, 1) := by decide +kernel
theorem d_BS_input_37 : decode b_BS_input 37 = .ok (.putfield 52, 3) := by decide +kernel
theorem d_BS_input_40 : decode b_BS_input 40 = .ok (.aload_n 0, 1) := by decide +kernel
theorem d_BS_input_41 : decode b_BS_input 41 = .ok (.getfield 52, 3) := by decide +kernel
theorem d_BS_input_44 : decode b_BS_input 44 = .ok (.aload_n 0, 1) := by decide +kernel
theorem d_BS_input_45 : decode b_BS_input 45 = .ok (.getfield 19, 3) := by decide +kernel
theorem d_BS_input_48 : decode b_BS_input 48 = .ok (.getfield 60, 3) := by decide +kernel
theorem d_BS_input_51 : decode b_BS_input 51 = .ok (.isub, 1) := by decide +kernel
theorem d_BS_input_52 : decode b_BS_input 52 = .ok (.ireturn, 1) := by decide +kernel
theorem d_BS_poke_0 : decode b_BS_poke 0 = .ok (.aload_n 0, 1) := by decide +kernel
theorem d_BS_poke_1 : decode b_BS_poke 1 = .ok (.iload_n 1, 1) := by decide +kernel
theorem d_BS_poke_2 : decode b_BS_poke 2 = .ok (.invokevirtual 63, 3) := by decide +kernel
theorem d_BS_poke_5 : decode b_BS_poke 5 = .ok (.aload_n 0, 1) := by decide +kernel
theorem d_BS_poke_6 : decode b_BS_poke 6 = .ok (.getfield 19, 3) := by decide +kernel
theorem d_BS_poke_9 : decode b_BS_poke 9 = .ok (.getfield 66, 3) := by decide +kernel
theorem d_BS_poke_12 : decode b_BS_poke 12 = .ok (.iload_n 1, 1) := by decide +kernel
theorem d_BS_poke_13 : decode b_BS_poke 13 = .ok (.iaload, 1) := by decide +kernel
theorem d_BS_poke_14 : decode b_BS_poke 14 = .ok (.istore_n 3, 1) := by decide +kernel
theorem d_BS_poke_15 : decode b_BS_poke 15 = .ok (.aload_n 0, 1) := by decide +kernel
theorem d_BS_poke_16 : decode b_BS_poke 16 = .ok (.getfield 19, 3) := by decide +kernel
theorem d_BS_poke_19 : decode b_BS_poke 19 = .ok (.getfield 66, 3) := by decide +kernel
theorem d_BS_poke_22 : decode b_BS_poke 22 = .ok (.iload_n 1, 1) := by decide +kernel
theorem d_BS_poke_23 : decode b_BS_poke 23 = .ok (.iload_n 2, 1) := by decide +kernel
theorem d_BS_poke_24 : decode b_BS_poke 24 = .ok (.iastore, 1) := by decide +kernel
theorem d_BS_poke_25 : decode b_BS_poke 25 = .ok (.aload_n 0, 1) := by decide +kernel
theorem d_BS_poke_26 : decode b_BS_poke 26 = .ok (.getfield 37, 3) := by decide +kernel
theorem d_BS_poke_29 : decode b_BS_poke 29 = .ok (.invokevirtual 69, 3) := by decide +kernel
theorem d_BS_poke_32 : decode b_BS_poke 32 = .ok (.iload_n 3, 1) := by decide +kernel
theorem d_BS_poke_33 : decode b_BS_poke 33 = .ok (.ireturn, 1) := by decide +kernel
theorem d_BS_step_0 : decode b_BS_step 0 = .ok (.iload_n 1, 1) := by decide +kernel
theorem d_BS_step_1 : decode b_BS_step 1 = .ok (.iconst 1, 1) := by decide +kernel
theorem d_BS_step_2 : decode b_BS_step 2 = .ok (.if_icmp .lt 10, 3) := by decide +kernel
theorem d_BS_step_5 : decode b_BS_step 5 = .ok (.iload_n 1, 1) := by decide +kernel
theorem d_BS_step_6 : decode b_BS_step 6 = .ok (.sipush 2000, 3) := by decide +kernel
theorem d_BS_step_9 : decode b_BS_step 9 = .ok (.if_icmp .le 13, 3) := by decide +kernel
theorem d_BS_step_12 : decode b_BS_step 12 = .ok (.new 72, 3) := by decide +kernel
theorem d_BS_step_15 : decode b_BS_step 15 = .ok (.dup, 1) := by decide +kernel
theorem d_BS_step_16 : decode b_BS_step 16 = .ok (.ldc 74, 2) := by decide +kernel
theorem d_BS_step_18 : decode b_BS_step 18 = .ok (.invokespecial 76, 3) := by decide +kernel
theorem d_BS_step_21 : decode b_BS_step 21 = .ok (.athrow, 1) := by decide +kernel
theorem d_BS_step_22 : decode b_BS_step 22 = .ok (.iconst 0, 1) := by decide +kernel
theorem d_BS_step_23 : decode b_BS_step 23 = .ok (.istore_n 2, 1) := by decide +kernel
theorem d_BS_step_24 : decode b_BS_step 24 = .ok (.iload_n 2, 1) := by decide +kernel
theorem d_BS_step_25 : decode b_BS_step 25 = .ok (.iload_n 1, 1) := by decide +kernel
theorem d_BS_step_26 : decode b_BS_step 26 = .ok (.if_icmp .ge 42, 3) := by decide +kernel
theorem d_BS_step_29 : decode b_BS_step 29 = .ok (.aload_n 0, 1) := by decide +kernel
theorem d_BS_step_30 : decode b_BS_step 30 = .ok (.getfield 19, 3) := by decide +kernel
theorem d_BS_step_33 : decode b_BS_step 33 = .ok (.aload_n 0, 1) := by decide +kernel
theorem d_BS_step_34 : decode b_BS_step 34 = .ok (.getfield 9, 3) := by decide +kernel
theorem d_BS_step_37 : decode b_BS_step 37 = .ok (.aload_n 0, 1) := by decide +kernel
theorem d_BS_step_38 : decode b_BS_step 38 = .ok (.getfield 13, 3) := by decide +kernel
theorem d_BS_step_41 : decode b_BS_step 41 = .ok (.aload_n 0, 1) := by decide +kernel
theorem d_BS_step_42 : decode b_BS_step 42 = .ok (.getfield 52, 3) := by decide +kernel
theorem d_BS_step_45 : decode b_BS_step 45 = .ok (.invokevirtual 77, 3) := by decide +kernel
theorem d_BS_step_48 : decode b_BS_step 48 = .ok (.ifCond .eq 20, 3) := by decide +kernel
theorem d_BS_step_51 : decode b_BS_step 51 = .ok (.aload_n 0, 1) := by decide +kernel
theorem d_BS_step_52 : decode b_BS_step 52 = .ok (.getfield 37, 3) := by decide +kernel
theorem d_BS_step_55 : decode b_BS_step 55 = .ok (.aload_n 0, 1) := by decide +kernel
theorem d_BS_step_56 : decode b_BS_step 56 = .ok (.getfield 19, 3) := by decide +kernel
theorem d_BS_step_59 : decode b_BS_step 59 = .ok (.invokevirtual 81, 3) := by decide +kernel
theorem d_BS_step_62 : decode b_BS_step 62 = .ok (.iinc 2 1, 3) := by decide +kernel
theorem d_BS_step_65 : decode b_BS_step 65 = .ok (.goto (-41), 3) := by decide +kernel
theorem d_BS_step_68 : decode b_BS_step 68 = .ok (.iload_n 2, 1) := by decide +kernel
theorem d_BS_step_69 : decode b_BS_step 69 = .ok (.ireturn, 1) := by decide +kernel
theorem d_BS_back_0 : decode b_BS_back 0 = .ok (.aload_n 0, 1) := by decide +kernel
theorem d_BS_back_1 : decode b_BS_back 1 = .ok (.iload_n 1, 1) := by decide +kernel
theorem d_BS_back_2 : decode b_BS_back 2 = .ok (.invokevirtual 85, 3) := by decide +kernel
theorem d_BS_back_5 : decode b_BS_back 5 = .ok (.aload_n 0, 1) := by decide +kernel
theorem d_BS_back_6 : decode b_BS_back 6 = .ok (.getfield 37, 3) := by decide +kernel
theorem d_BS_back_9 : decode b_BS_back 9 = .ok (.getfield 88, 3) := by decide +kernel
theorem d_BS_back_12 : decode b_BS_back 12 = .ok (.iload_n 1, 1) := by decide +kernel
theorem d_BS_back_13 : decode b_BS_back 13 = .ok (.isub, 1) := by decide +kernel
theorem d_BS_back_14 : decode b_BS_back 14 = .ok (.istore_n 2, 1) := by decide +kernel
theorem d_BS_back_15 : decode b_BS_back 15 = .ok (.aload_n 0, 1) := by decide +kernel
theorem d_BS_back_16 : decode b_BS_back 16 = .ok (.getfield 37, 3) := by decide +kernel
theorem d_BS_back_19 : decode b_BS_back 19 = .ok (.iload_n 1, 1) := by decide +kernel
theorem d_BS_back_20 : decode b_BS_back 20 = .ok (.aload_n 0, 1) := by decide +kernel
theorem d_BS_back_21 : decode b_BS_back 21 = .ok (.getfield 19, 3) := by decide +kernel
theorem d_BS_back_24 : decode b_BS_back 24 = .ok (.invokevirtual 91, 3) := by decide +kernel
theorem d_BS_back_27 : decode b_BS_back 27 = .ok (.aload_n 0, 1) := by decide +kernel
theorem d_BS_back_28 : decode b_BS_back 28 = .ok (.getfield 37, 3) := by decide +kernel
theorem d_BS_back_31 : decode b_BS_back 31 = .ok (.iload_n 1, 1) := by decide +kernel
theorem d_BS_back_32 : decode b_BS_back 32 = .ok (.invokevirtual 95, 3) := by decide +kernel
theorem d_BS_back_35 : decode b_BS_back 35 = .ok (.iload_n 2, 1) := by decide +kernel
theorem d_BS_back_36 : decode b_BS_back 36 = .ok (.ireturn, 1) := by decide +kernel
theorem d_BS_look_0 : decode b_BS_look 0 = .ok (.aload_n 0, 1) := by decide +kernel
theorem d_BS_look_1 : decode b_BS_look 1 = .ok (.iload_n 1, 1) := by decide +kernel
theorem d_BS_look_2 : decode b_BS_look 2 = .ok (.invokevirtual 85, 3) := by decide +kernel
theorem d_BS_look_5 : decode b_BS_look 5 = .ok (.iload_n 2, 1) := by decide +kernel
theorem d_BS_look_6 : decode b_BS_look 6 = .ok (.ifCond .lt 10, 3) := by decide +kernel
theorem d_BS_look_9 : decode b_BS_look 9 = .ok (.iload_n 2, 1) := by decide +kernel
theorem d_BS_look_10 : decode b_BS_look 10 = .ok (.sipush 268, 3) := by decide +kernel
theorem d_BS_look_13 : decode b_BS_look 13 = .ok (.if_icmp .le 13, 3) := by decide +kernel
theorem d_BS_look_16 : decode b_BS_look 16 = .ok (.new 45, 3) := by decide +kernel
theorem d_BS_look_19 : decode b_BS_look 19 = .ok (.dup, 1) := by decide +kernel
theorem d_BS_look_20 : decode b_BS_look 20 = .ok (.ldc 98, 2) := by decide +kernel
theorem d_BS_look_22 : decode b_BS_look 22 = .ok (.invokespecial 49, 3) := by decide +kernel
theorem d_BS_look_25 : decode b_BS_look 25 = .ok (.athrow, 1) := by decide +kernel
theorem d_BS_look_26 : decode b_BS_look 26 = .ok (.iload_n 2, 1) := by decide +kernel
theorem d_BS_look_27 : decode b_BS_look 27 = .ok (.sipush 264, 3) := by decide +kernel
theorem d_BS_look_30 : decode b_BS_look 30 = .ok (.if_icmp .ge 12, 3) := by decide +kernel
theorem d_BS_look_33 : decode b_BS_look 33 = .ok (.aload_n 0, 1) := by decide +kernel
theorem d_BS_look_34 : decode b_BS_look 34 = .ok (.iload_n 1, 1) := by decide +kernel
theorem d_BS_look_35 : decode b_BS_look 35 = .ok (.iload_n 2, 1) := by decide +kernel
theorem d_BS_look_36 : decode b_BS_look 36 = .ok (.invokevirtual 100, 3) := by decide +kernel
theorem d_BS_look_39 : decode b_BS_look 39 = .ok (.goto 9, 3) := by decide +kernel
theorem d_BS_look_42 : decode b_BS_look 42 = .ok (.aload_n 0, 1) := by decide +kernel
theorem d_BS_look_43 : decode b_BS_look 43 = .ok (.iload_n 1, 1) := by decide +kernel
theorem d_BS_look_44 : decode b_BS_look 44 = .ok (.iload_n 2, 1) := by decide +kernel
theorem d_BS_look_45 : decode b_BS_look 45 = .ok (.invokevirtual 103, 3) := by decide +kernel
theorem d_BS_look_48 : decode b_BS_look 48 = .ok (.ireturn, 1) := by decide +kernel
theorem d_BS_wrote_0 : decode b_BS_wrote 0 = .ok (.aload_n 0, 1) := by decide +kernel
theorem d_BS_wrote_1 : decode b_BS_wrote 1 = .ok (.iload_n 1, 1) := by decide +kernel
theorem d_BS_wrote_2 : decode b_BS_wrote 2 = .ok (.invokevirtual 63, 3) := by decide +kernel
theorem d_BS_wrote_5 : decode b_BS_wrote 5 = .ok (.aload_n 0, 1) := by decide +kernel
theorem d_BS_wrote_6 : decode b_BS_wrote 6 = .ok (.getfield 37, 3) := by decide +kernel
theorem d_BS_wrote_9 : decode b_BS_wrote 9 = .ok (.getfield 88, 3) := by decide +kernel
theorem d_BS_wrote_12 : decode b_BS_wrote 12 = .ok (.istore_n 2, 1) := by decide +kernel
theorem d_BS_wrote_13 : decode b_BS_wrote 13 = .ok (.iload_n 2, 1) := by decide +kernel
theorem d_BS_wrote_14 : decode b_BS_wrote 14 = .ok (.aload_n 0, 1) := by decide +kernel
theorem d_BS_wrote_15 : decode b_BS_wrote 15 = .ok (.getfield 37, 3) := by decide +kernel
theorem d_BS_wrote_18 : decode b_BS_wrote 18 = .ok (.getfield 106, 3) := by decide +kernel
theorem d_BS_wrote_21 : decode b_BS_wrote 21 = .ok (.if_icmp .le 25, 3) := by decide +kernel
theorem d_BS_wrote_24 : decode b_BS_wrote 24 = .ok (.aload_n 0, 1) := by decide +kernel
theorem d_BS_wrote_25 : decode b_BS_wrote 25 = .ok (.getfield 37, 3) := by decide +kernel
theorem d_BS_wrote_28 : decode b_BS_wrote 28 = .ok (.iload_n 2, 1) := by decide +kernel
theorem d_BS_wrote_29 : decode b_BS_wrote 29 = .ok (.iconst 1, 1) := by decide +kernel
theorem d_BS_wrote_30 : decode b_BS_wrote 30 = .ok (.isub, 1) := by decide +kernel
theorem d_BS_wrote_31 : decode b_BS_wrote 31 = .ok (.invokevirtual 109, 3) := by decide +kernel
theorem d_BS_wrote_34 : decode b_BS_wrote 34 = .ok (.iload_n 1, 1) := by decide +kernel
theorem d_BS_wrote_35 : decode b_BS_wrote 35 = .ok (.if_icmp .ne 5, 3) := by decide +kernel
theorem d_BS_wrote_38 : decode b_BS_wrote 38 = .ok (.iload_n 2, 1) := by decide +kernel
theorem d_BS_wrote_39 : decode b_BS_wrote 39 = .ok (.ireturn, 1) := by decide +kernel
theorem d_BS_wrote_40 : decode b_BS_wrote 40 = .ok (.iinc 2 (-1), 3) := by decide +kernel
theorem d_BS_wrote_43 : decode b_BS_wrote 43 = .ok (.goto (-30), 3) := by decide +kernel
theorem d_BS_wrote_46 : decode b_BS_wrote 46 = .ok (.iconst (-1), 1) := by decide +kernel
theorem d_BS_wrote_47 : decode b_BS_wrote 47 = .ok (.ireturn, 1) := by decide +kernel
theorem d_BS_when_0 : decode b_BS_when 0 = .ok (.aload_n 0, 1) := by decide +kernel
theorem d_BS_when_1 : decode b_BS_when 1 = .ok (.iload_n 1, 1) := by decide +kernel
theorem d_BS_when_2 : decode b_BS_when 2 = .ok (.invokevirtual 85, 3) := by decide +kernel
theorem d_BS_when_5 : decode b_BS_when 5 = .ok (.aload_n 0, 1) := by decide +kernel
theorem d_BS_when_6 : decode b_BS_when 6 = .ok (.iload_n 2, 1) := by decide +kernel
theorem d_BS_when_7 : decode b_BS_when 7 = .ok (.invokevirtual 63, 3) := by decide +kernel
theorem d_BS_when_10 : decode b_BS_when 10 = .ok (.aload_n 0, 1) := by decide +kernel
theorem d_BS_when_11 : decode b_BS_when 11 = .ok (.iload_n 1, 1) := by decide +kernel
theorem d_BS_when_12 : decode b_BS_when 12 = .ok (.iload_n 2, 1) := by decide +kernel
theorem d_BS_when_13 : decode b_BS_when 13 = .ok (.invokevirtual 100, 3) := by decide +kernel
theorem d_BS_when_16 : decode b_BS_when 16 = .ok (.istore 4, 2) := by decide +kernel
theorem d_BS_when_18 : decode b_BS_when 18 = .ok (.iload_n 1, 1) := by decide +kernel
theorem d_BS_when_19 : decode b_BS_when 19 = .ok (.istore 5, 2) := by decide +kernel
theorem d_BS_when_21 : decode b_BS_when 21 = .ok (.iload 5, 2) := by decide +kernel
theorem d_BS_when_23 : decode b_BS_when 23 = .ok (.aload_n 0, 1) := by decide +kernel
theorem d_BS_when_24 : decode b_BS_when 24 = .ok (.getfield 37, 3) := by decide +kernel
theorem d_BS_when_27 : decode b_BS_when 27 = .ok (.getfield 106, 3) := by decide +kernel
theorem d_BS_when_30 : decode b_BS_when 30 = .ok (.if_icmp .le 34, 3) := by decide +kernel
theorem d_BS_when_33 : decode b_BS_when 33 = .ok (.iload 4, 2) := by decide +kernel
theorem d_BS_when_35 : decode b_BS_when 35 = .ok (.iload_n 3, 1) := by decide +kernel
theorem d_BS_when_36 : decode b_BS_when 36 = .ok (.if_icmp .ne 6, 3) := by decide +kernel
theorem d_BS_when_39 : decode b_BS_when 39 = .ok (.iload 5, 2) := by decide +kernel
theorem d_BS_when_41 : decode b_BS_when 41 = .ok (.ireturn, 1) := by decide +kernel
theorem d_BS_when_42 : decode b_BS_when 42 = .ok (.aload_n 0, 1) := by decide +kernel
theorem d_BS_when_43 : decode b_BS_when 43 = .ok (.getfield 37, 3) := by decide +kernel
theorem d_BS_when_46 : decode b_BS_when 46 = .ok (.iload 5, 2) := by decide +kernel
theorem d_BS_when_48 : decode b_BS_when 48 = .ok (.iconst 1, 1) := by decide +kernel
theorem d_BS_when_49 : decode b_BS_when 49 = .ok (.isub, 1) := by decide +kernel
theorem d_BS_when_50 : decode b_BS_when 50 = .ok (.iload_n 2, 1) := by decide +kernel
theorem d_BS_when_51 : decode b_BS_when 51 = .ok (.iload 4, 2) := by decide +kernel
theorem d_BS_when_53 : decode b_BS_when 53 = .ok (.invokevirtual 113, 3) := by decide +kernel
theorem d_BS_when_56 : decode b_BS_when 56 = .ok (.istore 4, 2) := by decide +kernel
theorem d_BS_when_58 : decode b_BS_when 58 = .ok (.iinc 5 (-1), 3) := by decide +kernel
theorem d_BS_when_61 : decode b_BS_when 61 = .ok (.goto (-40), 3) := by decide +kernel
theorem d_BS_when_64 : decode b_BS_when 64 = .ok (.iload 4, 2) := by decide +kernel
theorem d_BS_when_66 : decode b_BS_when 66 = .ok (.iload_n 3, 1) := by decide +kernel
theorem d_BS_when_67 : decode b_BS_when 67 = .ok (.if_icmp .ne 13, 3) := by decide +kernel
theorem d_BS_when_70 : decode b_BS_when 70 = .ok (.aload_n 0, 1) := by decide +kernel
theorem d_BS_when_71 : decode b_BS_when 71 = .ok (.getfield 37, 3) := by decide +kernel
theorem d_BS_when_74 : decode b_BS_when 74 = .ok (.getfield 106, 3) := by decide +kernel
theorem d_BS_when_77 : decode b_BS_when 77 = .ok (.goto 4, 3) := by decide +kernel
theorem d_BS_when_80 : decode b_BS_when 80 = .ok (.iconst (-1), 1) := by decide +kernel
theorem d_BS_when_81 : decode b_BS_when 81 = .ok (.ireturn, 1) := by decide +kernel
theorem d_BS_replay_0 : decode b_BS_replay 0 = .ok (.aload_n 0, 1) := by decide +kernel
theorem d_BS_replay_1 : decode b_BS_replay 1 = .ok (.getfield 23, 3) := by decide +kernel
theorem d_BS_replay_4 : decode b_BS_replay 4 = .ok (.aload_n 0, 1) := by decide +kernel
theorem d_BS_replay_5 : decode b_BS_replay 5 = .ok (.getfield 19, 3) := by decide +kernel
theorem d_BS_replay_8 : decode b_BS_replay 8 = .ok (.invokevirtual 117, 3) := by decide +kernel
theorem d_BS_replay_11 : decode b_BS_replay 11 = .ok (.aload_n 0, 1) := by decide +kernel
theorem d_BS_replay_12 : decode b_BS_replay 12 = .ok (.getfield 37, 3) := by decide +kernel
theorem d_BS_replay_15 : decode b_BS_replay 15 = .ok (.aload_n 0, 1) := by decide +kernel
theorem d_BS_replay_16 : decode b_BS_replay 16 = .ok (.getfield 37, 3) := by decide +kernel
theorem d_BS_replay_19 : decode b_BS_replay 19 = .ok (.getfield 106, 3) := by decide +kernel
theorem d_BS_replay_22 : decode b_BS_replay 22 = .ok (.aload_n 0, 1) := by decide +kernel
theorem d_BS_replay_23 : decode b_BS_replay 23 = .ok (.getfield 23, 3) := by decide +kernel
theorem d_BS_replay_26 : decode b_BS_replay 26 = .ok (.invokevirtual 91, 3) := by decide +kernel
theorem d_BS_replay_29 : decode b_BS_replay 29 = .ok (.aload_n 0, 1) := by decide +kernel
theorem d_BS_replay_30 : decode b_BS_replay 30 = .ok (.getfield 37, 3) := by decide +kernel
theorem d_BS_replay_33 : decode b_BS_replay 33 = .ok (.getfield 106, 3) := by decide +kernel
theorem d_BS_replay_36 : decode b_BS_replay 36 = .ok (.istore_n 1, 1) := by decide +kernel
theorem d_BS_replay_37 : decode b_BS_replay 37 = .ok (.iload_n 1, 1) := by decide +kernel
theorem d_BS_replay_38 : decode b_BS_replay 38 = .ok (.aload_n 0, 1) := by decide +kernel
theorem d_BS_replay_39 : decode b_BS_replay 39 = .ok (.getfield 37, 3) := by decide +kernel
theorem d_BS_replay_42 : decode b_BS_replay 42 = .ok (.getfield 88, 3) := by decide +kernel
theorem d_BS_replay_45 : decode b_BS_replay 45 = .ok (.if_icmp .ge 65, 3) := by decide +kernel
theorem d_BS_replay_48 : decode b_BS_replay 48 = .ok (.aload_n 0, 1) := by decide +kernel
theorem d_BS_replay_49 : decode b_BS_replay 49 = .ok (.getfield 23, 3) := by decide +kernel
theorem d_BS_replay_52 : decode b_BS_replay 52 = .ok (.aload_n 0, 1) := by decide +kernel
theorem d_BS_replay_53 : decode b_BS_replay 53 = .ok (.getfield 9, 3) := by decide +kernel
theorem d_BS_replay_56 : decode b_BS_replay 56 = .ok (.aload_n 0, 1) := by decide +kernel
theorem d_BS_replay_57 : decode b_BS_replay 57 = .ok (.getfield 13, 3) := by decide +kernel
theorem d_BS_replay_60 : decode b_BS_replay 60 = .ok (.aload_n 0, 1) := by decide +kernel
theorem d_BS_replay_61 : decode b_BS_replay 61 = .ok (.getfield 19, 3) := by decide +kernel
theorem d_BS_replay_64 : decode b_BS_replay 64 = .ok (.getfield 60, 3) := by decide +kernel
theorem d_BS_replay_67 : decode b_BS_replay 67 = .ok (.invokevirtual 77, 3) := by decide +kernel
theorem d_BS_replay_70 : decode b_BS_replay 70 = .ok (.istore_n 2, 1) := by decide +kernel
theorem d_BS_replay_71 : decode b_BS_replay 71 = .ok (.iload_n 2, 1) := by decide +kernel
theorem d_BS_replay_72 : decode b_BS_replay 72 = .ok (.ifCond .eq 28, 3) := by decide +kernel
theorem d_BS_replay_75 : decode b_BS_replay 75 = .ok (.aload_n 0, 1) := by decide +kernel
theorem d_BS_replay_76 : decode b_BS_replay 76 = .ok (.getfield 37, 3) := by decide +kernel
theorem d_BS_replay_79 : decode b_BS_replay 79 = .ok (.iload_n 1, 1) := by decide +kernel
theorem d_BS_replay_80 : decode b_BS_replay 80 = .ok (.aload_n 0, 1) := by decide +kernel
theorem d_BS_replay_81 : decode b_BS_replay 81 = .ok (.getfield 23, 3) := by decide +kernel
theorem d_BS_replay_84 : decode b_BS_replay 84 = .ok (.invokevirtual 120, 3) := by decide +kernel
theorem d_BS_replay_87 : decode b_BS_replay 87 = .ok (.ifCond .eq 13, 3) := by decide +kernel
theorem d_BS_replay_90 : decode b_BS_replay 90 = .ok (.aload_n 0, 1) := by decide +kernel
theorem d_BS_replay_91 : decode b_BS_replay 91 = .ok (.iload_n 1, 1) := by decide +kernel
theorem d_BS_replay_92 : decode b_BS_replay 92 = .ok (.iconst 1, 1) := by decide +kernel
theorem d_BS_replay_93 : decode b_BS_replay 93 = .ok (.iadd, 1) := by decide +kernel
theorem d_BS_replay_94 : decode b_BS_replay 94 = .ok (.invokevirtual 124, 3) := by decide +kernel
theorem d_BS_replay_97 : decode b_BS_replay 97 = .ok (.ifCond .ne 7, 3) := by decide +kernel
theorem d_BS_replay_100 : decode b_BS_replay 100 = .ok (.iload_n 1, 1) := by decide +kernel
theorem d_BS_replay_101 : decode b_BS_replay 101 = .ok (.iconst 1, 1) := by decide +kernel
theorem d_BS_replay_102 : decode b_BS_replay 102 = .ok (.iadd, 1) := by decide +kernel
theorem d_BS_replay_103 : decode b_BS_replay 103 = .ok (.ireturn, 1) := by decide +kernel
theorem d_BS_replay_104 : decode b_BS_replay 104 = .ok (.iinc 1 1, 3) := by decide +kernel
theorem d_BS_replay_107 : decode b_BS_replay 107 = .ok (.goto (-70), 3) := by decide +kernel
theorem d_BS_replay_110 : decode b_BS_replay 110 = .ok (.iconst (-1), 1) := by decide +kernel
theorem d_BS_replay_111 : decode b_BS_replay 111 = .ok (.ireturn, 1) := by decide +kernel
theorem d_BS_cost_0 : decode b_BS_cost 0 = .ok (.iload_n 1, 1) := by decide +kernel
theorem d_BS_cost_1 : decode b_BS_cost 1 = .ok (.aload_n 0, 1) := by decide +kernel
theorem d_BS_cost_2 : decode b_BS_cost 2 = .ok (.getfield 37, 3) := by decide +kernel
theorem d_BS_cost_5 : decode b_BS_cost 5 = .ok (.getfield 106, 3) := by decide +kernel
theorem d_BS_cost_8 : decode b_BS_cost 8 = .ok (.if_icmp .lt 14, 3) := by decide +kernel
theorem d_BS_cost_11 : decode b_BS_cost 11 = .ok (.iload_n 1, 1) := by decide +kernel
theorem d_BS_cost_12 : decode b_BS_cost 12 = .ok (.aload_n 0, 1) := by decide +kernel
theorem d_BS_cost_13 : decode b_BS_cost 13 = .ok (.getfield 37, 3) := by decide +kernel
theorem d_BS_cost_16 : decode b_BS_cost 16 = .ok (.getfield 88, 3) := by decide +kernel
theorem d_BS_cost_19 : decode b_BS_cost 19 = .ok (.if_icmp .lt 13, 3) := by decide +kernel
theorem d_BS_cost_22 : decode b_BS_cost 22 = .ok (.new 72, 3) := by decide +kernel
theorem d_BS_cost_25 : decode b_BS_cost 25 = .ok (.dup, 1) := by decide +kernel
theorem d_BS_cost_26 : decode b_BS_cost 26 = .ok (.ldc 128, 2) := by decide +kernel
theorem d_BS_cost_28 : decode b_BS_cost 28 = .ok (.invokespecial 76, 3) := by decide +kernel
theorem d_BS_cost_31 : decode b_BS_cost 31 = .ok (.athrow, 1) := by decide +kernel
theorem d_BS_cost_32 : decode b_BS_cost 32 = .ok (.aload_n 0, 1) := by decide +kernel
theorem d_BS_cost_33 : decode b_BS_cost 33 = .ok (.getfield 37, 3) := by decide +kernel
theorem d_BS_cost_36 : decode b_BS_cost 36 = .ok (.iload_n 1, 1) := by decide +kernel
theorem d_BS_cost_37 : decode b_BS_cost 37 = .ok (.invokevirtual 130, 3) := by decide +kernel
theorem d_BS_cost_40 : decode b_BS_cost 40 = .ok (.ireturn, 1) := by decide +kernel
theorem d_BS_count_0 : decode b_BS_count 0 = .ok (.iload_n 1, 1) := by decide +kernel
theorem d_BS_count_1 : decode b_BS_count 1 = .ok (.tableswitch 90 0 6 #[43, 51, 59, 67, 75, 80, 85], 43) := by decide +kernel
theorem d_BS_count_44 : decode b_BS_count 44 = .ok (.aload_n 0, 1) := by decide +kernel
theorem d_BS_count_45 : decode b_BS_count 45 = .ok (.getfield 37, 3) := by decide +kernel
theorem d_BS_count_48 : decode b_BS_count 48 = .ok (.getfield 88, 3) := by decide +kernel
theorem d_BS_count_51 : decode b_BS_count 51 = .ok (.ireturn, 1) := by decide +kernel
theorem d_BS_count_52 : decode b_BS_count 52 = .ok (.aload_n 0, 1) := by decide +kernel
theorem d_BS_count_53 : decode b_BS_count 53 = .ok (.getfield 37, 3) := by decide +kernel
theorem d_BS_count_56 : decode b_BS_count 56 = .ok (.getfield 106, 3) := by decide +kernel
theorem d_BS_count_59 : decode b_BS_count 59 = .ok (.ireturn, 1) := by decide +kernel
theorem d_BS_count_60 : decode b_BS_count 60 = .ok (.aload_n 0, 1) := by decide +kernel
theorem d_BS_count_61 : decode b_BS_count 61 = .ok (.getfield 37, 3) := by decide +kernel
theorem d_BS_count_64 : decode b_BS_count 64 = .ok (.getfield 133, 3) := by decide +kernel
theorem d_BS_count_67 : decode b_BS_count 67 = .ok (.ireturn, 1) := by decide +kernel
theorem d_BS_count_68 : decode b_BS_count 68 = .ok (.aload_n 0, 1) := by decide +kernel
theorem d_BS_count_69 : decode b_BS_count 69 = .ok (.getfield 37, 3) := by decide +kernel
theorem d_BS_count_72 : decode b_BS_count 72 = .ok (.getfield 136, 3) := by decide +kernel
theorem d_BS_count_75 : decode b_BS_count 75 = .ok (.ireturn, 1) := by decide +kernel
theorem d_BS_count_76 : decode b_BS_count 76 = .ok (.aload_n 0, 1) := by decide +kernel
theorem d_BS_count_77 : decode b_BS_count 77 = .ok (.getfield 52, 3) := by decide +kernel
theorem d_BS_count_80 : decode b_BS_count 80 = .ok (.ireturn, 1) := by decide +kernel
theorem d_BS_count_81 : decode b_BS_count 81 = .ok (.aload_n 0, 1) := by decide +kernel
theorem d_BS_count_82 : decode b_BS_count 82 = .ok (.invokevirtual 139, 3) := by decide +kernel
theorem d_BS_count_85 : decode b_BS_count 85 = .ok (.ireturn, 1) := by decide +kernel
theorem d_BS_count_86 : decode b_BS_count 86 = .ok (.aload_n 0, 1) := by decide +kernel
theorem d_BS_count_87 : decode b_BS_count 87 = .ok (.invokevirtual 143, 3) := by decide +kernel
theorem d_BS_count_90 : decode b_BS_count 90 = .ok (.ireturn, 1) := by decide +kernel
theorem d_BS_count_91 : decode b_BS_count 91 = .ok (.iconst (-1), 1) := by decide +kernel
theorem d_BS_count_92 : decode b_BS_count 92 = .ok (.ireturn, 1) := by decide +kernel
theorem d_BS_checkNumber_0 : decode b_BS_checkNumber 0 = .ok (.iload_n 1, 1) := by decide +kernel
theorem d_BS_checkNumber_1 : decode b_BS_checkNumber 1 = .ok (.ifCond .lt 10, 3) := by decide +kernel
theorem d_BS_checkNumber_4 : decode b_BS_checkNumber 4 = .ok (.iload_n 1, 1) := by decide +kernel
theorem d_BS_checkNumber_5 : decode b_BS_checkNumber 5 = .ok (.sipush 264, 3) := by decide +kernel
theorem d_BS_checkNumber_8 : decode b_BS_checkNumber 8 = .ok (.if_icmp .lt 13, 3) := by decide +kernel
theorem d_BS_checkNumber_11 : decode b_BS_checkNumber 11 = .ok (.new 45, 3) := by decide +kernel
theorem d_BS_checkNumber_14 : decode b_BS_checkNumber 14 = .ok (.dup, 1) := by decide +kernel
theorem d_BS_checkNumber_15 : decode b_BS_checkNumber 15 = .ok (.ldc 146, 2) := by decide +kernel
theorem d_BS_checkNumber_17 : decode b_BS_checkNumber 17 = .ok (.invokespecial 49, 3) := by decide +kernel
theorem d_BS_checkNumber_20 : decode b_BS_checkNumber 20 = .ok (.athrow, 1) := by decide +kernel
theorem d_BS_checkNumber_21 : decode b_BS_checkNumber 21 = .ok (.return_, 1) := by decide +kernel
theorem d_BS_checkTime_0 : decode b_BS_checkTime 0 = .ok (.iload_n 1, 1) := by decide +kernel
theorem d_BS_checkTime_1 : decode b_BS_checkTime 1 = .ok (.aload_n 0, 1) := by decide +kernel
theorem d_BS_checkTime_2 : decode b_BS_checkTime 2 = .ok (.getfield 37, 3) := by decide +kernel
theorem d_BS_checkTime_5 : decode b_BS_checkTime 5 = .ok (.getfield 106, 3) := by decide +kernel
theorem d_BS_checkTime_8 : decode b_BS_checkTime 8 = .ok (.if_icmp .lt 14, 3) := by decide +kernel
theorem d_BS_checkTime_11 : decode b_BS_checkTime 11 = .ok (.iload_n 1, 1) := by decide +kernel
theorem d_BS_checkTime_12 : decode b_BS_checkTime 12 = .ok (.aload_n 0, 1) := by decide +kernel
theorem d_BS_checkTime_13 : decode b_BS_checkTime 13 = .ok (.getfield 37, 3) := by decide +kernel
theorem d_BS_checkTime_16 : decode b_BS_checkTime 16 = .ok (.getfield 88, 3) := by decide +kernel
theorem d_BS_checkTime_19 : decode b_BS_checkTime 19 = .ok (.if_icmp .le 13, 3) := by decide +kernel
theorem d_BS_checkTime_22 : decode b_BS_checkTime 22 = .ok (.new 72, 3) := by decide +kernel
theorem d_BS_checkTime_25 : decode b_BS_checkTime 25 = .ok (.dup, 1) := by decide +kernel
theorem d_BS_checkTime_26 : decode b_BS_checkTime 26 = .ok (.ldc 148, 2) := by decide +kernel
theorem d_BS_checkTime_28 : decode b_BS_checkTime 28 = .ok (.invokespecial 76, 3) := by decide +kernel
theorem d_BS_checkTime_31 : decode b_BS_checkTime 31 = .ok (.athrow, 1) := by decide +kernel
theorem d_BS_checkTime_32 : decode b_BS_checkTime 32 = .ok (.return_, 1) := by decide +kernel
theorem d_BS_numberAt_0 : decode b_BS_numberAt 0 = .ok (.aload_n 0, 1) := by decide +kernel
theorem d_BS_numberAt_1 : decode b_BS_numberAt 1 = .ok (.getfield 19, 3) := by decide +kernel
theorem d_BS_numberAt_4 : decode b_BS_numberAt 4 = .ok (.getfield 66, 3) := by decide +kernel
theorem d_BS_numberAt_7 : decode b_BS_numberAt 7 = .ok (.iload_n 2, 1) := by decide +kernel
theorem d_BS_numberAt_8 : decode b_BS_numberAt 8 = .ok (.iaload, 1) := by decide +kernel
theorem d_BS_numberAt_9 : decode b_BS_numberAt 9 = .ok (.istore_n 3, 1) := by decide +kernel
theorem d_BS_numberAt_10 : decode b_BS_numberAt 10 = .ok (.aload_n 0, 1) := by decide +kernel
theorem d_BS_numberAt_11 : decode b_BS_numberAt 11 = .ok (.getfield 37, 3) := by decide +kernel
theorem d_BS_numberAt_14 : decode b_BS_numberAt 14 = .ok (.getfield 88, 3) := by decide +kernel
theorem d_BS_numberAt_17 : decode b_BS_numberAt 17 = .ok (.istore 4, 2) := by decide +kernel
theorem d_BS_numberAt_19 : decode b_BS_numberAt 19 = .ok (.iload 4, 2) := by decide +kernel
theorem d_BS_numberAt_21 : decode b_BS_numberAt 21 = .ok (.iload_n 1, 1) := by decide +kernel
theorem d_BS_numberAt_22 : decode b_BS_numberAt 22 = .ok (.if_icmp .le 23, 3) := by decide +kernel
theorem d_BS_numberAt_25 : decode b_BS_numberAt 25 = .ok (.aload_n 0, 1) := by decide +kernel
theorem d_BS_numberAt_26 : decode b_BS_numberAt 26 = .ok (.getfield 37, 3) := by decide +kernel
theorem d_BS_numberAt_29 : decode b_BS_numberAt 29 = .ok (.iload 4, 2) := by decide +kernel
theorem d_BS_numberAt_31 : decode b_BS_numberAt 31 = .ok (.iconst 1, 1) := by decide +kernel
theorem d_BS_numberAt_32 : decode b_BS_numberAt 32 = .ok (.isub, 1) := by decide +kernel
theorem d_BS_numberAt_33 : decode b_BS_numberAt 33 = .ok (.iload_n 2, 1) := by decide +kernel
theorem d_BS_numberAt_34 : decode b_BS_numberAt 34 = .ok (.iload_n 3, 1) := by decide +kernel
theorem d_BS_numberAt_35 : decode b_BS_numberAt 35 = .ok (.invokevirtual 113, 3) := by decide +kernel
theorem d_BS_numberAt_38 : decode b_BS_numberAt 38 = .ok (.istore_n 3, 1) := by decide +kernel
theorem d_BS_numberAt_39 : decode b_BS_numberAt 39 = .ok (.iinc 4 (-1), 3) := by decide +kernel
theorem d_BS_numberAt_42 : decode b_BS_numberAt 42 = .ok (.goto (-23), 3) := by decide +kernel
theorem d_BS_numberAt_45 : decode b_BS_numberAt 45 = .ok (.iload_n 3, 1) := by decide +kernel
theorem d_BS_numberAt_46 : decode b_BS_numberAt 46 = .ok (.ireturn, 1) := by decide +kernel
theorem d_BS_restAt_0 : decode b_BS_restAt 0 = .ok (.iload_n 1, 1) := by decide +kernel
theorem d_BS_restAt_1 : decode b_BS_restAt 1 = .ok (.aload_n 0, 1) := by decide +kernel
theorem d_BS_restAt_2 : decode b_BS_restAt 2 = .ok (.getfield 37, 3) := by decide +kernel
theorem d_BS_restAt_5 : decode b_BS_restAt 5 = .ok (.getfield 88, 3) := by decide +kernel
theorem d_BS_restAt_8 : decode b_BS_restAt 8 = .ok (.if_icmp .ne 14, 3) := by decide +kernel
theorem d_BS_restAt_11 : decode b_BS_restAt 11 = .ok (.aload_n 0, 1) := by decide +kernel
theorem d_BS_restAt_12 : decode b_BS_restAt 12 = .ok (.getfield 19, 3) := by decide +kernel
theorem d_BS_restAt_15 : decode b_BS_restAt 15 = .ok (.iload_n 2, 1) := by decide +kernel
theorem d_BS_restAt_16 : decode b_BS_restAt 16 = .ok (.invokevirtual 150, 3) := by decide +kernel
theorem d_BS_restAt_19 : decode b_BS_restAt 19 = .ok (.goto 12, 3) := by decide +kernel
theorem d_BS_restAt_22 : decode b_BS_restAt 22 = .ok (.aload_n 0, 1) := by decide +kernel
theorem d_BS_restAt_23 : decode b_BS_restAt 23 = .ok (.getfield 37, 3) := by decide +kernel
theorem d_BS_restAt_26 : decode b_BS_restAt 26 = .ok (.iload_n 1, 1) := by decide +kernel
theorem d_BS_restAt_27 : decode b_BS_restAt 27 = .ok (.iload_n 2, 1) := by decide +kernel
theorem d_BS_restAt_28 : decode b_BS_restAt 28 = .ok (.invokevirtual 153, 3) := by decide +kernel
theorem d_BS_restAt_31 : decode b_BS_restAt 31 = .ok (.ireturn, 1) := by decide +kernel
theorem d_BS_sameRestAt_0 : decode b_BS_sameRestAt 0 = .ok (.sipush 264, 3) := by decide +kernel
theorem d_BS_sameRestAt_3 : decode b_BS_sameRestAt 3 = .ok (.istore_n 2, 1) := by decide +kernel
theorem d_BS_sameRestAt_4 : decode b_BS_sameRestAt 4 = .ok (.iload_n 2, 1) := by decide +kernel
theorem d_BS_sameRestAt_5 : decode b_BS_sameRestAt 5 = .ok (.sipush 268, 3) := by decide +kernel
theorem d_BS_sameRestAt_8 : decode b_BS_sameRestAt 8 = .ok (.if_icmp .gt 28, 3) := by decide +kernel
theorem d_BS_sameRestAt_11 : decode b_BS_sameRestAt 11 = .ok (.aload_n 0, 1) := by decide +kernel
theorem d_BS_sameRestAt_12 : decode b_BS_sameRestAt 12 = .ok (.getfield 23, 3) := by decide +kernel
theorem d_BS_sameRestAt_15 : decode b_BS_sameRestAt 15 = .ok (.iload_n 2, 1) := by decide +kernel
theorem d_BS_sameRestAt_16 : decode b_BS_sameRestAt 16 = .ok (.invokevirtual 150, 3) := by decide +kernel
theorem d_BS_sameRestAt_19 : decode b_BS_sameRestAt 19 = .ok (.aload_n 0, 1) := by decide +kernel
theorem d_BS_sameRestAt_20 : decode b_BS_sameRestAt 20 = .ok (.iload_n 1, 1) := by decide +kernel
theorem d_BS_sameRestAt_21 : decode b_BS_sameRestAt 21 = .ok (.iload_n 2, 1) := by decide +kernel
theorem d_BS_sameRestAt_22 : decode b_BS_sameRestAt 22 = .ok (.invokevirtual 103, 3) := by decide +kernel
theorem d_BS_sameRestAt_25 : decode b_BS_sameRestAt 25 = .ok (.if_icmp .eq 5, 3) := by decide +kernel
theorem d_BS_sameRestAt_28 : decode b_BS_sameRestAt 28 = .ok (.iconst 0, 1) := by decide +kernel
theorem d_BS_sameRestAt_29 : decode b_BS_sameRestAt 29 = .ok (.ireturn, 1) := by decide +kernel
theorem d_BS_sameRestAt_30 : decode b_BS_sameRestAt 30 = .ok (.iinc 2 1, 3) := by decide +kernel
theorem d_BS_sameRestAt_33 : decode b_BS_sameRestAt 33 = .ok (.goto (-29), 3) := by decide +kernel
theorem d_BS_sameRestAt_36 : decode b_BS_sameRestAt 36 = .ok (.iconst 1, 1) := by decide +kernel
theorem d_BS_sameRestAt_37 : decode b_BS_sameRestAt 37 = .ok (.ireturn, 1) := by decide +kernel
theorem d_BS_marksKept_0 : decode b_BS_marksKept 0 = .ok (.aload_n 0, 1) := by decide +kernel
theorem d_BS_marksKept_1 : decode b_BS_marksKept 1 = .ok (.getfield 37, 3) := by decide +kernel
theorem d_BS_marksKept_4 : decode b_BS_marksKept 4 = .ok (.getfield 88, 3) := by decide +kernel
theorem d_BS_marksKept_7 : decode b_BS_marksKept 7 = .ok (.aload_n 0, 1) := by decide +kernel
theorem d_BS_marksKept_8 : decode b_BS_marksKept 8 = .ok (.getfield 41, 3) := by decide +kernel
theorem d_BS_marksKept_11 : decode b_BS_marksKept 11 = .ok (.invokestatic 156, 3) := by decide +kernel
theorem d_BS_marksKept_14 : decode b_BS_marksKept 14 = .ok (.aload_n 0, 1) := by decide +kernel
theorem d_BS_marksKept_15 : decode b_BS_marksKept 15 = .ok (.getfield 37, 3) := by decide +kernel
theorem d_BS_marksKept_18 : decode b_BS_marksKept 18 = .ok (.getfield 106, 3) := by decide +kernel
theorem d_BS_marksKept_21 : decode b_BS_marksKept 21 = .ok (.iconst 1, 1) := by decide +kernel
theorem d_BS_marksKept_22 : decode b_BS_marksKept 22 = .ok (.isub, 1) := by decide +kernel
theorem d_BS_marksKept_23 : decode b_BS_marksKept 23 = .ok (.aload_n 0, 1) := by decide +kernel
theorem d_BS_marksKept_24 : decode b_BS_marksKept 24 = .ok (.getfield 41, 3) := by decide +kernel
theorem d_BS_marksKept_27 : decode b_BS_marksKept 27 = .ok (.invokestatic 156, 3) := by decide +kernel
theorem d_BS_marksKept_30 : decode b_BS_marksKept 30 = .ok (.isub, 1) := by decide +kernel
theorem d_BS_marksKept_31 : decode b_BS_marksKept 31 = .ok (.ireturn, 1) := by decide +kernel
theorem d_BS_state_0 : decode b_BS_state 0 = .ok (.aload_n 0, 1) := by decide +kernel
theorem d_BS_state_1 : decode b_BS_state 1 = .ok (.getfield 19, 3) := by decide +kernel
theorem d_BS_state_4 : decode b_BS_state 4 = .ok (.aload_n 0, 1) := by decide +kernel
theorem d_BS_state_5 : decode b_BS_state 5 = .ok (.getfield 9, 3) := by decide +kernel
theorem d_BS_state_8 : decode b_BS_state 8 = .ok (.aload_n 0, 1) := by decide +kernel
theorem d_BS_state_9 : decode b_BS_state 9 = .ok (.getfield 52, 3) := by decide +kernel
theorem d_BS_state_12 : decode b_BS_state 12 = .ok (.invokevirtual 159, 3) := by decide +kernel
theorem d_BS_state_15 : decode b_BS_state 15 = .ok (.ifCond .eq 7, 3) := by decide +kernel
theorem d_BS_state_18 : decode b_BS_state 18 = .ok (.iconst 3, 1) := by decide +kernel
theorem d_BS_state_19 : decode b_BS_state 19 = .ok (.goto 10, 3) := by decide +kernel
theorem d_BS_state_22 : decode b_BS_state 22 = .ok (.aload_n 0, 1) := by decide +kernel
theorem d_BS_state_23 : decode b_BS_state 23 = .ok (.getfield 19, 3) := by decide +kernel
theorem d_BS_state_26 : decode b_BS_state 26 = .ok (.getfield 163, 3) := by decide +kernel
theorem d_BS_state_29 : decode b_BS_state 29 = .ok (.ireturn, 1) := by decide +kernel
theorem d_Ma_init_0 : decode b_Ma_init 0 = .ok (.aload_n 0, 1) := by decide +kernel
theorem d_Ma_init_1 : decode b_Ma_init 1 = .ok (.invokespecial 3, 3) := by decide +kernel
theorem d_Ma_init_4 : decode b_Ma_init 4 = .ok (.aload_n 0, 1) := by decide +kernel
theorem d_Ma_init_5 : decode b_Ma_init 5 = .ok (.sipush 264, 3) := by decide +kernel
theorem d_Ma_init_8 : decode b_Ma_init 8 = .ok (.newarray .int, 2) := by decide +kernel
theorem d_Ma_init_10 : decode b_Ma_init 10 = .ok (.putfield 9, 3) := by decide +kernel
theorem d_Ma_init_13 : decode b_Ma_init 13 = .ok (.aload_n 0, 1) := by decide +kernel
theorem d_Ma_init_14 : decode b_Ma_init 14 = .ok (.iconst 0, 1) := by decide +kernel
theorem d_Ma_init_15 : decode b_Ma_init 15 = .ok (.putfield 15, 3) := by decide +kernel
theorem d_Ma_init_18 : decode b_Ma_init 18 = .ok (.aload_n 0, 1) := by decide +kernel
theorem d_Ma_init_19 : decode b_Ma_init 19 = .ok (.iconst (-1), 1) := by decide +kernel
theorem d_Ma_init_20 : decode b_Ma_init 20 = .ok (.putfield 19, 3) := by decide +kernel
theorem d_Ma_init_23 : decode b_Ma_init 23 = .ok (.return_, 1) := by decide +kernel
theorem d_Ma_copyFrom_0 : decode b_Ma_copyFrom 0 = .ok (.aload_n 1, 1) := by decide +kernel
theorem d_Ma_copyFrom_1 : decode b_Ma_copyFrom 1 = .ok (.getfield 9, 3) := by decide +kernel
theorem d_Ma_copyFrom_4 : decode b_Ma_copyFrom 4 = .ok (.iconst 0, 1) := by decide +kernel
theorem d_Ma_copyFrom_5 : decode b_Ma_copyFrom 5 = .ok (.aload_n 0, 1) := by decide +kernel
theorem d_Ma_copyFrom_6 : decode b_Ma_copyFrom 6 = .ok (.getfield 9, 3) := by decide +kernel
theorem d_Ma_copyFrom_9 : decode b_Ma_copyFrom 9 = .ok (.iconst 0, 1) := by decide +kernel
theorem d_Ma_copyFrom_10 : decode b_Ma_copyFrom 10 = .ok (.sipush 264, 3) := by decide +kernel
theorem d_Ma_copyFrom_13 : decode b_Ma_copyFrom 13 = .ok (.invokestatic 22, 3) := by decide +kernel
theorem d_Ma_copyFrom_16 : decode b_Ma_copyFrom 16 = .ok (.aload_n 0, 1) := by decide +kernel
theorem d_Ma_copyFrom_17 : decode b_Ma_copyFrom 17 = .ok (.aload_n 1, 1) := by decide +kernel
theorem d_Ma_copyFrom_18 : decode b_Ma_copyFrom 18 = .ok (.getfield 28, 3) := by decide +kernel
theorem d_Ma_copyFrom_21 : decode b_Ma_copyFrom 21 = .ok (.putfield 28, 3) := by decide +kernel
theorem d_Ma_copyFrom_24 : decode b_Ma_copyFrom 24 = .ok (.aload_n 0, 1) := by decide +kernel
theorem d_Ma_copyFrom_25 : decode b_Ma_copyFrom 25 = .ok (.aload_n 1, 1) := by decide +kernel
theorem d_Ma_copyFrom_26 : decode b_Ma_copyFrom 26 = .ok (.getfield 31, 3) := by decide +kernel
theorem d_Ma_copyFrom_29 : decode b_Ma_copyFrom 29 = .ok (.putfield 31, 3) := by decide +kernel
theorem d_Ma_copyFrom_32 : decode b_Ma_copyFrom 32 = .ok (.aload_n 0, 1) := by decide +kernel
theorem d_Ma_copyFrom_33 : decode b_Ma_copyFrom 33 = .ok (.aload_n 1, 1) := by decide +kernel
theorem d_Ma_copyFrom_34 : decode b_Ma_copyFrom 34 = .ok (.getfield 34, 3) := by decide +kernel
theorem d_Ma_copyFrom_37 : decode b_Ma_copyFrom 37 = .ok (.putfield 34, 3) := by decide +kernel
theorem d_Ma_copyFrom_40 : decode b_Ma_copyFrom 40 = .ok (.aload_n 0, 1) := by decide +kernel
theorem d_Ma_copyFrom_41 : decode b_Ma_copyFrom 41 = .ok (.aload_n 1, 1) := by decide +kernel
theorem d_Ma_copyFrom_42 : decode b_Ma_copyFrom 42 = .ok (.getfield 37, 3) := by decide +kernel
theorem d_Ma_copyFrom_45 : decode b_Ma_copyFrom 45 = .ok (.putfield 37, 3) := by decide +kernel
theorem d_Ma_copyFrom_48 : decode b_Ma_copyFrom 48 = .ok (.aload_n 0, 1) := by decide +kernel
theorem d_Ma_copyFrom_49 : decode b_Ma_copyFrom 49 = .ok (.aload_n 1, 1) := by decide +kernel
theorem d_Ma_copyFrom_50 : decode b_Ma_copyFrom 50 = .ok (.getfield 15, 3) := by decide +kernel
theorem d_Ma_copyFrom_53 : decode b_Ma_copyFrom 53 = .ok (.putfield 15, 3) := by decide +kernel
theorem d_Ma_copyFrom_56 : decode b_Ma_copyFrom 56 = .ok (.return_, 1) := by decide +kernel
theorem d_Ma_rest_0 : decode b_Ma_rest 0 = .ok (.iload_n 1, 1) := by decide +kernel
theorem d_Ma_rest_1 : decode b_Ma_rest 1 = .ok (.tableswitch 51 264 267 #[31, 36, 41, 46], 31) := by decide +kernel
theorem d_Ma_rest_32 : decode b_Ma_rest 32 = .ok (.aload_n 0, 1) := by decide +kernel
theorem d_Ma_rest_33 : decode b_Ma_rest 33 = .ok (.getfield 28, 3) := by decide +kernel
theorem d_Ma_rest_36 : decode b_Ma_rest 36 = .ok (.ireturn, 1) := by decide +kernel
theorem d_Ma_rest_37 : decode b_Ma_rest 37 = .ok (.aload_n 0, 1) := by decide +kernel
theorem d_Ma_rest_38 : decode b_Ma_rest 38 = .ok (.getfield 31, 3) := by decide +kernel
theorem d_Ma_rest_41 : decode b_Ma_rest 41 = .ok (.ireturn, 1) := by decide +kernel
theorem d_Ma_rest_42 : decode b_Ma_rest 42 = .ok (.aload_n 0, 1) := by decide +kernel
theorem d_Ma_rest_43 : decode b_Ma_rest 43 = .ok (.getfield 34, 3) := by decide +kernel
theorem d_Ma_rest_46 : decode b_Ma_rest 46 = .ok (.ireturn, 1) := by decide +kernel
theorem d_Ma_rest_47 : decode b_Ma_rest 47 = .ok (.aload_n 0, 1) := by decide +kernel
theorem d_Ma_rest_48 : decode b_Ma_rest 48 = .ok (.getfield 37, 3) := by decide +kernel
theorem d_Ma_rest_51 : decode b_Ma_rest 51 = .ok (.ireturn, 1) := by decide +kernel
theorem d_Ma_rest_52 : decode b_Ma_rest 52 = .ok (.aload_n 0, 1) := by decide +kernel
theorem d_Ma_rest_53 : decode b_Ma_rest 53 = .ok (.getfield 15, 3) := by decide +kernel
theorem d_Ma_rest_56 : decode b_Ma_rest 56 = .ok (.ireturn, 1) := by decide +kernel
theorem d_Ma_wouldWait_0 : decode b_Ma_wouldWait 0 = .ok (.aload_n 0, 1) := by decide +kernel
theorem d_Ma_wouldWait_1 : decode b_Ma_wouldWait 1 = .ok (.getfield 15, 3) := by decide +kernel
theorem d_Ma_wouldWait_4 : decode b_Ma_wouldWait 4 = .ok (.ifCond .ne 29, 3) := by decide +kernel
theorem d_Ma_wouldWait_7 : decode b_Ma_wouldWait 7 = .ok (.aload_n 1, 1) := by decide +kernel
theorem d_Ma_wouldWait_8 : decode b_Ma_wouldWait 8 = .ok (.aload_n 0, 1) := by decide +kernel
theorem d_Ma_wouldWait_9 : decode b_Ma_wouldWait 9 = .ok (.getfield 28, 3) := by decide +kernel
theorem d_Ma_wouldWait_12 : decode b_Ma_wouldWait 12 = .ok (.iaload, 1) := by decide +kernel
theorem d_Ma_wouldWait_13 : decode b_Ma_wouldWait 13 = .ok (.bipush 28, 2) := by decide +kernel
theorem d_Ma_wouldWait_15 : decode b_Ma_wouldWait 15 = .ok (.iushr, 1) := by decide +kernel
theorem d_Ma_wouldWait_16 : decode b_Ma_wouldWait 16 = .ok (.bipush 8, 2) := by decide +kernel
theorem d_Ma_wouldWait_18 : decode b_Ma_wouldWait 18 = .ok (.if_icmp .ne 15, 3) := by decide +kernel
theorem d_Ma_wouldWait_21 : decode b_Ma_wouldWait 21 = .ok (.aload_n 0, 1) := by decide +kernel
theorem d_Ma_wouldWait_22 : decode b_Ma_wouldWait 22 = .ok (.getfield 31, 3) := by decide +kernel
theorem d_Ma_wouldWait_25 : decode b_Ma_wouldWait 25 = .ok (.iload_n 2, 1) := by decide +kernel
theorem d_Ma_wouldWait_26 : decode b_Ma_wouldWait 26 = .ok (.if_icmp .lt 7, 3) := by decide +kernel
theorem d_Ma_wouldWait_29 : decode b_Ma_wouldWait 29 = .ok (.iconst 1, 1) := by decide +kernel
theorem d_Ma_wouldWait_30 : decode b_Ma_wouldWait 30 = .ok (.goto 4, 3) := by decide +kernel
theorem d_Ma_wouldWait_33 : decode b_Ma_wouldWait 33 = .ok (.iconst 0, 1) := by decide +kernel
theorem d_Ma_wouldWait_34 : decode b_Ma_wouldWait 34 = .ok (.ireturn, 1) := by decide +kernel
theorem d_Ma_advance_0 : decode b_Ma_advance 0 = .ok (.aload_n 0, 1) := by decide +kernel
theorem d_Ma_advance_1 : decode b_Ma_advance 1 = .ok (.getfield 15, 3) := by decide +kernel
theorem d_Ma_advance_4 : decode b_Ma_advance 4 = .ok (.ifCond .ne 12, 3) := by decide +kernel
theorem d_Ma_advance_7 : decode b_Ma_advance 7 = .ok (.aload_n 0, 1) := by decide +kernel
theorem d_Ma_advance_8 : decode b_Ma_advance 8 = .ok (.aload_n 1, 1) := by decide +kernel
theorem d_Ma_advance_9 : decode b_Ma_advance 9 = .ok (.iload_n 3, 1) := by decide +kernel
theorem d_Ma_advance_10 : decode b_Ma_advance 10 = .ok (.invokevirtual 40, 3) := by decide +kernel
theorem d_Ma_advance_13 : decode b_Ma_advance 13 = .ok (.ifCond .eq 5, 3) := by decide +kernel
theorem d_Ma_advance_16 : decode b_Ma_advance 16 = .ok (.iconst 0, 1) := by decide +kernel
theorem d_Ma_advance_17 : decode b_Ma_advance 17 = .ok (.ireturn, 1) := by decide +kernel
theorem d_Ma_advance_18 : decode b_Ma_advance 18 = .ok (.aload_n 1, 1) := by decide +kernel
theorem d_Ma_advance_19 : decode b_Ma_advance 19 = .ok (.aload_n 0, 1) := by decide +kernel
theorem d_Ma_advance_20 : decode b_Ma_advance 20 = .ok (.getfield 28, 3) := by decide +kernel
theorem d_Ma_advance_23 : decode b_Ma_advance 23 = .ok (.iaload, 1) := by decide +kernel
theorem d_Ma_advance_24 : decode b_Ma_advance 24 = .ok (.istore 4, 2) := by decide +kernel
theorem d_Ma_advance_26 : decode b_Ma_advance 26 = .ok (.aload_n 0, 1) := by decide +kernel
theorem d_Ma_advance_27 : decode b_Ma_advance 27 = .ok (.invokevirtual 44, 3) := by decide +kernel
theorem d_Ma_advance_30 : decode b_Ma_advance 30 = .ok (.aload_n 0, 1) := by decide +kernel
theorem d_Ma_advance_31 : decode b_Ma_advance 31 = .ok (.aload_n 0, 1) := by decide +kernel
theorem d_Ma_advance_32 : decode b_Ma_advance 32 = .ok (.getfield 28, 3) := by decide +kernel
theorem d_Ma_advance_35 : decode b_Ma_advance 35 = .ok (.iconst 1, 1) := by decide +kernel
theorem d_Ma_advance_36 : decode b_Ma_advance 36 = .ok (.iadd, 1) := by decide +kernel
theorem d_Ma_advance_37 : decode b_Ma_advance 37 = .ok (.bipush 63, 2) := by decide +kernel
theorem d_Ma_advance_39 : decode b_Ma_advance 39 = .ok (.iand, 1) := by decide +kernel
theorem d_Ma_advance_40 : decode b_Ma_advance 40 = .ok (.putfield 28, 3) := by decide +kernel
theorem d_Ma_advance_43 : decode b_Ma_advance 43 = .ok (.iload 4, 2) := by decide +kernel
theorem d_Ma_advance_45 : decode b_Ma_advance 45 = .ok (.bipush 28, 2) := by decide +kernel
theorem d_Ma_advance_47 : decode b_Ma_advance 47 = .ok (.iushr, 1) := by decide +kernel
theorem d_Ma_advance_48 : decode b_Ma_advance 48 = .ok (.istore 5, 2) := by decide +kernel
theorem d_Ma_advance_50 : decode b_Ma_advance 50 = .ok (.iload 5, 2) := by decide +kernel
theorem d_Ma_advance_52 : decode b_Ma_advance 52 = .ok (.bipush 8, 2) := by decide +kernel
theorem d_Ma_advance_54 : decode b_Ma_advance 54 = .ok (.if_icmp .ne 33, 3) := by decide +kernel
theorem d_Ma_advance_57 : decode b_Ma_advance 57 = .ok (.aload_n 0, 1) := by decide +kernel
theorem d_Ma_advance_58 : decode b_Ma_advance 58 = .ok (.iload 4, 2) := by decide +kernel
theorem d_Ma_advance_60 : decode b_Ma_advance 60 = .ok (.bipush 24, 2) := by decide +kernel
theorem d_Ma_advance_62 : decode b_Ma_advance 62 = .ok (.invokestatic 47, 3) := by decide +kernel
theorem d_Ma_advance_65 : decode b_Ma_advance 65 = .ok (.aload_n 2, 1) := by decide +kernel
theorem d_Ma_advance_66 : decode b_Ma_advance 66 = .ok (.aload_n 0, 1) := by decide +kernel
theorem d_Ma_advance_67 : decode b_Ma_advance 67 = .ok (.getfield 31, 3) := by decide +kernel
theorem d_Ma_advance_70 : decode b_Ma_advance 70 = .ok (.iaload, 1) := by decide +kernel
theorem d_Ma_advance_71 : decode b_Ma_advance 71 = .ok (.invokevirtual 51, 3) := by decide +kernel
theorem d_Ma_advance_74 : decode b_Ma_advance 74 = .ok (.aload_n 0, 1) := by decide +kernel
theorem d_Ma_advance_75 : decode b_Ma_advance 75 = .ok (.dup, 1) := by decide +kernel
theorem d_Ma_advance_76 : decode b_Ma_advance 76 = .ok (.getfield 31, 3) := by decide +kernel
theorem d_Ma_advance_79 : decode b_Ma_advance 79 = .ok (.iconst 1, 1) := by decide +kernel
theorem d_Ma_advance_80 : decode b_Ma_advance 80 = .ok (.iadd, 1) := by decide +kernel
theorem d_Ma_advance_81 : decode b_Ma_advance 81 = .ok (.putfield 31, 3) := by decide +kernel
theorem d_Ma_advance_84 : decode b_Ma_advance 84 = .ok (.goto 35, 3) := by decide +kernel
theorem d_Ma_advance_87 : decode b_Ma_advance 87 = .ok (.iload 5, 2) := by decide +kernel
theorem d_Ma_advance_89 : decode b_Ma_advance 89 = .ok (.iconst 5, 1) := by decide +kernel
theorem d_Ma_advance_90 : decode b_Ma_advance 90 = .ok (.if_icmp .lt 21, 3) := by decide +kernel
theorem d_Ma_advance_93 : decode b_Ma_advance 93 = .ok (.iload 5, 2) := by decide +kernel
theorem d_Ma_advance_95 : decode b_Ma_advance 95 = .ok (.bipush 9, 2) := by decide +kernel
theorem d_Ma_advance_97 : decode b_Ma_advance 97 = .ok (.if_icmp .gt 14, 3) := by decide +kernel
theorem d_Ma_advance_100 : decode b_Ma_advance 100 = .ok (.aload_n 0, 1) := by decide +kernel
theorem d_Ma_advance_101 : decode b_Ma_advance 101 = .ok (.iload 5, 2) := by decide +kernel
theorem d_Ma_advance_103 : decode b_Ma_advance 103 = .ok (.iload 4, 2) := by decide +kernel
theorem d_Ma_advance_105 : decode b_Ma_advance 105 = .ok (.invokevirtual 55, 3) := by decide +kernel
theorem d_Ma_advance_108 : decode b_Ma_advance 108 = .ok (.goto 11, 3) := by decide +kernel
theorem d_Ma_advance_111 : decode b_Ma_advance 111 = .ok (.aload_n 0, 1) := by decide +kernel
theorem d_Ma_advance_112 : decode b_Ma_advance 112 = .ok (.iload 5, 2) := by decide +kernel
theorem d_Ma_advance_114 : decode b_Ma_advance 114 = .ok (.iload 4, 2) := by decide +kernel
theorem d_Ma_advance_116 : decode b_Ma_advance 116 = .ok (.invokevirtual 58, 3) := by decide +kernel
theorem d_Ma_advance_119 : decode b_Ma_advance 119 = .ok (.iconst 1, 1) := by decide +kernel
theorem d_Ma_advance_120 : decode b_Ma_advance 120 = .ok (.ireturn, 1) := by decide +kernel
theorem d_Ma_rememberBefore_0 : decode b_Ma_rememberBefore 0 = .ok (.aload_n 0, 1) := by decide +kernel
theorem d_Ma_rememberBefore_1 : decode b_Ma_rememberBefore 1 = .ok (.iconst (-1), 1) := by decide +kernel
theorem d_Ma_rememberBefore_2 : decode b_Ma_rememberBefore 2 = .ok (.putfield 19, 3) := by decide +kernel
theorem d_Ma_rememberBefore_5 : decode b_Ma_rememberBefore 5 = .ok (.aload_n 0, 1) := by decide +kernel
theorem d_Ma_rememberBefore_6 : decode b_Ma_rememberBefore 6 = .ok (.aload_n 0, 1) := by decide +kernel
theorem d_Ma_rememberBefore_7 : decode b_Ma_rememberBefore 7 = .ok (.getfield 28, 3) := by decide +kernel
theorem d_Ma_rememberBefore_10 : decode b_Ma_rememberBefore 10 = .ok (.putfield 61, 3) := by decide +kernel
theorem d_Ma_rememberBefore_13 : decode b_Ma_rememberBefore 13 = .ok (.aload_n 0, 1) := by decide +kernel
theorem d_Ma_rememberBefore_14 : decode b_Ma_rememberBefore 14 = .ok (.aload_n 0, 1) := by decide +kernel
theorem d_Ma_rememberBefore_15 : decode b_Ma_rememberBefore 15 = .ok (.getfield 31, 3) := by decide +kernel
theorem d_Ma_rememberBefore_18 : decode b_Ma_rememberBefore 18 = .ok (.putfield 64, 3) := by decide +kernel
theorem d_Ma_rememberBefore_21 : decode b_Ma_rememberBefore 21 = .ok (.aload_n 0, 1) := by decide +kernel
theorem d_Ma_rememberBefore_22 : decode b_Ma_rememberBefore 22 = .ok (.aload_n 0, 1) := by decide +kernel
theorem d_Ma_rememberBefore_23 : decode b_Ma_rememberBefore 23 = .ok (.getfield 34, 3) := by decide +kernel
theorem d_Ma_rememberBefore_26 : decode b_Ma_rememberBefore 26 = .ok (.putfield 67, 3) := by decide +kernel
theorem d_Ma_rememberBefore_29 : decode b_Ma_rememberBefore 29 = .ok (.aload_n 0, 1) := by decide +kernel
theorem d_Ma_rememberBefore_30 : decode b_Ma_rememberBefore 30 = .ok (.aload_n 0, 1) := by decide +kernel
theorem d_Ma_rememberBefore_31 : decode b_Ma_rememberBefore 31 = .ok (.getfield 37, 3) := by decide +kernel
theorem d_Ma_rememberBefore_34 : decode b_Ma_rememberBefore 34 = .ok (.putfield 70, 3) := by decide +kernel
theorem d_Ma_rememberBefore_37 : decode b_Ma_rememberBefore 37 = .ok (.return_, 1) := by decide +kernel
theorem d_Ma_moveNumbers_0 : decode b_Ma_moveNumbers 0 = .ok (.iload_n 2, 1) := by decide +kernel
theorem d_Ma_moveNumbers_1 : decode b_Ma_moveNumbers 1 = .ok (.bipush 24, 2) := by decide +kernel
theorem d_Ma_moveNumbers_3 : decode b_Ma_moveNumbers 3 = .ok (.invokestatic 47, 3) := by decide +kernel
theorem d_Ma_moveNumbers_6 : decode b_Ma_moveNumbers 6 = .ok (.istore_n 3, 1) := by decide +kernel
theorem d_Ma_moveNumbers_7 : decode b_Ma_moveNumbers 7 = .ok (.iload_n 2, 1) := by decide +kernel
theorem d_Ma_moveNumbers_8 : decode b_Ma_moveNumbers 8 = .ok (.i2s, 1) := by decide +kernel
theorem d_Ma_moveNumbers_9 : decode b_Ma_moveNumbers 9 = .ok (.istore 4, 2) := by decide +kernel
theorem d_Ma_moveNumbers_11 : decode b_Ma_moveNumbers 11 = .ok (.bipush 8, 2) := by decide +kernel
theorem d_Ma_moveNumbers_13 : decode b_Ma_moveNumbers 13 = .ok (.aload_n 0, 1) := by decide +kernel
theorem d_Ma_moveNumbers_14 : decode b_Ma_moveNumbers 14 = .ok (.getfield 9, 3) := by decide +kernel
theorem d_Ma_moveNumbers_17 : decode b_Ma_moveNumbers 17 = .ok (.iload_n 2, 1) := by decide +kernel
theorem d_Ma_moveNumbers_18 : decode b_Ma_moveNumbers 18 = .ok (.bipush 20, 2) := by decide +kernel
theorem d_Ma_moveNumbers_20 : decode b_Ma_moveNumbers 20 = .ok (.invokestatic 47, 3) := by decide +kernel
theorem d_Ma_moveNumbers_23 : decode b_Ma_moveNumbers 23 = .ok (.iaload, 1) := by decide +kernel
theorem d_Ma_moveNumbers_24 : decode b_Ma_moveNumbers 24 = .ok (.iload 4, 2) := by decide +kernel
theorem d_Ma_moveNumbers_26 : decode b_Ma_moveNumbers 26 = .ok (.iadd, 1) := by decide +kernel
theorem d_Ma_moveNumbers_27 : decode b_Ma_moveNumbers 27 = .ok (.sipush 255, 3) := by decide +kernel
theorem d_Ma_moveNumbers_30 : decode b_Ma_moveNumbers 30 = .ok (.iand, 1) := by decide +kernel
theorem d_Ma_moveNumbers_31 : decode b_Ma_moveNumbers 31 = .ok (.iadd, 1) := by decide +kernel
theorem d_Ma_moveNumbers_32 : decode b_Ma_moveNumbers 32 = .ok (.istore 5, 2) := by decide +kernel
theorem d_Ma_moveNumbers_34 : decode b_Ma_moveNumbers 34 = .ok (.iload_n 1, 1) := by decide +kernel
theorem d_Ma_moveNumbers_35 : decode b_Ma_moveNumbers 35 = .ok (.tableswitch 81 5 7 #[25, 40, 55], 25) := by decide +kernel
theorem d_Ma_moveNumbers_60 : decode b_Ma_moveNumbers 60 = .ok (.aload_n 0, 1) := by decide +kernel
theorem d_Ma_moveNumbers_61 : decode b_Ma_moveNumbers 61 = .ok (.iload_n 3, 1) := by decide +kernel
theorem d_Ma_moveNumbers_62 : decode b_Ma_moveNumbers 62 = .ok (.aload_n 0, 1) := by decide +kernel
theorem d_Ma_moveNumbers_63 : decode b_Ma_moveNumbers 63 = .ok (.getfield 9, 3) := by decide +kernel
theorem d_Ma_moveNumbers_66 : decode b_Ma_moveNumbers 66 = .ok (.iload 5, 2) := by decide +kernel
theorem d_Ma_moveNumbers_68 : decode b_Ma_moveNumbers 68 = .ok (.iaload, 1) := by decide +kernel
theorem d_Ma_moveNumbers_69 : decode b_Ma_moveNumbers 69 = .ok (.invokevirtual 51, 3) := by decide +kernel
theorem d_Ma_moveNumbers_72 : decode b_Ma_moveNumbers 72 = .ok (.goto 72, 3) := by decide +kernel
theorem d_Ma_moveNumbers_75 : decode b_Ma_moveNumbers 75 = .ok (.aload_n 0, 1) := by decide +kernel
theorem d_Ma_moveNumbers_76 : decode b_Ma_moveNumbers 76 = .ok (.iload 5, 2) := by decide +kernel
theorem d_Ma_moveNumbers_78 : decode b_Ma_moveNumbers 78 = .ok (.aload_n 0, 1) := by decide +kernel
theorem d_Ma_moveNumbers_79 : decode b_Ma_moveNumbers 79 = .ok (.getfield 9, 3) := by decide +kernel
theorem d_Ma_moveNumbers_82 : decode b_Ma_moveNumbers 82 = .ok (.iload_n 3, 1) := by decide +kernel
theorem d_Ma_moveNumbers_83 : decode b_Ma_moveNumbers 83 = .ok (.iaload, 1) := by decide +kernel
theorem d_Ma_moveNumbers_84 : decode b_Ma_moveNumbers 84 = .ok (.invokevirtual 51, 3) := by decide +kernel
theorem d_Ma_moveNumbers_87 : decode b_Ma_moveNumbers 87 = .ok (.goto 57, 3) := by decide +kernel
theorem d_Ma_moveNumbers_90 : decode b_Ma_moveNumbers 90 = .ok (.aload_n 0, 1) := by decide +kernel
theorem d_Ma_moveNumbers_91 : decode b_Ma_moveNumbers 91 = .ok (.getfield 9, 3) := by decide +kernel
theorem d_Ma_moveNumbers_94 : decode b_Ma_moveNumbers 94 = .ok (.iload_n 3, 1) := by decide +kernel
theorem d_Ma_moveNumbers_95 : decode b_Ma_moveNumbers 95 = .ok (.iaload, 1) := by decide +kernel
theorem d_Ma_moveNumbers_96 : decode b_Ma_moveNumbers 96 = .ok (.ifCond .eq 48, 3) := by decide +kernel
theorem d_Ma_moveNumbers_99 : decode b_Ma_moveNumbers 99 = .ok (.aload_n 0, 1) := by decide +kernel
theorem d_Ma_moveNumbers_100 : decode b_Ma_moveNumbers 100 = .ok (.aload_n 0, 1) := by decide +kernel
theorem d_Ma_moveNumbers_101 : decode b_Ma_moveNumbers 101 = .ok (.getfield 61, 3) := by decide +kernel
theorem d_Ma_moveNumbers_104 : decode b_Ma_moveNumbers 104 = .ok (.iload 4, 2) := by decide +kernel
theorem d_Ma_moveNumbers_106 : decode b_Ma_moveNumbers 106 = .ok (.iadd, 1) := by decide +kernel
theorem d_Ma_moveNumbers_107 : decode b_Ma_moveNumbers 107 = .ok (.bipush 63, 2) := by decide +kernel
theorem d_Ma_moveNumbers_109 : decode b_Ma_moveNumbers 109 = .ok (.iand, 1) := by decide +kernel
theorem d_Ma_moveNumbers_110 : decode b_Ma_moveNumbers 110 = .ok (.putfield 28, 3) := by decide +kernel
theorem d_Ma_moveNumbers_113 : decode b_Ma_moveNumbers 113 = .ok (.goto 31, 3) := by decide +kernel
theorem d_Ma_moveNumbers_116 : decode b_Ma_moveNumbers 116 = .ok (.aload_n 0, 1) := by decide +kernel
theorem d_Ma_moveNumbers_117 : decode b_Ma_moveNumbers 117 = .ok (.dup, 1) := by decide +kernel
theorem d_Ma_moveNumbers_118 : decode b_Ma_moveNumbers 118 = .ok (.getfield 34, 3) := by decide +kernel
theorem d_Ma_moveNumbers_121 : decode b_Ma_moveNumbers 121 = .ok (.iconst 1, 1) := by decide +kernel
theorem d_Ma_moveNumbers_122 : decode b_Ma_moveNumbers 122 = .ok (.iadd, 1) := by decide +kernel
theorem d_Ma_moveNumbers_123 : decode b_Ma_moveNumbers 123 = .ok (.putfield 34, 3) := by decide +kernel
theorem d_Ma_moveNumbers_126 : decode b_Ma_moveNumbers 126 = .ok (.aload_n 0, 1) := by decide +kernel
theorem d_Ma_moveNumbers_127 : decode b_Ma_moveNumbers 127 = .ok (.bipush 31, 2) := by decide +kernel
theorem d_Ma_moveNumbers_129 : decode b_Ma_moveNumbers 129 = .ok (.aload_n 0, 1) := by decide +kernel
theorem d_Ma_moveNumbers_130 : decode b_Ma_moveNumbers 130 = .ok (.getfield 37, 3) := by decide +kernel
theorem d_Ma_moveNumbers_133 : decode b_Ma_moveNumbers 133 = .ok (.imul, 1) := by decide +kernel
theorem d_Ma_moveNumbers_134 : decode b_Ma_moveNumbers 134 = .ok (.aload_n 0, 1) := by decide +kernel
theorem d_Ma_moveNumbers_135 : decode b_Ma_moveNumbers 135 = .ok (.getfield 9, 3) := by decide +kernel
theorem d_Ma_moveNumbers_138 : decode b_Ma_moveNumbers 138 = .ok (.iload_n 3, 1) := by decide +kernel
theorem d_Ma_moveNumbers_139 : decode b_Ma_moveNumbers 139 = .ok (.iaload, 1) := by decide +kernel
theorem d_Ma_moveNumbers_140 : decode b_Ma_moveNumbers 140 = .ok (.iadd, 1) := by decide +kernel
theorem d_Ma_moveNumbers_141 : decode b_Ma_moveNumbers 141 = .ok (.putfield 37, 3) := by decide +kernel
theorem d_Ma_moveNumbers_144 : decode b_Ma_moveNumbers 144 = .ok (.return_, 1) := by decide +kernel
theorem d_Ma_compute_0 : decode b_Ma_compute 0 = .ok (.iload_n 2, 1) := by decide +kernel
theorem d_Ma_compute_1 : decode b_Ma_compute 1 = .ok (.bipush 24, 2) := by decide +kernel
theorem d_Ma_compute_3 : decode b_Ma_compute 3 = .ok (.invokestatic 47, 3) := by decide +kernel
theorem d_Ma_compute_6 : decode b_Ma_compute 6 = .ok (.istore_n 3, 1) := by decide +kernel
theorem d_Ma_compute_7 : decode b_Ma_compute 7 = .ok (.aload_n 0, 1) := by decide +kernel
theorem d_Ma_compute_8 : decode b_Ma_compute 8 = .ok (.getfield 9, 3) := by decide +kernel
theorem d_Ma_compute_11 : decode b_Ma_compute 11 = .ok (.iload_n 2, 1) := by decide +kernel
theorem d_Ma_compute_12 : decode b_Ma_compute 12 = .ok (.bipush 20, 2) := by decide +kernel
theorem d_Ma_compute_14 : decode b_Ma_compute 14 = .ok (.invokestatic 47, 3) := by decide +kernel
theorem d_Ma_compute_17 : decode b_Ma_compute 17 = .ok (.iaload, 1) := by decide +kernel
theorem d_Ma_compute_18 : decode b_Ma_compute 18 = .ok (.istore 4, 2) := by decide +kernel
theorem d_Ma_compute_20 : decode b_Ma_compute 20 = .ok (.aload_n 0, 1) := by decide +kernel
theorem d_Ma_compute_21 : decode b_Ma_compute 21 = .ok (.getfield 9, 3) := by decide +kernel
theorem d_Ma_compute_24 : decode b_Ma_compute 24 = .ok (.iload_n 2, 1) := by decide +kernel
theorem d_Ma_compute_25 : decode b_Ma_compute 25 = .ok (.bipush 16, 2) := by decide +kernel
theorem d_Ma_compute_27 : decode b_Ma_compute 27 = .ok (.invokestatic 47, 3) := by decide +kernel
theorem d_Ma_compute_30 : decode b_Ma_compute 30 = .ok (.iaload, 1) := by decide +kernel
theorem d_Ma_compute_31 : decode b_Ma_compute 31 = .ok (.istore 5, 2) := by decide +kernel
theorem d_Ma_compute_33 : decode b_Ma_compute 33 = .ok (.iload_n 1, 1) := by decide +kernel
theorem d_Ma_compute_34 : decode b_Ma_compute 34 = .ok (.tableswitch 172 0 12 #[66, 74, 84, 97, 110, 172, 172, 172, 172, 172, 123, 139, 152], 66) := by decide +kernel
theorem d_Ma_compute_100 : decode b_Ma_compute 100 = .ok (.aload_n 0, 1) := by decide +kernel
theorem d_Ma_compute_101 : decode b_Ma_compute 101 = .ok (.iconst 1, 1) := by decide +kernel
theorem d_Ma_compute_102 : decode b_Ma_compute 102 = .ok (.invokevirtual 73, 3) := by decide +kernel
theorem d_Ma_compute_105 : decode b_Ma_compute 105 = .ok (.goto 106, 3) := by decide +kernel
theorem d_Ma_compute_108 : decode b_Ma_compute 108 = .ok (.aload_n 0, 1) := by decide +kernel
theorem d_Ma_compute_109 : decode b_Ma_compute 109 = .ok (.iload_n 3, 1) := by decide +kernel
theorem d_Ma_compute_110 : decode b_Ma_compute 110 = .ok (.iload_n 2, 1) := by decide +kernel
theorem d_Ma_compute_111 : decode b_Ma_compute 111 = .ok (.i2s, 1) := by decide +kernel
theorem d_Ma_compute_112 : decode b_Ma_compute 112 = .ok (.invokevirtual 51, 3) := by decide +kernel
theorem d_Ma_compute_115 : decode b_Ma_compute 115 = .ok (.goto 96, 3) := by decide +kernel
theorem d_Ma_compute_118 : decode b_Ma_compute 118 = .ok (.aload_n 0, 1) := by decide +kernel
theorem d_Ma_compute_119 : decode b_Ma_compute 119 = .ok (.iload_n 3, 1) := by decide +kernel
theorem d_Ma_compute_120 : decode b_Ma_compute 120 = .ok (.iload 4, 2) := by decide +kernel
theorem d_Ma_compute_122 : decode b_Ma_compute 122 = .ok (.iload 5, 2) := by decide +kernel
theorem d_Ma_compute_124 : decode b_Ma_compute 124 = .ok (.iadd, 1) := by decide +kernel
theorem d_Ma_compute_125 : decode b_Ma_compute 125 = .ok (.invokevirtual 51, 3) := by decide +kernel
theorem d_Ma_compute_128 : decode b_Ma_compute 128 = .ok (.goto 83, 3) := by decide +kernel
theorem d_Ma_compute_131 : decode b_Ma_compute 131 = .ok (.aload_n 0, 1) := by decide +kernel
theorem d_Ma_compute_132 : decode b_Ma_compute 132 = .ok (.iload_n 3, 1) := by decide +kernel
theorem d_Ma_compute_133 : decode b_Ma_compute 133 = .ok (.iload 4, 2) := by decide +kernel
theorem d_Ma_compute_135 : decode b_Ma_compute 135 = .ok (.iload 5, 2) := by decide +kernel
theorem d_Ma_compute_137 : decode b_Ma_compute 137 = .ok (.isub, 1) := by decide +kernel
theorem d_Ma_compute_138 : decode b_Ma_compute 138 = .ok (.invokevirtual 51, 3) := by decide +kernel
theorem d_Ma_compute_141 : decode b_Ma_compute 141 = .ok (.goto 70, 3) := by decide +kernel
theorem d_Ma_compute_144 : decode b_Ma_compute 144 = .ok (.aload_n 0, 1) := by decide +kernel
theorem d_Ma_compute_145 : decode b_Ma_compute 145 = .ok (.iload_n 3, 1) := by decide +kernel
theorem d_Ma_compute_146 : decode b_Ma_compute 146 = .ok (.iload 4, 2) := by decide +kernel
theorem d_Ma_compute_148 : decode b_Ma_compute 148 = .ok (.iload 5, 2) := by decide +kernel
theorem d_Ma_compute_150 : decode b_Ma_compute 150 = .ok (.ixor, 1) := by decide +kernel
theorem d_Ma_compute_151 : decode b_Ma_compute 151 = .ok (.invokevirtual 51, 3) := by decide +kernel
theorem d_Ma_compute_154 : decode b_Ma_compute 154 = .ok (.goto 57, 3) := by decide +kernel
theorem d_Ma_compute_157 : decode b_Ma_compute 157 = .ok (.aload_n 0, 1) := by decide +kernel
theorem d_Ma_compute_158 : decode b_Ma_compute 158 = .ok (.iload_n 3, 1) := by decide +kernel
theorem d_Ma_compute_159 : decode b_Ma_compute 159 = .ok (.iload 4, 2) := by decide +kernel
theorem d_Ma_compute_161 : decode b_Ma_compute 161 = .ok (.iload 5, 2) := by decide +kernel
theorem d_Ma_compute_163 : decode b_Ma_compute 163 = .ok (.bipush 31, 2) := by decide +kernel
theorem d_Ma_compute_165 : decode b_Ma_compute 165 = .ok (.iand, 1) := by decide +kernel
theorem d_Ma_compute_166 : decode b_Ma_compute 166 = .ok (.iushr, 1) := by decide +kernel
theorem d_Ma_compute_167 : decode b_Ma_compute 167 = .ok (.invokevirtual 51, 3) := by decide +kernel
theorem d_Ma_compute_170 : decode b_Ma_compute 170 = .ok (.goto 41, 3) := by decide +kernel
theorem d_Ma_compute_173 : decode b_Ma_compute 173 = .ok (.aload_n 0, 1) := by decide +kernel
theorem d_Ma_compute_174 : decode b_Ma_compute 174 = .ok (.iload_n 3, 1) := by decide +kernel
theorem d_Ma_compute_175 : decode b_Ma_compute 175 = .ok (.iload 4, 2) := by decide +kernel
theorem d_Ma_compute_177 : decode b_Ma_compute 177 = .ok (.iload 5, 2) := by decide +kernel
theorem d_Ma_compute_179 : decode b_Ma_compute 179 = .ok (.imul, 1) := by decide +kernel
theorem d_Ma_compute_180 : decode b_Ma_compute 180 = .ok (.invokevirtual 51, 3) := by decide +kernel
theorem d_Ma_compute_183 : decode b_Ma_compute 183 = .ok (.goto 28, 3) := by decide +kernel
theorem d_Ma_compute_186 : decode b_Ma_compute 186 = .ok (.aload_n 0, 1) := by decide +kernel
theorem d_Ma_compute_187 : decode b_Ma_compute 187 = .ok (.iload_n 3, 1) := by decide +kernel
theorem d_Ma_compute_188 : decode b_Ma_compute 188 = .ok (.iload 4, 2) := by decide +kernel
theorem d_Ma_compute_190 : decode b_Ma_compute 190 = .ok (.iload 5, 2) := by decide +kernel
theorem d_Ma_compute_192 : decode b_Ma_compute 192 = .ok (.if_icmp .ge 7, 3) := by decide +kernel
theorem d_Ma_compute_195 : decode b_Ma_compute 195 = .ok (.iconst 1, 1) := by decide +kernel
theorem d_Ma_compute_196 : decode b_Ma_compute 196 = .ok (.goto 4, 3) := by decide +kernel
theorem d_Ma_compute_199 : decode b_Ma_compute 199 = .ok (.iconst 0, 1) := by decide +kernel
theorem d_Ma_compute_200 : decode b_Ma_compute 200 = .ok (.invokevirtual 51, 3) := by decide +kernel
theorem d_Ma_compute_203 : decode b_Ma_compute 203 = .ok (.goto 8, 3) := by decide +kernel
theorem d_Ma_compute_206 : decode b_Ma_compute 206 = .ok (.aload_n 0, 1) := by decide +kernel
theorem d_Ma_compute_207 : decode b_Ma_compute 207 = .ok (.iconst 2, 1) := by decide +kernel
theorem d_Ma_compute_208 : decode b_Ma_compute 208 = .ok (.invokevirtual 73, 3) := by decide +kernel
theorem d_Ma_compute_211 : decode b_Ma_compute 211 = .ok (.return_, 1) := by decide +kernel
theorem d_Ma_register_0 : decode b_Ma_register 0 = .ok (.iload_n 0, 1) := by decide +kernel
theorem d_Ma_register_1 : decode b_Ma_register 1 = .ok (.iload_n 1, 1) := by decide +kernel
theorem d_Ma_register_2 : decode b_Ma_register 2 = .ok (.iushr, 1) := by decide +kernel
theorem d_Ma_register_3 : decode b_Ma_register 3 = .ok (.bipush 7, 2) := by decide +kernel
theorem d_Ma_register_5 : decode b_Ma_register 5 = .ok (.iand, 1) := by decide +kernel
theorem d_Ma_register_6 : decode b_Ma_register 6 = .ok (.ireturn, 1) := by decide +kernel
theorem d_Ma_write_0 : decode b_Ma_write 0 = .ok (.aload_n 0, 1) := by decide +kernel
theorem d_Ma_write_1 : decode b_Ma_write 1 = .ok (.iload_n 1, 1) := by decide +kernel
theorem d_Ma_write_2 : decode b_Ma_write 2 = .ok (.putfield 19, 3) := by decide +kernel
theorem d_Ma_write_5 : decode b_Ma_write 5 = .ok (.aload_n 0, 1) := by decide +kernel
theorem d_Ma_write_6 : decode b_Ma_write 6 = .ok (.aload_n 0, 1) := by decide +kernel
theorem d_Ma_write_7 : decode b_Ma_write 7 = .ok (.getfield 9, 3) := by decide +kernel
theorem d_Ma_write_10 : decode b_Ma_write 10 = .ok (.iload_n 1, 1) := by decide +kernel
theorem d_Ma_write_11 : decode b_Ma_write 11 = .ok (.iaload, 1) := by decide +kernel
theorem d_Ma_write_12 : decode b_Ma_write 12 = .ok (.putfield 77, 3) := by decide +kernel
theorem d_Ma_write_15 : decode b_Ma_write 15 = .ok (.aload_n 0, 1) := by decide +kernel
theorem d_Ma_write_16 : decode b_Ma_write 16 = .ok (.getfield 9, 3) := by decide +kernel
theorem d_Ma_write_19 : decode b_Ma_write 19 = .ok (.iload_n 1, 1) := by decide +kernel
theorem d_Ma_write_20 : decode b_Ma_write 20 = .ok (.iload_n 2, 1) := by decide +kernel
theorem d_Ma_write_21 : decode b_Ma_write 21 = .ok (.iastore, 1) := by decide +kernel
theorem d_Ma_write_22 : decode b_Ma_write 22 = .ok (.return_, 1) := by decide +kernel
theorem d_Ma_stop_0 : decode b_Ma_stop 0 = .ok (.aload_n 0, 1) := by decide +kernel
theorem d_Ma_stop_1 : decode b_Ma_stop 1 = .ok (.iload_n 1, 1) := by decide +kernel
theorem d_Ma_stop_2 : decode b_Ma_stop 2 = .ok (.putfield 15, 3) := by decide +kernel
theorem d_Ma_stop_5 : decode b_Ma_stop 5 = .ok (.aload_n 0, 1) := by decide +kernel
theorem d_Ma_stop_6 : decode b_Ma_stop 6 = .ok (.aload_n 0, 1) := by decide +kernel
theorem d_Ma_stop_7 : decode b_Ma_stop 7 = .ok (.getfield 61, 3) := by decide +kernel
theorem d_Ma_stop_10 : decode b_Ma_stop 10 = .ok (.putfield 28, 3) := by decide +kernel
theorem d_Ma_stop_13 : decode b_Ma_stop 13 = .ok (.return_, 1) := by decide +kernel
theorem d_Ma_changedNothingBut_0 : decode b_Ma_changedNothingBut 0 = .ok (.aload_n 0, 1) := by decide +kernel
theorem d_Ma_changedNothingBut_1 : decode b_Ma_changedNothingBut 1 = .ok (.invokevirtual 80, 3) := by decide +kernel
theorem d_Ma_changedNothingBut_4 : decode b_Ma_changedNothingBut 4 = .ok (.ifCond .eq 11, 3) := by decide +kernel
theorem d_Ma_changedNothingBut_7 : decode b_Ma_changedNothingBut 7 = .ok (.aload_n 0, 1) := by decide +kernel
theorem d_Ma_changedNothingBut_8 : decode b_Ma_changedNothingBut 8 = .ok (.getfield 19, 3) := by decide +kernel
theorem d_Ma_changedNothingBut_11 : decode b_Ma_changedNothingBut 11 = .ok (.iload_n 1, 1) := by decide +kernel
theorem d_Ma_changedNothingBut_12 : decode b_Ma_changedNothingBut 12 = .ok (.if_icmp .ne 7, 3) := by decide +kernel
theorem d_Ma_changedNothingBut_15 : decode b_Ma_changedNothingBut 15 = .ok (.iconst 1, 1) := by decide +kernel
theorem d_Ma_changedNothingBut_16 : decode b_Ma_changedNothingBut 16 = .ok (.goto 4, 3) := by decide +kernel
theorem d_Ma_changedNothingBut_19 : decode b_Ma_changedNothingBut 19 = .ok (.iconst 0, 1) := by decide +kernel
theorem d_Ma_changedNothingBut_20 : decode b_Ma_changedNothingBut 20 = .ok (.ireturn, 1) := by decide +kernel
theorem d_Ma_changedNumber_0 : decode b_Ma_changedNumber 0 = .ok (.aload_n 0, 1) := by decide +kernel
theorem d_Ma_changedNumber_1 : decode b_Ma_changedNumber 1 = .ok (.getfield 19, 3) := by decide +kernel
theorem d_Ma_changedNumber_4 : decode b_Ma_changedNumber 4 = .ok (.iconst (-1), 1) := by decide +kernel
theorem d_Ma_changedNumber_5 : decode b_Ma_changedNumber 5 = .ok (.if_icmp .eq 23, 3) := by decide +kernel
theorem d_Ma_changedNumber_8 : decode b_Ma_changedNumber 8 = .ok (.aload_n 0, 1) := by decide +kernel
theorem d_Ma_changedNumber_9 : decode b_Ma_changedNumber 9 = .ok (.getfield 9, 3) := by decide +kernel
theorem d_Ma_changedNumber_12 : decode b_Ma_changedNumber 12 = .ok (.aload_n 0, 1) := by decide +kernel
theorem d_Ma_changedNumber_13 : decode b_Ma_changedNumber 13 = .ok (.getfield 19, 3) := by decide +kernel
theorem d_Ma_changedNumber_16 : decode b_Ma_changedNumber 16 = .ok (.iaload, 1) := by decide +kernel
theorem d_Ma_changedNumber_17 : decode b_Ma_changedNumber 17 = .ok (.aload_n 0, 1) := by decide +kernel
theorem d_Ma_changedNumber_18 : decode b_Ma_changedNumber 18 = .ok (.getfield 77, 3) := by decide +kernel
theorem d_Ma_changedNumber_21 : decode b_Ma_changedNumber 21 = .ok (.if_icmp .eq 7, 3) := by decide +kernel
theorem d_Ma_changedNumber_24 : decode b_Ma_changedNumber 24 = .ok (.iconst 1, 1) := by decide +kernel
theorem d_Ma_changedNumber_25 : decode b_Ma_changedNumber 25 = .ok (.goto 4, 3) := by decide +kernel
theorem d_Ma_changedNumber_28 : decode b_Ma_changedNumber 28 = .ok (.iconst 0, 1) := by decide +kernel
theorem d_Ma_changedNumber_29 : decode b_Ma_changedNumber 29 = .ok (.ireturn, 1) := by decide +kernel
theorem d_Ma_costOfLatest_0 : decode b_Ma_costOfLatest 0 = .ok (.iconst 1, 1) := by decide +kernel
theorem d_Ma_costOfLatest_1 : decode b_Ma_costOfLatest 1 = .ok (.istore_n 1, 1) := by decide +kernel
theorem d_Ma_costOfLatest_2 : decode b_Ma_costOfLatest 2 = .ok (.aload_n 0, 1) := by decide +kernel
theorem d_Ma_costOfLatest_3 : decode b_Ma_costOfLatest 3 = .ok (.invokevirtual 80, 3) := by decide +kernel
theorem d_Ma_costOfLatest_6 : decode b_Ma_costOfLatest 6 = .ok (.ifCond .eq 6, 3) := by decide +kernel
theorem d_Ma_costOfLatest_9 : decode b_Ma_costOfLatest 9 = .ok (.iinc 1 1, 3) := by decide +kernel
theorem d_Ma_costOfLatest_12 : decode b_Ma_costOfLatest 12 = .ok (.aload_n 0, 1) := by decide +kernel
theorem d_Ma_costOfLatest_13 : decode b_Ma_costOfLatest 13 = .ok (.getfield 28, 3) := by decide +kernel
theorem d_Ma_costOfLatest_16 : decode b_Ma_costOfLatest 16 = .ok (.aload_n 0, 1) := by decide +kernel
theorem d_Ma_costOfLatest_17 : decode b_Ma_costOfLatest 17 = .ok (.getfield 61, 3) := by decide +kernel
theorem d_Ma_costOfLatest_20 : decode b_Ma_costOfLatest 20 = .ok (.iconst 1, 1) := by decide +kernel
theorem d_Ma_costOfLatest_21 : decode b_Ma_costOfLatest 21 = .ok (.iadd, 1) := by decide +kernel
theorem d_Ma_costOfLatest_22 : decode b_Ma_costOfLatest 22 = .ok (.bipush 63, 2) := by decide +kernel
theorem d_Ma_costOfLatest_24 : decode b_Ma_costOfLatest 24 = .ok (.iand, 1) := by decide +kernel
theorem d_Ma_costOfLatest_25 : decode b_Ma_costOfLatest 25 = .ok (.if_icmp .eq 6, 3) := by decide +kernel
theorem d_Ma_costOfLatest_28 : decode b_Ma_costOfLatest 28 = .ok (.iinc 1 1, 3) := by decide +kernel
theorem d_Ma_costOfLatest_31 : decode b_Ma_costOfLatest 31 = .ok (.aload_n 0, 1) := by decide +kernel
theorem d_Ma_costOfLatest_32 : decode b_Ma_costOfLatest 32 = .ok (.getfield 31, 3) := by decide +kernel
theorem d_Ma_costOfLatest_35 : decode b_Ma_costOfLatest 35 = .ok (.aload_n 0, 1) := by decide +kernel
theorem d_Ma_costOfLatest_36 : decode b_Ma_costOfLatest 36 = .ok (.getfield 64, 3) := by decide +kernel
theorem d_Ma_costOfLatest_39 : decode b_Ma_costOfLatest 39 = .ok (.if_icmp .eq 6, 3) := by decide +kernel
theorem d_Ma_costOfLatest_42 : decode b_Ma_costOfLatest 42 = .ok (.iinc 1 1, 3) := by decide +kernel
theorem d_Ma_costOfLatest_45 : decode b_Ma_costOfLatest 45 = .ok (.aload_n 0, 1) := by decide +kernel
theorem d_Ma_costOfLatest_46 : decode b_Ma_costOfLatest 46 = .ok (.getfield 34, 3) := by decide +kernel
theorem d_Ma_costOfLatest_49 : decode b_Ma_costOfLatest 49 = .ok (.aload_n 0, 1) := by decide +kernel
theorem d_Ma_costOfLatest_50 : decode b_Ma_costOfLatest 50 = .ok (.getfield 67, 3) := by decide +kernel
theorem d_Ma_costOfLatest_53 : decode b_Ma_costOfLatest 53 = .ok (.if_icmp .eq 6, 3) := by decide +kernel
theorem d_Ma_costOfLatest_56 : decode b_Ma_costOfLatest 56 = .ok (.iinc 1 1, 3) := by decide +kernel
theorem d_Ma_costOfLatest_59 : decode b_Ma_costOfLatest 59 = .ok (.iload_n 1, 1) := by decide +kernel
theorem d_Ma_costOfLatest_60 : decode b_Ma_costOfLatest 60 = .ok (.ireturn, 1) := by decide +kernel
theorem d_Ro_init_0 : decode b_Ro_init 0 = .ok (.aload_n 0, 1) := by decide +kernel
theorem d_Ro_init_1 : decode b_Ro_init 1 = .ok (.invokespecial 5, 3) := by decide +kernel
theorem d_Ro_init_4 : decode b_Ro_init 4 = .ok (.aload_n 0, 1) := by decide +kernel
theorem d_Ro_init_5 : decode b_Ro_init 5 = .ok (.sipush 1024, 3) := by decide +kernel
theorem d_Ro_init_8 : decode b_Ro_init 8 = .ok (.newarray .int, 2) := by decide +kernel
theorem d_Ro_init_10 : decode b_Ro_init 10 = .ok (.putfield 11, 3) := by decide +kernel
theorem d_Ro_init_13 : decode b_Ro_init 13 = .ok (.aload_n 0, 1) := by decide +kernel
theorem d_Ro_init_14 : decode b_Ro_init 14 = .ok (.sipush 1024, 3) := by decide +kernel
theorem d_Ro_init_17 : decode b_Ro_init 17 = .ok (.newarray .int, 2) := by decide +kernel
theorem d_Ro_init_19 : decode b_Ro_init 19 = .ok (.putfield 15, 3) := by decide +kernel
theorem d_Ro_init_22 : decode b_Ro_init 22 = .ok (.aload_n 0, 1) := by decide +kernel
theorem d_Ro_init_23 : decode b_Ro_init 23 = .ok (.sipush 1024, 3) := by decide +kernel
theorem d_Ro_init_26 : decode b_Ro_init 26 = .ok (.newarray .int, 2) := by decide +kernel
theorem d_Ro_init_28 : decode b_Ro_init 28 = .ok (.putfield 18, 3) := by decide +kernel
theorem d_Ro_init_31 : decode b_Ro_init 31 = .ok (.aload_n 0, 1) := by decide +kernel
theorem d_Ro_init_32 : decode b_Ro_init 32 = .ok (.sipush 1024, 3) := by decide +kernel
theorem d_Ro_init_35 : decode b_Ro_init 35 = .ok (.newarray .int, 2) := by decide +kernel
theorem d_Ro_init_37 : decode b_Ro_init 37 = .ok (.putfield 21, 3) := by decide +kernel
theorem d_Ro_init_40 : decode b_Ro_init 40 = .ok (.aload_n 0, 1) := by decide +kernel
theorem d_Ro_init_41 : decode b_Ro_init 41 = .ok (.sipush 1024, 3) := by decide +kernel
theorem d_Ro_init_44 : decode b_Ro_init 44 = .ok (.newarray .int, 2) := by decide +kernel
theorem d_Ro_init_46 : decode b_Ro_init 46 = .ok (.putfield 24, 3) := by decide +kernel
theorem d_Ro_init_49 : decode b_Ro_init 49 = .ok (.aload_n 0, 1) := by decide +kernel
theorem d_Ro_init_50 : decode b_Ro_init 50 = .ok (.sipush 1024, 3) := by decide +kernel
theorem d_Ro_init_53 : decode b_Ro_init 53 = .ok (.newarray .int, 2) := by decide +kernel
theorem d_Ro_init_55 : decode b_Ro_init 55 = .ok (.putfield 27, 3) := by decide +kernel
theorem d_Ro_init_58 : decode b_Ro_init 58 = .ok (.aload_n 0, 1) := by decide +kernel
theorem d_Ro_init_59 : decode b_Ro_init 59 = .ok (.sipush 1024, 3) := by decide +kernel
theorem d_Ro_init_62 : decode b_Ro_init 62 = .ok (.newarray .int, 2) := by decide +kernel
theorem d_Ro_init_64 : decode b_Ro_init 64 = .ok (.putfield 30, 3) := by decide +kernel
theorem d_Ro_init_67 : decode b_Ro_init 67 = .ok (.aload_n 0, 1) := by decide +kernel
theorem d_Ro_init_68 : decode b_Ro_init 68 = .ok (.sipush 1024, 3) := by decide +kernel
theorem d_Ro_init_71 : decode b_Ro_init 71 = .ok (.newarray .int, 2) := by decide +kernel
theorem d_Ro_init_73 : decode b_Ro_init 73 = .ok (.putfield 33, 3) := by decide +kernel
theorem d_Ro_init_76 : decode b_Ro_init 76 = .ok (.aload_n 0, 1) := by decide +kernel
theorem d_Ro_init_77 : decode b_Ro_init 77 = .ok (.iload_n 1, 1) := by decide +kernel
theorem d_Ro_init_78 : decode b_Ro_init 78 = .ok (.putfield 36, 3) := by decide +kernel
theorem d_Ro_init_81 : decode b_Ro_init 81 = .ok (.return_, 1) := by decide +kernel
theorem d_Ro_slot_0 : decode b_Ro_slot 0 = .ok (.iload_n 0, 1) := by decide +kernel
theorem d_Ro_slot_1 : decode b_Ro_slot 1 = .ok (.sipush 1023, 3) := by decide +kernel
theorem d_Ro_slot_4 : decode b_Ro_slot 4 = .ok (.iand, 1) := by decide +kernel
theorem d_Ro_slot_5 : decode b_Ro_slot 5 = .ok (.ireturn, 1) := by decide +kernel
theorem d_Ro_keep_0 : decode b_Ro_keep 0 = .ok (.aload_n 1, 1) := by decide +kernel
theorem d_Ro_keep_1 : decode b_Ro_keep 1 = .ok (.invokevirtual 40, 3) := by decide +kernel
theorem d_Ro_keep_4 : decode b_Ro_keep 4 = .ok (.istore_n 2, 1) := by decide +kernel
theorem d_Ro_keep_5 : decode b_Ro_keep 5 = .ok (.aload_n 0, 1) := by decide +kernel
theorem d_Ro_keep_6 : decode b_Ro_keep 6 = .ok (.getfield 46, 3) := by decide +kernel
theorem d_Ro_keep_9 : decode b_Ro_keep 9 = .ok (.aload_n 0, 1) := by decide +kernel
theorem d_Ro_keep_10 : decode b_Ro_keep 10 = .ok (.getfield 49, 3) := by decide +kernel
theorem d_Ro_keep_13 : decode b_Ro_keep 13 = .ok (.if_icmp .ge 60, 3) := by decide +kernel
theorem d_Ro_keep_16 : decode b_Ro_keep 16 = .ok (.aload_n 0, 1) := by decide +kernel
theorem d_Ro_keep_17 : decode b_Ro_keep 17 = .ok (.getfield 52, 3) := by decide +kernel
theorem d_Ro_keep_20 : decode b_Ro_keep 20 = .ok (.iload_n 2, 1) := by decide +kernel
theorem d_Ro_keep_21 : decode b_Ro_keep 21 = .ok (.iadd, 1) := by decide +kernel
theorem d_Ro_keep_22 : decode b_Ro_keep 22 = .ok (.aload_n 0, 1) := by decide +kernel
theorem d_Ro_keep_23 : decode b_Ro_keep 23 = .ok (.getfield 36, 3) := by decide +kernel
theorem d_Ro_keep_26 : decode b_Ro_keep 26 = .ok (.if_icmp .le 47, 3) := by decide +kernel
theorem d_Ro_keep_29 : decode b_Ro_keep 29 = .ok (.aload_n 0, 1) := by decide +kernel
theorem d_Ro_keep_30 : decode b_Ro_keep 30 = .ok (.dup, 1) := by decide +kernel
theorem d_Ro_keep_31 : decode b_Ro_keep 31 = .ok (.getfield 52, 3) := by decide +kernel
theorem d_Ro_keep_34 : decode b_Ro_keep 34 = .ok (.aload_n 0, 1) := by decide +kernel
theorem d_Ro_keep_35 : decode b_Ro_keep 35 = .ok (.getfield 11, 3) := by decide +kernel
theorem d_Ro_keep_38 : decode b_Ro_keep 38 = .ok (.aload_n 0, 1) := by decide +kernel
theorem d_Ro_keep_39 : decode b_Ro_keep 39 = .ok (.getfield 46, 3) := by decide +kernel
theorem d_Ro_keep_42 : decode b_Ro_keep 42 = .ok (.invokestatic 55, 3) := by decide +kernel
theorem d_Ro_keep_45 : decode b_Ro_keep 45 = .ok (.iaload, 1) := by decide +kernel
theorem d_Ro_keep_46 : decode b_Ro_keep 46 = .ok (.isub, 1) := by decide +kernel
theorem d_Ro_keep_47 : decode b_Ro_keep 47 = .ok (.putfield 52, 3) := by decide +kernel
theorem d_Ro_keep_50 : decode b_Ro_keep 50 = .ok (.aload_n 0, 1) := by decide +kernel
theorem d_Ro_keep_51 : decode b_Ro_keep 51 = .ok (.dup, 1) := by decide +kernel
theorem d_Ro_keep_52 : decode b_Ro_keep 52 = .ok (.getfield 46, 3) := by decide +kernel
theorem d_Ro_keep_55 : decode b_Ro_keep 55 = .ok (.iconst 1, 1) := by decide +kernel
theorem d_Ro_keep_56 : decode b_Ro_keep 56 = .ok (.iadd, 1) := by decide +kernel
theorem d_Ro_keep_57 : decode b_Ro_keep 57 = .ok (.putfield 46, 3) := by decide +kernel
theorem d_Ro_keep_60 : decode b_Ro_keep 60 = .ok (.aload_n 0, 1) := by decide +kernel
theorem d_Ro_keep_61 : decode b_Ro_keep 61 = .ok (.dup, 1) := by decide +kernel
theorem d_Ro_keep_62 : decode b_Ro_keep 62 = .ok (.getfield 59, 3) := by decide +kernel
theorem d_Ro_keep_65 : decode b_Ro_keep 65 = .ok (.iconst 1, 1) := by decide +kernel
theorem d_Ro_keep_66 : decode b_Ro_keep 66 = .ok (.iadd, 1) := by decide +kernel
theorem d_Ro_keep_67 : decode b_Ro_keep 67 = .ok (.putfield 59, 3) := by decide +kernel
theorem d_Ro_keep_70 : decode b_Ro_keep 70 = .ok (.goto (-65), 3) := by decide +kernel
theorem d_Ro_keep_73 : decode b_Ro_keep 73 = .ok (.aload_n 0, 1) := by decide +kernel
theorem d_Ro_keep_74 : decode b_Ro_keep 74 = .ok (.getfield 49, 3) := by decide +kernel
theorem d_Ro_keep_77 : decode b_Ro_keep 77 = .ok (.invokestatic 55, 3) := by decide +kernel
theorem d_Ro_keep_80 : decode b_Ro_keep 80 = .ok (.istore_n 3, 1) := by decide +kernel
theorem d_Ro_keep_81 : decode b_Ro_keep 81 = .ok (.aload_n 0, 1) := by decide +kernel
theorem d_Ro_keep_82 : decode b_Ro_keep 82 = .ok (.getfield 11, 3) := by decide +kernel
theorem d_Ro_keep_85 : decode b_Ro_keep 85 = .ok (.iload_n 3, 1) := by decide +kernel
theorem d_Ro_keep_86 : decode b_Ro_keep 86 = .ok (.iload_n 2, 1) := by decide +kernel
theorem d_Ro_keep_87 : decode b_Ro_keep 87 = .ok (.iastore, 1) := by decide +kernel
theorem d_Ro_keep_88 : decode b_Ro_keep 88 = .ok (.aload_n 0, 1) := by decide +kernel
theorem d_Ro_keep_89 : decode b_Ro_keep 89 = .ok (.getfield 15, 3) := by decide +kernel
theorem d_Ro_keep_92 : decode b_Ro_keep 92 = .ok (.iload_n 3, 1) := by decide +kernel
theorem d_Ro_keep_93 : decode b_Ro_keep 93 = .ok (.aload_n 1, 1) := by decide +kernel
theorem d_Ro_keep_94 : decode b_Ro_keep 94 = .ok (.getfield 62, 3) := by decide +kernel
theorem d_Ro_keep_97 : decode b_Ro_keep 97 = .ok (.iastore, 1) := by decide +kernel
theorem d_Ro_keep_98 : decode b_Ro_keep 98 = .ok (.aload_n 0, 1) := by decide +kernel
theorem d_Ro_keep_99 : decode b_Ro_keep 99 = .ok (.getfield 18, 3) := by decide +kernel
theorem d_Ro_keep_102 : decode b_Ro_keep 102 = .ok (.iload_n 3, 1) := by decide +kernel
theorem d_Ro_keep_103 : decode b_Ro_keep 103 = .ok (.aload_n 1, 1) := by decide +kernel
theorem d_Ro_keep_104 : decode b_Ro_keep 104 = .ok (.getfield 64, 3) := by decide +kernel
theorem d_Ro_keep_107 : decode b_Ro_keep 107 = .ok (.iastore, 1) := by decide +kernel
theorem d_Ro_keep_108 : decode b_Ro_keep 108 = .ok (.aload_n 0, 1) := by decide +kernel
theorem d_Ro_keep_109 : decode b_Ro_keep 109 = .ok (.getfield 21, 3) := by decide +kernel
theorem d_Ro_keep_112 : decode b_Ro_keep 112 = .ok (.iload_n 3, 1) := by decide +kernel
theorem d_Ro_keep_113 : decode b_Ro_keep 113 = .ok (.aload_n 1, 1) := by decide +kernel
theorem d_Ro_keep_114 : decode b_Ro_keep 114 = .ok (.getfield 62, 3) := by decide +kernel
theorem d_Ro_keep_117 : decode b_Ro_keep 117 = .ok (.iconst (-1), 1) := by decide +kernel
theorem d_Ro_keep_118 : decode b_Ro_keep 118 = .ok (.if_icmp .ne 7, 3) := by decide +kernel
theorem d_Ro_keep_121 : decode b_Ro_keep 121 = .ok (.iconst 0, 1) := by decide +kernel
theorem d_Ro_keep_122 : decode b_Ro_keep 122 = .ok (.goto 12, 3) := by decide +kernel
theorem d_Ro_keep_125 : decode b_Ro_keep 125 = .ok (.aload_n 1, 1) := by decide +kernel
theorem d_Ro_keep_126 : decode b_Ro_keep 126 = .ok (.getfield 67, 3) := by decide +kernel
theorem d_Ro_keep_129 : decode b_Ro_keep 129 = .ok (.aload_n 1, 1) := by decide +kernel
theorem d_Ro_keep_130 : decode b_Ro_keep 130 = .ok (.getfield 62, 3) := by decide +kernel
theorem d_Ro_keep_133 : decode b_Ro_keep 133 = .ok (.iaload, 1) := by decide +kernel
theorem d_Ro_keep_134 : decode b_Ro_keep 134 = .ok (.iastore, 1) := by decide +kernel
theorem d_Ro_keep_135 : decode b_Ro_keep 135 = .ok (.aload_n 0, 1) := by decide +kernel
theorem d_Ro_keep_136 : decode b_Ro_keep 136 = .ok (.getfield 24, 3) := by decide +kernel
theorem d_Ro_keep_139 : decode b_Ro_keep 139 = .ok (.iload_n 3, 1) := by decide +kernel
theorem d_Ro_keep_140 : decode b_Ro_keep 140 = .ok (.aload_n 1, 1) := by decide +kernel
theorem d_Ro_keep_141 : decode b_Ro_keep 141 = .ok (.getfield 70, 3) := by decide +kernel
theorem d_Ro_keep_144 : decode b_Ro_keep 144 = .ok (.iastore, 1) := by decide +kernel
theorem d_Ro_keep_145 : decode b_Ro_keep 145 = .ok (.aload_n 0, 1) := by decide +kernel
theorem d_Ro_keep_146 : decode b_Ro_keep 146 = .ok (.getfield 27, 3) := by decide +kernel
theorem d_Ro_keep_149 : decode b_Ro_keep 149 = .ok (.iload_n 3, 1) := by decide +kernel
theorem d_Ro_keep_150 : decode b_Ro_keep 150 = .ok (.aload_n 1, 1) := by decide +kernel
theorem d_Ro_keep_151 : decode b_Ro_keep 151 = .ok (.getfield 73, 3) := by decide +kernel
theorem d_Ro_keep_154 : decode b_Ro_keep 154 = .ok (.iastore, 1) := by decide +kernel
theorem d_Ro_keep_155 : decode b_Ro_keep 155 = .ok (.aload_n 0, 1) := by decide +kernel
theorem d_Ro_keep_156 : decode b_Ro_keep 156 = .ok (.getfield 30, 3) := by decide +kernel
theorem d_Ro_keep_159 : decode b_Ro_keep 159 = .ok (.iload_n 3, 1) := by decide +kernel
theorem d_Ro_keep_160 : decode b_Ro_keep 160 = .ok (.aload_n 1, 1) := by decide +kernel
theorem d_Ro_keep_161 : decode b_Ro_keep 161 = .ok (.getfield 76, 3) := by decide +kernel
theorem d_Ro_keep_164 : decode b_Ro_keep 164 = .ok (.iastore, 1) := by decide +kernel
theorem d_Ro_keep_165 : decode b_Ro_keep 165 = .ok (.aload_n 0, 1) := by decide +kernel
theorem d_Ro_keep_166 : decode b_Ro_keep 166 = .ok (.getfield 33, 3) := by decide +kernel
theorem d_Ro_keep_169 : decode b_Ro_keep 169 = .ok (.iload_n 3, 1) := by decide +kernel
theorem d_Ro_keep_170 : decode b_Ro_keep 170 = .ok (.aload_n 1, 1) := by decide +kernel
theorem d_Ro_keep_171 : decode b_Ro_keep 171 = .ok (.getfield 79, 3) := by decide +kernel
theorem d_Ro_keep_174 : decode b_Ro_keep 174 = .ok (.iastore, 1) := by decide +kernel
theorem d_Ro_keep_175 : decode b_Ro_keep 175 = .ok (.aload_n 0, 1) := by decide +kernel
theorem d_Ro_keep_176 : decode b_Ro_keep 176 = .ok (.dup, 1) := by decide +kernel
theorem d_Ro_keep_177 : decode b_Ro_keep 177 = .ok (.getfield 52, 3) := by decide +kernel
theorem d_Ro_keep_180 : decode b_Ro_keep 180 = .ok (.iload_n 2, 1) := by decide +kernel
theorem d_Ro_keep_181 : decode b_Ro_keep 181 = .ok (.iadd, 1) := by decide +kernel
theorem d_Ro_keep_182 : decode b_Ro_keep 182 = .ok (.putfield 52, 3) := by decide +kernel
theorem d_Ro_keep_185 : decode b_Ro_keep 185 = .ok (.aload_n 0, 1) := by decide +kernel
theorem d_Ro_keep_186 : decode b_Ro_keep 186 = .ok (.dup, 1) := by decide +kernel
theorem d_Ro_keep_187 : decode b_Ro_keep 187 = .ok (.getfield 49, 3) := by decide +kernel
theorem d_Ro_keep_190 : decode b_Ro_keep 190 = .ok (.iconst 1, 1) := by decide +kernel
theorem d_Ro_keep_191 : decode b_Ro_keep 191 = .ok (.iadd, 1) := by decide +kernel
theorem d_Ro_keep_192 : decode b_Ro_keep 192 = .ok (.putfield 49, 3) := by decide +kernel
theorem d_Ro_keep_195 : decode b_Ro_keep 195 = .ok (.return_, 1) := by decide +kernel
theorem d_Ro_dropAll_0 : decode b_Ro_dropAll 0 = .ok (.aload_n 0, 1) := by decide +kernel
theorem d_Ro_dropAll_1 : decode b_Ro_dropAll 1 = .ok (.dup, 1) := by decide +kernel
theorem d_Ro_dropAll_2 : decode b_Ro_dropAll 2 = .ok (.getfield 59, 3) := by decide +kernel
theorem d_Ro_dropAll_5 : decode b_Ro_dropAll 5 = .ok (.aload_n 0, 1) := by decide +kernel
theorem d_Ro_dropAll_6 : decode b_Ro_dropAll 6 = .ok (.getfield 49, 3) := by decide +kernel
theorem d_Ro_dropAll_9 : decode b_Ro_dropAll 9 = .ok (.aload_n 0, 1) := by decide +kernel
theorem d_Ro_dropAll_10 : decode b_Ro_dropAll 10 = .ok (.getfield 46, 3) := by decide +kernel
theorem d_Ro_dropAll_13 : decode b_Ro_dropAll 13 = .ok (.isub, 1) := by decide +kernel
theorem d_Ro_dropAll_14 : decode b_Ro_dropAll 14 = .ok (.iadd, 1) := by decide +kernel
theorem d_Ro_dropAll_15 : decode b_Ro_dropAll 15 = .ok (.putfield 59, 3) := by decide +kernel
theorem d_Ro_dropAll_18 : decode b_Ro_dropAll 18 = .ok (.aload_n 0, 1) := by decide +kernel
theorem d_Ro_dropAll_19 : decode b_Ro_dropAll 19 = .ok (.aload_n 0, 1) := by decide +kernel
theorem d_Ro_dropAll_20 : decode b_Ro_dropAll 20 = .ok (.getfield 49, 3) := by decide +kernel
theorem d_Ro_dropAll_23 : decode b_Ro_dropAll 23 = .ok (.putfield 46, 3) := by decide +kernel
theorem d_Ro_dropAll_26 : decode b_Ro_dropAll 26 = .ok (.aload_n 0, 1) := by decide +kernel
theorem d_Ro_dropAll_27 : decode b_Ro_dropAll 27 = .ok (.iconst 0, 1) := by decide +kernel
theorem d_Ro_dropAll_28 : decode b_Ro_dropAll 28 = .ok (.putfield 52, 3) := by decide +kernel
theorem d_Ro_dropAll_31 : decode b_Ro_dropAll 31 = .ok (.return_, 1) := by decide +kernel
theorem d_Ro_forgetBehind_0 : decode b_Ro_forgetBehind 0 = .ok (.aload_n 0, 1) := by decide +kernel
theorem d_Ro_forgetBehind_1 : decode b_Ro_forgetBehind 1 = .ok (.getfield 49, 3) := by decide +kernel
theorem d_Ro_forgetBehind_4 : decode b_Ro_forgetBehind 4 = .ok (.iload_n 1, 1) := by decide +kernel
theorem d_Ro_forgetBehind_5 : decode b_Ro_forgetBehind 5 = .ok (.if_icmp .le 37, 3) := by decide +kernel
theorem d_Ro_forgetBehind_8 : decode b_Ro_forgetBehind 8 = .ok (.aload_n 0, 1) := by decide +kernel
theorem d_Ro_forgetBehind_9 : decode b_Ro_forgetBehind 9 = .ok (.dup, 1) := by decide +kernel
theorem d_Ro_forgetBehind_10 : decode b_Ro_forgetBehind 10 = .ok (.getfield 49, 3) := by decide +kernel
theorem d_Ro_forgetBehind_13 : decode b_Ro_forgetBehind 13 = .ok (.iconst 1, 1) := by decide +kernel
theorem d_Ro_forgetBehind_14 : decode b_Ro_forgetBehind 14 = .ok (.isub, 1) := by decide +kernel
theorem d_Ro_forgetBehind_15 : decode b_Ro_forgetBehind 15 = .ok (.putfield 49, 3) := by decide +kernel
theorem d_Ro_forgetBehind_18 : decode b_Ro_forgetBehind 18 = .ok (.aload_n 0, 1) := by decide +kernel
theorem d_Ro_forgetBehind_19 : decode b_Ro_forgetBehind 19 = .ok (.dup, 1) := by decide +kernel
theorem d_Ro_forgetBehind_20 : decode b_Ro_forgetBehind 20 = .ok (.getfield 52, 3) := by decide +kernel
theorem d_Ro_forgetBehind_23 : decode b_Ro_forgetBehind 23 = .ok (.aload_n 0, 1) := by decide +kernel
theorem d_Ro_forgetBehind_24 : decode b_Ro_forgetBehind 24 = .ok (.getfield 11, 3) := by decide +kernel
theorem d_Ro_forgetBehind_27 : decode b_Ro_forgetBehind 27 = .ok (.aload_n 0, 1) := by decide +kernel
theorem d_Ro_forgetBehind_28 : decode b_Ro_forgetBehind 28 = .ok (.getfield 49, 3) := by decide +kernel
theorem d_Ro_forgetBehind_31 : decode b_Ro_forgetBehind 31 = .ok (.invokestatic 55, 3) := by decide +kernel
theorem d_Ro_forgetBehind_34 : decode b_Ro_forgetBehind 34 = .ok (.iaload, 1) := by decide +kernel
theorem d_Ro_forgetBehind_35 : decode b_Ro_forgetBehind 35 = .ok (.isub, 1) := by decide +kernel
theorem d_Ro_forgetBehind_36 : decode b_Ro_forgetBehind 36 = .ok (.putfield 52, 3) := by decide +kernel
theorem d_Ro_forgetBehind_39 : decode b_Ro_forgetBehind 39 = .ok (.goto (-39), 3) := by decide +kernel
theorem d_Ro_forgetBehind_42 : decode b_Ro_forgetBehind 42 = .ok (.return_, 1) := by decide +kernel
theorem d_Ro_undoDownTo_0 : decode b_Ro_undoDownTo 0 = .ok (.aload_n 0, 1) := by decide +kernel
theorem d_Ro_undoDownTo_1 : decode b_Ro_undoDownTo 1 = .ok (.getfield 49, 3) := by decide +kernel
theorem d_Ro_undoDownTo_4 : decode b_Ro_undoDownTo 4 = .ok (.istore_n 3, 1) := by decide +kernel
theorem d_Ro_undoDownTo_5 : decode b_Ro_undoDownTo 5 = .ok (.iload_n 3, 1) := by decide +kernel
theorem d_Ro_undoDownTo_6 : decode b_Ro_undoDownTo 6 = .ok (.iload_n 1, 1) := by decide +kernel
theorem d_Ro_undoDownTo_7 : decode b_Ro_undoDownTo 7 = .ok (.if_icmp .le 20, 3) := by decide +kernel
theorem d_Ro_undoDownTo_10 : decode b_Ro_undoDownTo 10 = .ok (.aload_n 0, 1) := by decide +kernel
theorem d_Ro_undoDownTo_11 : decode b_Ro_undoDownTo 11 = .ok (.iload_n 3, 1) := by decide +kernel
theorem d_Ro_undoDownTo_12 : decode b_Ro_undoDownTo 12 = .ok (.iconst 1, 1) := by decide +kernel
theorem d_Ro_undoDownTo_13 : decode b_Ro_undoDownTo 13 = .ok (.isub, 1) := by decide +kernel
theorem d_Ro_undoDownTo_14 : decode b_Ro_undoDownTo 14 = .ok (.invokestatic 55, 3) := by decide +kernel
theorem d_Ro_undoDownTo_17 : decode b_Ro_undoDownTo 17 = .ok (.aload_n 2, 1) := by decide +kernel
theorem d_Ro_undoDownTo_18 : decode b_Ro_undoDownTo 18 = .ok (.invokevirtual 82, 3) := by decide +kernel
theorem d_Ro_undoDownTo_21 : decode b_Ro_undoDownTo 21 = .ok (.iinc 3 (-1), 3) := by decide +kernel
theorem d_Ro_undoDownTo_24 : decode b_Ro_undoDownTo 24 = .ok (.goto (-19), 3) := by decide +kernel
theorem d_Ro_undoDownTo_27 : decode b_Ro_undoDownTo 27 = .ok (.return_, 1) := by decide +kernel
theorem d_Ro_undo_0 : decode b_Ro_undo 0 = .ok (.aload_n 0, 1) := by decide +kernel
theorem d_Ro_undo_1 : decode b_Ro_undo 1 = .ok (.getfield 15, 3) := by decide +kernel
theorem d_Ro_undo_4 : decode b_Ro_undo 4 = .ok (.iload_n 1, 1) := by decide +kernel
theorem d_Ro_undo_5 : decode b_Ro_undo 5 = .ok (.iaload, 1) := by decide +kernel
theorem d_Ro_undo_6 : decode b_Ro_undo 6 = .ok (.iconst (-1), 1) := by decide +kernel
theorem d_Ro_undo_7 : decode b_Ro_undo 7 = .ok (.if_icmp .eq 20, 3) := by decide +kernel
theorem d_Ro_undo_10 : decode b_Ro_undo 10 = .ok (.aload_n 2, 1) := by decide +kernel
theorem d_Ro_undo_11 : decode b_Ro_undo 11 = .ok (.getfield 67, 3) := by decide +kernel
theorem d_Ro_undo_14 : decode b_Ro_undo 14 = .ok (.aload_n 0, 1) := by decide +kernel
theorem d_Ro_undo_15 : decode b_Ro_undo 15 = .ok (.getfield 15, 3) := by decide +kernel
theorem d_Ro_undo_18 : decode b_Ro_undo 18 = .ok (.iload_n 1, 1) := by decide +kernel
theorem d_Ro_undo_19 : decode b_Ro_undo 19 = .ok (.iaload, 1) := by decide +kernel
theorem d_Ro_undo_20 : decode b_Ro_undo 20 = .ok (.aload_n 0, 1) := by decide +kernel
theorem d_Ro_undo_21 : decode b_Ro_undo 21 = .ok (.getfield 18, 3) := by decide +kernel
theorem d_Ro_undo_24 : decode b_Ro_undo 24 = .ok (.iload_n 1, 1) := by decide +kernel
theorem d_Ro_undo_25 : decode b_Ro_undo 25 = .ok (.iaload, 1) := by decide +kernel
theorem d_Ro_undo_26 : decode b_Ro_undo 26 = .ok (.iastore, 1) := by decide +kernel
theorem d_Ro_undo_27 : decode b_Ro_undo 27 = .ok (.aload_n 2, 1) := by decide +kernel
theorem d_Ro_undo_28 : decode b_Ro_undo 28 = .ok (.aload_n 0, 1) := by decide +kernel
theorem d_Ro_undo_29 : decode b_Ro_undo 29 = .ok (.getfield 24, 3) := by decide +kernel
theorem d_Ro_undo_32 : decode b_Ro_undo 32 = .ok (.iload_n 1, 1) := by decide +kernel
theorem d_Ro_undo_33 : decode b_Ro_undo 33 = .ok (.iaload, 1) := by decide +kernel
theorem d_Ro_undo_34 : decode b_Ro_undo 34 = .ok (.putfield 86, 3) := by decide +kernel
theorem d_Ro_undo_37 : decode b_Ro_undo 37 = .ok (.aload_n 2, 1) := by decide +kernel
theorem d_Ro_undo_38 : decode b_Ro_undo 38 = .ok (.aload_n 0, 1) := by decide +kernel
theorem d_Ro_undo_39 : decode b_Ro_undo 39 = .ok (.getfield 27, 3) := by decide +kernel
theorem d_Ro_undo_42 : decode b_Ro_undo 42 = .ok (.iload_n 1, 1) := by decide +kernel
theorem d_Ro_undo_43 : decode b_Ro_undo 43 = .ok (.iaload, 1) := by decide +kernel
theorem d_Ro_undo_44 : decode b_Ro_undo 44 = .ok (.putfield 89, 3) := by decide +kernel
theorem d_Ro_undo_47 : decode b_Ro_undo 47 = .ok (.aload_n 2, 1) := by decide +kernel
theorem d_Ro_undo_48 : decode b_Ro_undo 48 = .ok (.aload_n 0, 1) := by decide +kernel
theorem d_Ro_undo_49 : decode b_Ro_undo 49 = .ok (.getfield 30, 3) := by decide +kernel
theorem d_Ro_undo_52 : decode b_Ro_undo 52 = .ok (.iload_n 1, 1) := by decide +kernel
theorem d_Ro_undo_53 : decode b_Ro_undo 53 = .ok (.iaload, 1) := by decide +kernel
theorem d_Ro_undo_54 : decode b_Ro_undo 54 = .ok (.putfield 92, 3) := by decide +kernel
theorem d_Ro_undo_57 : decode b_Ro_undo 57 = .ok (.aload_n 2, 1) := by decide +kernel
theorem d_Ro_undo_58 : decode b_Ro_undo 58 = .ok (.aload_n 0, 1) := by decide +kernel
theorem d_Ro_undo_59 : decode b_Ro_undo 59 = .ok (.getfield 33, 3) := by decide +kernel
theorem d_Ro_undo_62 : decode b_Ro_undo 62 = .ok (.iload_n 1, 1) := by decide +kernel
theorem d_Ro_undo_63 : decode b_Ro_undo 63 = .ok (.iaload, 1) := by decide +kernel
theorem d_Ro_undo_64 : decode b_Ro_undo 64 = .ok (.putfield 94, 3) := by decide +kernel
theorem d_Ro_undo_67 : decode b_Ro_undo 67 = .ok (.aload_n 2, 1) := by decide +kernel
theorem d_Ro_undo_68 : decode b_Ro_undo 68 = .ok (.iconst 0, 1) := by decide +kernel
theorem d_Ro_undo_69 : decode b_Ro_undo 69 = .ok (.putfield 97, 3) := by decide +kernel
theorem d_Ro_undo_72 : decode b_Ro_undo 72 = .ok (.return_, 1) := by decide +kernel
theorem d_Ro_costOf_0 : decode b_Ro_costOf 0 = .ok (.aload_n 0, 1) := by decide +kernel
theorem d_Ro_costOf_1 : decode b_Ro_costOf 1 = .ok (.getfield 11, 3) := by decide +kernel
theorem d_Ro_costOf_4 : decode b_Ro_costOf 4 = .ok (.iload_n 1, 1) := by decide +kernel
theorem d_Ro_costOf_5 : decode b_Ro_costOf 5 = .ok (.invokestatic 55, 3) := by decide +kernel
theorem d_Ro_costOf_8 : decode b_Ro_costOf 8 = .ok (.iaload, 1) := by decide +kernel
theorem d_Ro_costOf_9 : decode b_Ro_costOf 9 = .ok (.ireturn, 1) := by decide +kernel
theorem d_Ro_writtenBy_0 : decode b_Ro_writtenBy 0 = .ok (.aload_n 0, 1) := by decide +kernel
theorem d_Ro_writtenBy_1 : decode b_Ro_writtenBy 1 = .ok (.getfield 15, 3) := by decide +kernel
theorem d_Ro_writtenBy_4 : decode b_Ro_writtenBy 4 = .ok (.iload_n 1, 1) := by decide +kernel
theorem d_Ro_writtenBy_5 : decode b_Ro_writtenBy 5 = .ok (.invokestatic 55, 3) := by decide +kernel
theorem d_Ro_writtenBy_8 : decode b_Ro_writtenBy 8 = .ok (.iaload, 1) := by decide +kernel
theorem d_Ro_writtenBy_9 : decode b_Ro_writtenBy 9 = .ok (.ireturn, 1) := by decide +kernel
theorem d_Ro_numberBefore_0 : decode b_Ro_numberBefore 0 = .ok (.iload_n 1, 1) := by decide +kernel
theorem d_Ro_numberBefore_1 : decode b_Ro_numberBefore 1 = .ok (.invokestatic 55, 3) := by decide +kernel
theorem d_Ro_numberBefore_4 : decode b_Ro_numberBefore 4 = .ok (.istore 4, 2) := by decide +kernel
theorem d_Ro_numberBefore_6 : decode b_Ro_numberBefore 6 = .ok (.aload_n 0, 1) := by decide +kernel
theorem d_Ro_numberBefore_7 : decode b_Ro_numberBefore 7 = .ok (.getfield 15, 3) := by decide +kernel
theorem d_Ro_numberBefore_10 : decode b_Ro_numberBefore 10 = .ok (.iload 4, 2) := by decide +kernel
theorem d_Ro_numberBefore_12 : decode b_Ro_numberBefore 12 = .ok (.iaload, 1) := by decide +kernel
theorem d_Ro_numberBefore_13 : decode b_Ro_numberBefore 13 = .ok (.iload_n 2, 1) := by decide +kernel
theorem d_Ro_numberBefore_14 : decode b_Ro_numberBefore 14 = .ok (.if_icmp .ne 13, 3) := by decide +kernel
theorem d_Ro_numberBefore_17 : decode b_Ro_numberBefore 17 = .ok (.aload_n 0, 1) := by decide +kernel
theorem d_Ro_numberBefore_18 : decode b_Ro_numberBefore 18 = .ok (.getfield 18, 3) := by decide +kernel
theorem d_Ro_numberBefore_21 : decode b_Ro_numberBefore 21 = .ok (.iload 4, 2) := by decide +kernel
theorem d_Ro_numberBefore_23 : decode b_Ro_numberBefore 23 = .ok (.iaload, 1) := by decide +kernel
theorem d_Ro_numberBefore_24 : decode b_Ro_numberBefore 24 = .ok (.goto 4, 3) := by decide +kernel
theorem d_Ro_numberBefore_27 : decode b_Ro_numberBefore 27 = .ok (.iload_n 3, 1) := by decide +kernel
theorem d_Ro_numberBefore_28 : decode b_Ro_numberBefore 28 = .ok (.ireturn, 1) := by decide +kernel
theorem d_Ro_restBefore_0 : decode b_Ro_restBefore 0 = .ok (.iload_n 1, 1) := by decide +kernel
theorem d_Ro_restBefore_1 : decode b_Ro_restBefore 1 = .ok (.invokestatic 55, 3) := by decide +kernel
theorem d_Ro_restBefore_4 : decode b_Ro_restBefore 4 = .ok (.istore_n 3, 1) := by decide +kernel
theorem d_Ro_restBefore_5 : decode b_Ro_restBefore 5 = .ok (.iload_n 2, 1) := by decide +kernel
theorem d_Ro_restBefore_6 : decode b_Ro_restBefore 6 = .ok (.tableswitch 58 264 267 #[30, 37, 44, 51], 30) := by decide +kernel
theorem d_Ro_restBefore_36 : decode b_Ro_restBefore 36 = .ok (.aload_n 0, 1) := by decide +kernel
theorem d_Ro_restBefore_37 : decode b_Ro_restBefore 37 = .ok (.getfield 24, 3) := by decide +kernel
theorem d_Ro_restBefore_40 : decode b_Ro_restBefore 40 = .ok (.iload_n 3, 1) := by decide +kernel
theorem d_Ro_restBefore_41 : decode b_Ro_restBefore 41 = .ok (.iaload, 1) := by decide +kernel
theorem d_Ro_restBefore_42 : decode b_Ro_restBefore 42 = .ok (.ireturn, 1) := by decide +kernel
theorem d_Ro_restBefore_43 : decode b_Ro_restBefore 43 = .ok (.aload_n 0, 1) := by decide +kernel
theorem d_Ro_restBefore_44 : decode b_Ro_restBefore 44 = .ok (.getfield 27, 3) := by decide +kernel
theorem d_Ro_restBefore_47 : decode b_Ro_restBefore 47 = .ok (.iload_n 3, 1) := by decide +kernel
theorem d_Ro_restBefore_48 : decode b_Ro_restBefore 48 = .ok (.iaload, 1) := by decide +kernel
theorem d_Ro_restBefore_49 : decode b_Ro_restBefore 49 = .ok (.ireturn, 1) := by decide +kernel
theorem d_Ro_restBefore_50 : decode b_Ro_restBefore 50 = .ok (.aload_n 0, 1) := by decide +kernel
theorem d_Ro_restBefore_51 : decode b_Ro_restBefore 51 = .ok (.getfield 30, 3) := by decide +kernel
theorem d_Ro_restBefore_54 : decode b_Ro_restBefore 54 = .ok (.iload_n 3, 1) := by decide +kernel
theorem d_Ro_restBefore_55 : decode b_Ro_restBefore 55 = .ok (.iaload, 1) := by decide +kernel
theorem d_Ro_restBefore_56 : decode b_Ro_restBefore 56 = .ok (.ireturn, 1) := by decide +kernel
theorem d_Ro_restBefore_57 : decode b_Ro_restBefore 57 = .ok (.aload_n 0, 1) := by decide +kernel
theorem d_Ro_restBefore_58 : decode b_Ro_restBefore 58 = .ok (.getfield 33, 3) := by decide +kernel
theorem d_Ro_restBefore_61 : decode b_Ro_restBefore 61 = .ok (.iload_n 3, 1) := by decide +kernel
theorem d_Ro_restBefore_62 : decode b_Ro_restBefore 62 = .ok (.iaload, 1) := by decide +kernel
theorem d_Ro_restBefore_63 : decode b_Ro_restBefore 63 = .ok (.ireturn, 1) := by decide +kernel
theorem d_Ro_restBefore_64 : decode b_Ro_restBefore 64 = .ok (.iconst 0, 1) := by decide +kernel
theorem d_Ro_restBefore_65 : decode b_Ro_restBefore 65 = .ok (.ireturn, 1) := by decide +kernel
theorem d_Ro_sameNumbersBehind_0 : decode b_Ro_sameNumbersBehind 0 = .ok (.iload_n 1, 1) := by decide +kernel
theorem d_Ro_sameNumbersBehind_1 : decode b_Ro_sameNumbersBehind 1 = .ok (.invokestatic 55, 3) := by decide +kernel
theorem d_Ro_sameNumbersBehind_4 : decode b_Ro_sameNumbersBehind 4 = .ok (.istore_n 3, 1) := by decide +kernel
theorem d_Ro_sameNumbersBehind_5 : decode b_Ro_sameNumbersBehind 5 = .ok (.aload_n 0, 1) := by decide +kernel
theorem d_Ro_sameNumbersBehind_6 : decode b_Ro_sameNumbersBehind 6 = .ok (.getfield 15, 3) := by decide +kernel
theorem d_Ro_sameNumbersBehind_9 : decode b_Ro_sameNumbersBehind 9 = .ok (.iload_n 3, 1) := by decide +kernel
theorem d_Ro_sameNumbersBehind_10 : decode b_Ro_sameNumbersBehind 10 = .ok (.iaload, 1) := by decide +kernel
theorem d_Ro_sameNumbersBehind_11 : decode b_Ro_sameNumbersBehind 11 = .ok (.istore 4, 2) := by decide +kernel
theorem d_Ro_sameNumbersBehind_13 : decode b_Ro_sameNumbersBehind 13 = .ok (.aload_n 2, 1) := by decide +kernel
theorem d_Ro_sameNumbersBehind_14 : decode b_Ro_sameNumbersBehind 14 = .ok (.iload 4, 2) := by decide +kernel
theorem d_Ro_sameNumbersBehind_16 : decode b_Ro_sameNumbersBehind 16 = .ok (.invokevirtual 100, 3) := by decide +kernel
theorem d_Ro_sameNumbersBehind_19 : decode b_Ro_sameNumbersBehind 19 = .ok (.ifCond .eq 29, 3) := by decide +kernel
theorem d_Ro_sameNumbersBehind_22 : decode b_Ro_sameNumbersBehind 22 = .ok (.iload 4, 2) := by decide +kernel
theorem d_Ro_sameNumbersBehind_24 : decode b_Ro_sameNumbersBehind 24 = .ok (.iconst (-1), 1) := by decide +kernel
theorem d_Ro_sameNumbersBehind_25 : decode b_Ro_sameNumbersBehind 25 = .ok (.if_icmp .eq 19, 3) := by decide +kernel
theorem d_Ro_sameNumbersBehind_28 : decode b_Ro_sameNumbersBehind 28 = .ok (.aload_n 2, 1) := by decide +kernel
theorem d_Ro_sameNumbersBehind_29 : decode b_Ro_sameNumbersBehind 29 = .ok (.getfield 67, 3) := by decide +kernel
theorem d_Ro_sameNumbersBehind_32 : decode b_Ro_sameNumbersBehind 32 = .ok (.iload 4, 2) := by decide +kernel
theorem d_Ro_sameNumbersBehind_34 : decode b_Ro_sameNumbersBehind 34 = .ok (.iaload, 1) := by decide +kernel
theorem d_Ro_sameNumbersBehind_35 : decode b_Ro_sameNumbersBehind 35 = .ok (.aload_n 0, 1) := by decide +kernel
theorem d_Ro_sameNumbersBehind_36 : decode b_Ro_sameNumbersBehind 36 = .ok (.getfield 21, 3) := by decide +kernel
theorem d_Ro_sameNumbersBehind_39 : decode b_Ro_sameNumbersBehind 39 = .ok (.iload_n 3, 1) := by decide +kernel
theorem d_Ro_sameNumbersBehind_40 : decode b_Ro_sameNumbersBehind 40 = .ok (.iaload, 1) := by decide +kernel
theorem d_Ro_sameNumbersBehind_41 : decode b_Ro_sameNumbersBehind 41 = .ok (.if_icmp .ne 7, 3) := by decide +kernel
theorem d_Ro_sameNumbersBehind_44 : decode b_Ro_sameNumbersBehind 44 = .ok (.iconst 1, 1) := by decide +kernel
theorem d_Ro_sameNumbersBehind_45 : decode b_Ro_sameNumbersBehind 45 = .ok (.goto 4, 3) := by decide +kernel
theorem d_Ro_sameNumbersBehind_48 : decode b_Ro_sameNumbersBehind 48 = .ok (.iconst 0, 1) := by decide +kernel
theorem d_Ro_sameNumbersBehind_49 : decode b_Ro_sameNumbersBehind 49 = .ok (.ireturn, 1) := by decide +kernel
theorem d_Mt_floorMod_0 : decode b_Mt_floorMod 0 = .ok (.iload_n 0, 1) := by decide +kernel
theorem d_Mt_floorMod_1 : decode b_Mt_floorMod 1 = .ok (.iload_n 1, 1) := by decide +kernel
theorem d_Mt_floorMod_2 : decode b_Mt_floorMod 2 = .ok (.irem, 1) := by decide +kernel
theorem d_Mt_floorMod_3 : decode b_Mt_floorMod 3 = .ok (.istore_n 2, 1) := by decide +kernel
theorem d_Mt_floorMod_4 : decode b_Mt_floorMod 4 = .ok (.iload_n 0, 1) := by decide +kernel
theorem d_Mt_floorMod_5 : decode b_Mt_floorMod 5 = .ok (.iload_n 1, 1) := by decide +kernel
theorem d_Mt_floorMod_6 : decode b_Mt_floorMod 6 = .ok (.ixor, 1) := by decide +kernel
theorem d_Mt_floorMod_7 : decode b_Mt_floorMod 7 = .ok (.ifCond .ge 11, 3) := by decide +kernel
theorem d_Mt_floorMod_10 : decode b_Mt_floorMod 10 = .ok (.iload_n 2, 1) := by decide +kernel
theorem d_Mt_floorMod_11 : decode b_Mt_floorMod 11 = .ok (.ifCond .eq 7, 3) := by decide +kernel
theorem d_Mt_floorMod_14 : decode b_Mt_floorMod 14 = .ok (.iload_n 2, 1) := by decide +kernel
theorem d_Mt_floorMod_15 : decode b_Mt_floorMod 15 = .ok (.iload_n 1, 1) := by decide +kernel
theorem d_Mt_floorMod_16 : decode b_Mt_floorMod 16 = .ok (.iadd, 1) := by decide +kernel
theorem d_Mt_floorMod_17 : decode b_Mt_floorMod 17 = .ok (.ireturn, 1) := by decide +kernel
theorem d_Mt_floorMod_18 : decode b_Mt_floorMod 18 = .ok (.iload_n 2, 1) := by decide +kernel
theorem d_Mt_floorMod_19 : decode b_Mt_floorMod 19 = .ok (.ireturn, 1) := by decide +kernel
theorem d_Mt_floorDiv_0 : decode b_Mt_floorDiv 0 = .ok (.iload_n 0, 1) := by decide +kernel
theorem d_Mt_floorDiv_1 : decode b_Mt_floorDiv 1 = .ok (.iload_n 1, 1) := by decide +kernel
theorem d_Mt_floorDiv_2 : decode b_Mt_floorDiv 2 = .ok (.idiv, 1) := by decide +kernel
theorem d_Mt_floorDiv_3 : decode b_Mt_floorDiv 3 = .ok (.istore_n 2, 1) := by decide +kernel
theorem d_Mt_floorDiv_4 : decode b_Mt_floorDiv 4 = .ok (.iload_n 0, 1) := by decide +kernel
theorem d_Mt_floorDiv_5 : decode b_Mt_floorDiv 5 = .ok (.iload_n 1, 1) := by decide +kernel
theorem d_Mt_floorDiv_6 : decode b_Mt_floorDiv 6 = .ok (.ixor, 1) := by decide +kernel
theorem d_Mt_floorDiv_7 : decode b_Mt_floorDiv 7 = .ok (.ifCond .ge 14, 3) := by decide +kernel
theorem d_Mt_floorDiv_10 : decode b_Mt_floorDiv 10 = .ok (.iload_n 2, 1) := by decide +kernel
theorem d_Mt_floorDiv_11 : decode b_Mt_floorDiv 11 = .ok (.iload_n 1, 1) := by decide +kernel
theorem d_Mt_floorDiv_12 : decode b_Mt_floorDiv 12 = .ok (.imul, 1) := by decide +kernel
theorem d_Mt_floorDiv_13 : decode b_Mt_floorDiv 13 = .ok (.iload_n 0, 1) := by decide +kernel
theorem d_Mt_floorDiv_14 : decode b_Mt_floorDiv 14 = .ok (.if_icmp .eq 7, 3) := by decide +kernel
theorem d_Mt_floorDiv_17 : decode b_Mt_floorDiv 17 = .ok (.iload_n 2, 1) := by decide +kernel
theorem d_Mt_floorDiv_18 : decode b_Mt_floorDiv 18 = .ok (.iconst 1, 1) := by decide +kernel
theorem d_Mt_floorDiv_19 : decode b_Mt_floorDiv 19 = .ok (.isub, 1) := by decide +kernel
theorem d_Mt_floorDiv_20 : decode b_Mt_floorDiv 20 = .ok (.ireturn, 1) := by decide +kernel
theorem d_Mt_floorDiv_21 : decode b_Mt_floorDiv 21 = .ok (.iload_n 2, 1) := by decide +kernel
theorem d_Mt_floorDiv_22 : decode b_Mt_floorDiv 22 = .ok (.ireturn, 1) := by decide +kernel
