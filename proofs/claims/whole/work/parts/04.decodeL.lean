theorem d_La_cell_0 : decode b_La_cell 0 = .ok (.iload_n 1, 1) := by decide +kernel
theorem d_La_cell_1 : decode b_La_cell 1 = .ok (.aload_n 0, 1) := by decide +kernel
theorem d_La_cell_2 : decode b_La_cell 2 = .ok (.arraylength, 1) := by decide +kernel
theorem d_La_cell_3 : decode b_La_cell 3 = .ok (.if_icmp .ge 9, 3) := by decide +kernel
theorem d_La_cell_6 : decode b_La_cell 6 = .ok (.aload_n 0, 1) := by decide +kernel
theorem d_La_cell_7 : decode b_La_cell 7 = .ok (.iload_n 1, 1) := by decide +kernel
theorem d_La_cell_8 : decode b_La_cell 8 = .ok (.iaload, 1) := by decide +kernel
theorem d_La_cell_9 : decode b_La_cell 9 = .ok (.goto 4, 3) := by decide +kernel
theorem d_La_cell_12 : decode b_La_cell 12 = .ok (.iconst 0, 1) := by decide +kernel
theorem d_La_cell_13 : decode b_La_cell 13 = .ok (.ireturn, 1) := by decide +kernel
theorem d_La_program_0 : decode b_La_program 0 = .ok (.aload_n 3, 1) := by decide +kernel
theorem d_La_program_1 : decode b_La_program 1 = .ok (.iconst 0, 1) := by decide +kernel
theorem d_La_program_2 : decode b_La_program 2 = .ok (.aload_n 0, 1) := by decide +kernel
theorem d_La_program_3 : decode b_La_program 3 = .ok (.iload_n 1, 1) := by decide +kernel
theorem d_La_program_4 : decode b_La_program 4 = .ok (.iload_n 2, 1) := by decide +kernel
theorem d_La_program_5 : decode b_La_program 5 = .ok (.invokevirtual 7, 3) := by decide +kernel
theorem d_La_program_8 : decode b_La_program 8 = .ok (.i2l, 1) := by decide +kernel
theorem d_La_program_9 : decode b_La_program 9 = .ok (.lastore, 1) := by decide +kernel
theorem d_La_program_10 : decode b_La_program 10 = .ok (.goto 7, 3) := by decide +kernel
theorem d_La_program_13 : decode b_La_program 13 = .ok (.astore 4, 2) := by decide +kernel
theorem d_La_program_15 : decode b_La_program 15 = .ok (.iconst 1, 1) := by decide +kernel
theorem d_La_program_16 : decode b_La_program 16 = .ok (.ireturn, 1) := by decide +kernel
theorem d_La_program_17 : decode b_La_program 17 = .ok (.iconst 0, 1) := by decide +kernel
theorem d_La_program_18 : decode b_La_program 18 = .ok (.ireturn, 1) := by decide +kernel
theorem d_La_input_0 : decode b_La_input 0 = .ok (.aload_n 2, 1) := by decide +kernel
theorem d_La_input_1 : decode b_La_input 1 = .ok (.iconst 0, 1) := by decide +kernel
theorem d_La_input_2 : decode b_La_input 2 = .ok (.aload_n 0, 1) := by decide +kernel
theorem d_La_input_3 : decode b_La_input 3 = .ok (.iload_n 1, 1) := by decide +kernel
theorem d_La_input_4 : decode b_La_input 4 = .ok (.invokevirtual 15, 3) := by decide +kernel
theorem d_La_input_7 : decode b_La_input 7 = .ok (.i2l, 1) := by decide +kernel
theorem d_La_input_8 : decode b_La_input 8 = .ok (.lastore, 1) := by decide +kernel
theorem d_La_input_9 : decode b_La_input 9 = .ok (.goto 6, 3) := by decide +kernel
theorem d_La_input_12 : decode b_La_input 12 = .ok (.astore_n 3, 1) := by decide +kernel
theorem d_La_input_13 : decode b_La_input 13 = .ok (.iconst 1, 1) := by decide +kernel
theorem d_La_input_14 : decode b_La_input 14 = .ok (.ireturn, 1) := by decide +kernel
theorem d_La_input_15 : decode b_La_input 15 = .ok (.iconst 0, 1) := by decide +kernel
theorem d_La_input_16 : decode b_La_input 16 = .ok (.ireturn, 1) := by decide +kernel
theorem d_La_poke_0 : decode b_La_poke 0 = .ok (.aload_n 3, 1) := by decide +kernel
theorem d_La_poke_1 : decode b_La_poke 1 = .ok (.iconst 0, 1) := by decide +kernel
theorem d_La_poke_2 : decode b_La_poke 2 = .ok (.aload_n 0, 1) := by decide +kernel
theorem d_La_poke_3 : decode b_La_poke 3 = .ok (.iload_n 1, 1) := by decide +kernel
theorem d_La_poke_4 : decode b_La_poke 4 = .ok (.iload_n 2, 1) := by decide +kernel
theorem d_La_poke_5 : decode b_La_poke 5 = .ok (.invokevirtual 21, 3) := by decide +kernel
theorem d_La_poke_8 : decode b_La_poke 8 = .ok (.i2l, 1) := by decide +kernel
theorem d_La_poke_9 : decode b_La_poke 9 = .ok (.lastore, 1) := by decide +kernel
theorem d_La_poke_10 : decode b_La_poke 10 = .ok (.goto 7, 3) := by decide +kernel
theorem d_La_poke_13 : decode b_La_poke 13 = .ok (.astore 4, 2) := by decide +kernel
theorem d_La_poke_15 : decode b_La_poke 15 = .ok (.iconst 1, 1) := by decide +kernel
theorem d_La_poke_16 : decode b_La_poke 16 = .ok (.ireturn, 1) := by decide +kernel
theorem d_La_poke_17 : decode b_La_poke 17 = .ok (.iconst 0, 1) := by decide +kernel
theorem d_La_poke_18 : decode b_La_poke 18 = .ok (.ireturn, 1) := by decide +kernel
theorem d_La_step_0 : decode b_La_step 0 = .ok (.aload_n 2, 1) := by decide +kernel
theorem d_La_step_1 : decode b_La_step 1 = .ok (.iconst 0, 1) := by decide +kernel
theorem d_La_step_2 : decode b_La_step 2 = .ok (.aload_n 0, 1) := by decide +kernel
theorem d_La_step_3 : decode b_La_step 3 = .ok (.iload_n 1, 1) := by decide +kernel
theorem d_La_step_4 : decode b_La_step 4 = .ok (.invokevirtual 24, 3) := by decide +kernel
theorem d_La_step_7 : decode b_La_step 7 = .ok (.i2l, 1) := by decide +kernel
theorem d_La_step_8 : decode b_La_step 8 = .ok (.lastore, 1) := by decide +kernel
theorem d_La_step_9 : decode b_La_step 9 = .ok (.goto 6, 3) := by decide +kernel
theorem d_La_step_12 : decode b_La_step 12 = .ok (.astore_n 3, 1) := by decide +kernel
theorem d_La_step_13 : decode b_La_step 13 = .ok (.iconst 1, 1) := by decide +kernel
theorem d_La_step_14 : decode b_La_step 14 = .ok (.ireturn, 1) := by decide +kernel
theorem d_La_step_15 : decode b_La_step 15 = .ok (.iconst 0, 1) := by decide +kernel
theorem d_La_step_16 : decode b_La_step 16 = .ok (.ireturn, 1) := by decide +kernel
theorem d_La_back_0 : decode b_La_back 0 = .ok (.aload_n 2, 1) := by decide +kernel
theorem d_La_back_1 : decode b_La_back 1 = .ok (.iconst 0, 1) := by decide +kernel
theorem d_La_back_2 : decode b_La_back 2 = .ok (.aload_n 0, 1) := by decide +kernel
theorem d_La_back_3 : decode b_La_back 3 = .ok (.iload_n 1, 1) := by decide +kernel
theorem d_La_back_4 : decode b_La_back 4 = .ok (.invokevirtual 29, 3) := by decide +kernel
theorem d_La_back_7 : decode b_La_back 7 = .ok (.i2l, 1) := by decide +kernel
theorem d_La_back_8 : decode b_La_back 8 = .ok (.lastore, 1) := by decide +kernel
theorem d_La_back_9 : decode b_La_back 9 = .ok (.goto 6, 3) := by decide +kernel
theorem d_La_back_12 : decode b_La_back 12 = .ok (.astore_n 3, 1) := by decide +kernel
theorem d_La_back_13 : decode b_La_back 13 = .ok (.iconst 1, 1) := by decide +kernel
theorem d_La_back_14 : decode b_La_back 14 = .ok (.ireturn, 1) := by decide +kernel
theorem d_La_back_15 : decode b_La_back 15 = .ok (.iconst 0, 1) := by decide +kernel
theorem d_La_back_16 : decode b_La_back 16 = .ok (.ireturn, 1) := by decide +kernel
theorem d_La_look_0 : decode b_La_look 0 = .ok (.aload_n 3, 1) := by decide +kernel
theorem d_La_look_1 : decode b_La_look 1 = .ok (.iconst 0, 1) := by decide +kernel
theorem d_La_look_2 : decode b_La_look 2 = .ok (.aload_n 0, 1) := by decide +kernel
theorem d_La_look_3 : decode b_La_look 3 = .ok (.iload_n 1, 1) := by decide +kernel
theorem d_La_look_4 : decode b_La_look 4 = .ok (.iload_n 2, 1) := by decide +kernel
theorem d_La_look_5 : decode b_La_look 5 = .ok (.invokevirtual 32, 3) := by decide +kernel
theorem d_La_look_8 : decode b_La_look 8 = .ok (.i2l, 1) := by decide +kernel
theorem d_La_look_9 : decode b_La_look 9 = .ok (.lastore, 1) := by decide +kernel
theorem d_La_look_10 : decode b_La_look 10 = .ok (.goto 11, 3) := by decide +kernel
theorem d_La_look_13 : decode b_La_look 13 = .ok (.astore 4, 2) := by decide +kernel
theorem d_La_look_15 : decode b_La_look 15 = .ok (.iconst 1, 1) := by decide +kernel
theorem d_La_look_16 : decode b_La_look 16 = .ok (.ireturn, 1) := by decide +kernel
theorem d_La_look_17 : decode b_La_look 17 = .ok (.astore 4, 2) := by decide +kernel
theorem d_La_look_19 : decode b_La_look 19 = .ok (.iconst 2, 1) := by decide +kernel
theorem d_La_look_20 : decode b_La_look 20 = .ok (.ireturn, 1) := by decide +kernel
theorem d_La_look_21 : decode b_La_look 21 = .ok (.iconst 0, 1) := by decide +kernel
theorem d_La_look_22 : decode b_La_look 22 = .ok (.ireturn, 1) := by decide +kernel
theorem d_La_wrote_0 : decode b_La_wrote 0 = .ok (.aload_n 2, 1) := by decide +kernel
theorem d_La_wrote_1 : decode b_La_wrote 1 = .ok (.iconst 0, 1) := by decide +kernel
theorem d_La_wrote_2 : decode b_La_wrote 2 = .ok (.aload_n 0, 1) := by decide +kernel
theorem d_La_wrote_3 : decode b_La_wrote 3 = .ok (.iload_n 1, 1) := by decide +kernel
theorem d_La_wrote_4 : decode b_La_wrote 4 = .ok (.invokevirtual 35, 3) := by decide +kernel
theorem d_La_wrote_7 : decode b_La_wrote 7 = .ok (.i2l, 1) := by decide +kernel
theorem d_La_wrote_8 : decode b_La_wrote 8 = .ok (.lastore, 1) := by decide +kernel
theorem d_La_wrote_9 : decode b_La_wrote 9 = .ok (.goto 6, 3) := by decide +kernel
theorem d_La_wrote_12 : decode b_La_wrote 12 = .ok (.astore_n 3, 1) := by decide +kernel
theorem d_La_wrote_13 : decode b_La_wrote 13 = .ok (.iconst 1, 1) := by decide +kernel
theorem d_La_wrote_14 : decode b_La_wrote 14 = .ok (.ireturn, 1) := by decide +kernel
theorem d_La_wrote_15 : decode b_La_wrote 15 = .ok (.iconst 0, 1) := by decide +kernel
theorem d_La_wrote_16 : decode b_La_wrote 16 = .ok (.ireturn, 1) := by decide +kernel
theorem d_La_when_0 : decode b_La_when 0 = .ok (.aload 4, 2) := by decide +kernel
theorem d_La_when_2 : decode b_La_when 2 = .ok (.iconst 0, 1) := by decide +kernel
theorem d_La_when_3 : decode b_La_when 3 = .ok (.aload_n 0, 1) := by decide +kernel
theorem d_La_when_4 : decode b_La_when 4 = .ok (.iload_n 1, 1) := by decide +kernel
theorem d_La_when_5 : decode b_La_when 5 = .ok (.iload_n 2, 1) := by decide +kernel
theorem d_La_when_6 : decode b_La_when 6 = .ok (.iload_n 3, 1) := by decide +kernel
theorem d_La_when_7 : decode b_La_when 7 = .ok (.invokevirtual 38, 3) := by decide +kernel
theorem d_La_when_10 : decode b_La_when 10 = .ok (.i2l, 1) := by decide +kernel
theorem d_La_when_11 : decode b_La_when 11 = .ok (.lastore, 1) := by decide +kernel
theorem d_La_when_12 : decode b_La_when 12 = .ok (.goto 11, 3) := by decide +kernel
theorem d_La_when_15 : decode b_La_when 15 = .ok (.astore 5, 2) := by decide +kernel
theorem d_La_when_17 : decode b_La_when 17 = .ok (.iconst 1, 1) := by decide +kernel
theorem d_La_when_18 : decode b_La_when 18 = .ok (.ireturn, 1) := by decide +kernel
theorem d_La_when_19 : decode b_La_when 19 = .ok (.astore 5, 2) := by decide +kernel
theorem d_La_when_21 : decode b_La_when 21 = .ok (.iconst 2, 1) := by decide +kernel
theorem d_La_when_22 : decode b_La_when 22 = .ok (.ireturn, 1) := by decide +kernel
theorem d_La_when_23 : decode b_La_when 23 = .ok (.iconst 0, 1) := by decide +kernel
theorem d_La_when_24 : decode b_La_when 24 = .ok (.ireturn, 1) := by decide +kernel
theorem d_La_cost_0 : decode b_La_cost 0 = .ok (.aload_n 2, 1) := by decide +kernel
theorem d_La_cost_1 : decode b_La_cost 1 = .ok (.iconst 0, 1) := by decide +kernel
theorem d_La_cost_2 : decode b_La_cost 2 = .ok (.aload_n 0, 1) := by decide +kernel
theorem d_La_cost_3 : decode b_La_cost 3 = .ok (.iload_n 1, 1) := by decide +kernel
theorem d_La_cost_4 : decode b_La_cost 4 = .ok (.invokevirtual 42, 3) := by decide +kernel
theorem d_La_cost_7 : decode b_La_cost 7 = .ok (.i2l, 1) := by decide +kernel
theorem d_La_cost_8 : decode b_La_cost 8 = .ok (.lastore, 1) := by decide +kernel
theorem d_La_cost_9 : decode b_La_cost 9 = .ok (.goto 6, 3) := by decide +kernel
theorem d_La_cost_12 : decode b_La_cost 12 = .ok (.astore_n 3, 1) := by decide +kernel
theorem d_La_cost_13 : decode b_La_cost 13 = .ok (.iconst 1, 1) := by decide +kernel
theorem d_La_cost_14 : decode b_La_cost 14 = .ok (.ireturn, 1) := by decide +kernel
theorem d_La_cost_15 : decode b_La_cost 15 = .ok (.iconst 0, 1) := by decide +kernel
theorem d_La_cost_16 : decode b_La_cost 16 = .ok (.ireturn, 1) := by decide +kernel
theorem d_La_law_0 : decode b_La_law 0 = .ok (.new 8, 3) := by decide +kernel
theorem d_La_law_3 : decode b_La_law 3 = .ok (.dup, 1) := by decide +kernel
theorem d_La_law_4 : decode b_La_law 4 = .ok (.aload_n 0, 1) := by decide +kernel
theorem d_La_law_5 : decode b_La_law 5 = .ok (.iconst 0, 1) := by decide +kernel
theorem d_La_law_6 : decode b_La_law 6 = .ok (.invokestatic 45, 3) := by decide +kernel
theorem d_La_law_9 : decode b_La_law 9 = .ok (.aload_n 0, 1) := by decide +kernel
theorem d_La_law_10 : decode b_La_law 10 = .ok (.iconst 1, 1) := by decide +kernel
theorem d_La_law_11 : decode b_La_law 11 = .ok (.invokestatic 45, 3) := by decide +kernel
theorem d_La_law_14 : decode b_La_law 14 = .ok (.invokespecial 51, 3) := by decide +kernel
theorem d_La_law_17 : decode b_La_law 17 = .ok (.astore_n 1, 1) := by decide +kernel
theorem d_La_law_18 : decode b_La_law 18 = .ok (.new 54, 3) := by decide +kernel
theorem d_La_law_21 : decode b_La_law 21 = .ok (.dup, 1) := by decide +kernel
theorem d_La_law_22 : decode b_La_law 22 = .ok (.aload_n 0, 1) := by decide +kernel
theorem d_La_law_23 : decode b_La_law 23 = .ok (.iconst 0, 1) := by decide +kernel
theorem d_La_law_24 : decode b_La_law 24 = .ok (.invokestatic 45, 3) := by decide +kernel
theorem d_La_law_27 : decode b_La_law 27 = .ok (.aload_n 0, 1) := by decide +kernel
theorem d_La_law_28 : decode b_La_law 28 = .ok (.iconst 1, 1) := by decide +kernel
theorem d_La_law_29 : decode b_La_law 29 = .ok (.invokestatic 45, 3) := by decide +kernel
theorem d_La_law_32 : decode b_La_law 32 = .ok (.invokespecial 56, 3) := by decide +kernel
theorem d_La_law_35 : decode b_La_law 35 = .ok (.astore_n 2, 1) := by decide +kernel
theorem d_La_law_36 : decode b_La_law 36 = .ok (.iconst 1, 1) := by decide +kernel
theorem d_La_law_37 : decode b_La_law 37 = .ok (.newarray .long, 2) := by decide +kernel
theorem d_La_law_39 : decode b_La_law 39 = .ok (.astore_n 3, 1) := by decide +kernel
theorem d_La_law_40 : decode b_La_law 40 = .ok (.iconst 2, 1) := by decide +kernel
theorem d_La_law_41 : decode b_La_law 41 = .ok (.istore 4, 2) := by decide +kernel
theorem d_La_law_43 : decode b_La_law 43 = .ok (.iload 4, 2) := by decide +kernel
theorem d_La_law_45 : decode b_La_law 45 = .ok (.aload_n 0, 1) := by decide +kernel
theorem d_La_law_46 : decode b_La_law 46 = .ok (.arraylength, 1) := by decide +kernel
theorem d_La_law_47 : decode b_La_law 47 = .ok (.iconst 4, 1) := by decide +kernel
theorem d_La_law_48 : decode b_La_law 48 = .ok (.isub, 1) := by decide +kernel
theorem d_La_law_49 : decode b_La_law 49 = .ok (.if_icmp .gt 675, 3) := by decide +kernel
theorem d_La_law_52 : decode b_La_law 52 = .ok (.aload_n 0, 1) := by decide +kernel
theorem d_La_law_53 : decode b_La_law 53 = .ok (.iload 4, 2) := by decide +kernel
theorem d_La_law_55 : decode b_La_law 55 = .ok (.iaload, 1) := by decide +kernel
theorem d_La_law_56 : decode b_La_law 56 = .ok (.bipush 15, 2) := by decide +kernel
theorem d_La_law_58 : decode b_La_law 58 = .ok (.iand, 1) := by decide +kernel
theorem d_La_law_59 : decode b_La_law 59 = .ok (.tableswitch 659 0 10 #[57, 125, 181, 249, 305, 361, 429, 485, 565, 578, 634], 57) := by decide +kernel
theorem d_La_law_116 : decode b_La_law 116 = .ok (.aload_n 1, 1) := by decide +kernel
theorem d_La_law_117 : decode b_La_law 117 = .ok (.aload_n 0, 1) := by decide +kernel
theorem d_La_law_118 : decode b_La_law 118 = .ok (.iload 4, 2) := by decide +kernel
theorem d_La_law_120 : decode b_La_law 120 = .ok (.iconst 1, 1) := by decide +kernel
theorem d_La_law_121 : decode b_La_law 121 = .ok (.iadd, 1) := by decide +kernel
theorem d_La_law_122 : decode b_La_law 122 = .ok (.iaload, 1) := by decide +kernel
theorem d_La_law_123 : decode b_La_law 123 = .ok (.aload_n 0, 1) := by decide +kernel
theorem d_La_law_124 : decode b_La_law 124 = .ok (.iload 4, 2) := by decide +kernel
theorem d_La_law_126 : decode b_La_law 126 = .ok (.iconst 2, 1) := by decide +kernel
theorem d_La_law_127 : decode b_La_law 127 = .ok (.iadd, 1) := by decide +kernel
theorem d_La_law_128 : decode b_La_law 128 = .ok (.iaload, 1) := by decide +kernel
theorem d_La_law_129 : decode b_La_law 129 = .ok (.aload_n 3, 1) := by decide +kernel
theorem d_La_law_130 : decode b_La_law 130 = .ok (.invokestatic 57, 3) := by decide +kernel
theorem d_La_law_133 : decode b_La_law 133 = .ok (.istore 5, 2) := by decide +kernel
theorem d_La_law_135 : decode b_La_law 135 = .ok (.aload_n 2, 1) := by decide +kernel
theorem d_La_law_136 : decode b_La_law 136 = .ok (.aload_n 0, 1) := by decide +kernel
theorem d_La_law_137 : decode b_La_law 137 = .ok (.iload 4, 2) := by decide +kernel
theorem d_La_law_139 : decode b_La_law 139 = .ok (.iconst 1, 1) := by decide +kernel
theorem d_La_law_140 : decode b_La_law 140 = .ok (.iadd, 1) := by decide +kernel
theorem d_La_law_141 : decode b_La_law 141 = .ok (.iaload, 1) := by decide +kernel
theorem d_La_law_142 : decode b_La_law 142 = .ok (.aload_n 0, 1) := by decide +kernel
theorem d_La_law_143 : decode b_La_law 143 = .ok (.iload 4, 2) := by decide +kernel
theorem d_La_law_145 : decode b_La_law 145 = .ok (.iconst 2, 1) := by decide +kernel
theorem d_La_law_146 : decode b_La_law 146 = .ok (.iadd, 1) := by decide +kernel
theorem d_La_law_147 : decode b_La_law 147 = .ok (.iaload, 1) := by decide +kernel
theorem d_La_law_148 : decode b_La_law 148 = .ok (.invokevirtual 60, 3) := by decide +kernel
theorem d_La_law_151 : decode b_La_law 151 = .ok (.istore 6, 2) := by decide +kernel
theorem d_La_law_153 : decode b_La_law 153 = .ok (.aload_n 2, 1) := by decide +kernel
theorem d_La_law_154 : decode b_La_law 154 = .ok (.invokevirtual 61, 3) := by decide +kernel
theorem d_La_law_157 : decode b_La_law 157 = .ok (.iload 5, 2) := by decide +kernel
theorem d_La_law_159 : decode b_La_law 159 = .ok (.if_icmp .eq 5, 3) := by decide +kernel
theorem d_La_law_162 : decode b_La_law 162 = .ok (.iconst 0, 1) := by decide +kernel
theorem d_La_law_163 : decode b_La_law 163 = .ok (.ireturn, 1) := by decide +kernel
theorem d_La_law_164 : decode b_La_law 164 = .ok (.iload 5, 2) := by decide +kernel
theorem d_La_law_166 : decode b_La_law 166 = .ok (.ifCond .ne 15, 3) := by decide +kernel
theorem d_La_law_169 : decode b_La_law 169 = .ok (.aload_n 3, 1) := by decide +kernel
theorem d_La_law_170 : decode b_La_law 170 = .ok (.iconst 0, 1) := by decide +kernel
theorem d_La_law_171 : decode b_La_law 171 = .ok (.laload, 1) := by decide +kernel
theorem d_La_law_172 : decode b_La_law 172 = .ok (.iload 6, 2) := by decide +kernel
theorem d_La_law_174 : decode b_La_law 174 = .ok (.i2l, 1) := by decide +kernel
theorem d_La_law_175 : decode b_La_law 175 = .ok (.lcmp, 1) := by decide +kernel
theorem d_La_law_176 : decode b_La_law 176 = .ok (.ifCond .eq 5, 3) := by decide +kernel
theorem d_La_law_179 : decode b_La_law 179 = .ok (.iconst 0, 1) := by decide +kernel
theorem d_La_law_180 : decode b_La_law 180 = .ok (.ireturn, 1) := by decide +kernel
theorem d_La_law_181 : decode b_La_law 181 = .ok (.goto 537, 3) := by decide +kernel
theorem d_La_law_184 : decode b_La_law 184 = .ok (.aload_n 1, 1) := by decide +kernel
theorem d_La_law_185 : decode b_La_law 185 = .ok (.aload_n 0, 1) := by decide +kernel
theorem d_La_law_186 : decode b_La_law 186 = .ok (.iload 4, 2) := by decide +kernel
theorem d_La_law_188 : decode b_La_law 188 = .ok (.iconst 1, 1) := by decide +kernel
theorem d_La_law_189 : decode b_La_law 189 = .ok (.iadd, 1) := by decide +kernel
theorem d_La_law_190 : decode b_La_law 190 = .ok (.iaload, 1) := by decide +kernel
theorem d_La_law_191 : decode b_La_law 191 = .ok (.aload_n 3, 1) := by decide +kernel
theorem d_La_law_192 : decode b_La_law 192 = .ok (.invokestatic 65, 3) := by decide +kernel
theorem d_La_law_195 : decode b_La_law 195 = .ok (.istore 5, 2) := by decide +kernel
theorem d_La_law_197 : decode b_La_law 197 = .ok (.aload_n 2, 1) := by decide +kernel
theorem d_La_law_198 : decode b_La_law 198 = .ok (.aload_n 0, 1) := by decide +kernel
theorem d_La_law_199 : decode b_La_law 199 = .ok (.iload 4, 2) := by decide +kernel
theorem d_La_law_201 : decode b_La_law 201 = .ok (.iconst 1, 1) := by decide +kernel
theorem d_La_law_202 : decode b_La_law 202 = .ok (.iadd, 1) := by decide +kernel
theorem d_La_law_203 : decode b_La_law 203 = .ok (.iaload, 1) := by decide +kernel
theorem d_La_law_204 : decode b_La_law 204 = .ok (.invokevirtual 68, 3) := by decide +kernel
theorem d_La_law_207 : decode b_La_law 207 = .ok (.istore 6, 2) := by decide +kernel
theorem d_La_law_209 : decode b_La_law 209 = .ok (.aload_n 2, 1) := by decide +kernel
theorem d_La_law_210 : decode b_La_law 210 = .ok (.invokevirtual 61, 3) := by decide +kernel
theorem d_La_law_213 : decode b_La_law 213 = .ok (.iload 5, 2) := by decide +kernel
theorem d_La_law_215 : decode b_La_law 215 = .ok (.if_icmp .eq 5, 3) := by decide +kernel
theorem d_La_law_218 : decode b_La_law 218 = .ok (.iconst 0, 1) := by decide +kernel
theorem d_La_law_219 : decode b_La_law 219 = .ok (.ireturn, 1) := by decide +kernel
theorem d_La_law_220 : decode b_La_law 220 = .ok (.iload 5, 2) := by decide +kernel
theorem d_La_law_222 : decode b_La_law 222 = .ok (.ifCond .ne 15, 3) := by decide +kernel
theorem d_La_law_225 : decode b_La_law 225 = .ok (.aload_n 3, 1) := by decide +kernel
theorem d_La_law_226 : decode b_La_law 226 = .ok (.iconst 0, 1) := by decide +kernel
theorem d_La_law_227 : decode b_La_law 227 = .ok (.laload, 1) := by decide +kernel
theorem d_La_law_228 : decode b_La_law 228 = .ok (.iload 6, 2) := by decide +kernel
theorem d_La_law_230 : decode b_La_law 230 = .ok (.i2l, 1) := by decide +kernel
theorem d_La_law_231 : decode b_La_law 231 = .ok (.lcmp, 1) := by decide +kernel
theorem d_La_law_232 : decode b_La_law 232 = .ok (.ifCond .eq 5, 3) := by decide +kernel
theorem d_La_law_235 : decode b_La_law 235 = .ok (.iconst 0, 1) := by decide +kernel
theorem d_La_law_236 : decode b_La_law 236 = .ok (.ireturn, 1) := by decide +kernel
theorem d_La_law_237 : decode b_La_law 237 = .ok (.goto 481, 3) := by decide +kernel
theorem d_La_law_240 : decode b_La_law 240 = .ok (.aload_n 1, 1) := by decide +kernel
theorem d_La_law_241 : decode b_La_law 241 = .ok (.aload_n 0, 1) := by decide +kernel
theorem d_La_law_242 : decode b_La_law 242 = .ok (.iload 4, 2) := by decide +kernel
theorem d_La_law_244 : decode b_La_law 244 = .ok (.iconst 1, 1) := by decide +kernel
theorem d_La_law_245 : decode b_La_law 245 = .ok (.iadd, 1) := by decide +kernel
theorem d_La_law_246 : decode b_La_law 246 = .ok (.iaload, 1) := by decide +kernel
theorem d_La_law_247 : decode b_La_law 247 = .ok (.aload_n 0, 1) := by decide +kernel
theorem d_La_law_248 : decode b_La_law 248 = .ok (.iload 4, 2) := by decide +kernel
theorem d_La_law_250 : decode b_La_law 250 = .ok (.iconst 2, 1) := by decide +kernel
theorem d_La_law_251 : decode b_La_law 251 = .ok (.iadd, 1) := by decide +kernel
theorem d_La_law_252 : decode b_La_law 252 = .ok (.iaload, 1) := by decide +kernel
theorem d_La_law_253 : decode b_La_law 253 = .ok (.aload_n 3, 1) := by decide +kernel
theorem d_La_law_254 : decode b_La_law 254 = .ok (.invokestatic 69, 3) := by decide +kernel
theorem d_La_law_257 : decode b_La_law 257 = .ok (.istore 5, 2) := by decide +kernel
theorem d_La_law_259 : decode b_La_law 259 = .ok (.aload_n 2, 1) := by decide +kernel
theorem d_La_law_260 : decode b_La_law 260 = .ok (.aload_n 0, 1) := by decide +kernel
theorem d_La_law_261 : decode b_La_law 261 = .ok (.iload 4, 2) := by decide +kernel
theorem d_La_law_263 : decode b_La_law 263 = .ok (.iconst 1, 1) := by decide +kernel
theorem d_La_law_264 : decode b_La_law 264 = .ok (.iadd, 1) := by decide +kernel
theorem d_La_law_265 : decode b_La_law 265 = .ok (.iaload, 1) := by decide +kernel
theorem d_La_law_266 : decode b_La_law 266 = .ok (.aload_n 0, 1) := by decide +kernel
theorem d_La_law_267 : decode b_La_law 267 = .ok (.iload 4, 2) := by decide +kernel
theorem d_La_law_269 : decode b_La_law 269 = .ok (.iconst 2, 1) := by decide +kernel
theorem d_La_law_270 : decode b_La_law 270 = .ok (.iadd, 1) := by decide +kernel
theorem d_La_law_271 : decode b_La_law 271 = .ok (.iaload, 1) := by decide +kernel
theorem d_La_law_272 : decode b_La_law 272 = .ok (.invokevirtual 71, 3) := by decide +kernel
theorem d_La_law_275 : decode b_La_law 275 = .ok (.istore 6, 2) := by decide +kernel
theorem d_La_law_277 : decode b_La_law 277 = .ok (.aload_n 2, 1) := by decide +kernel
theorem d_La_law_278 : decode b_La_law 278 = .ok (.invokevirtual 61, 3) := by decide +kernel
theorem d_La_law_281 : decode b_La_law 281 = .ok (.iload 5, 2) := by decide +kernel
theorem d_La_law_283 : decode b_La_law 283 = .ok (.if_icmp .eq 5, 3) := by decide +kernel
theorem d_La_law_286 : decode b_La_law 286 = .ok (.iconst 0, 1) := by decide +kernel
theorem d_La_law_287 : decode b_La_law 287 = .ok (.ireturn, 1) := by decide +kernel
theorem d_La_law_288 : decode b_La_law 288 = .ok (.iload 5, 2) := by decide +kernel
theorem d_La_law_290 : decode b_La_law 290 = .ok (.ifCond .ne 15, 3) := by decide +kernel
theorem d_La_law_293 : decode b_La_law 293 = .ok (.aload_n 3, 1) := by decide +kernel
theorem d_La_law_294 : decode b_La_law 294 = .ok (.iconst 0, 1) := by decide +kernel
theorem d_La_law_295 : decode b_La_law 295 = .ok (.laload, 1) := by decide +kernel
theorem d_La_law_296 : decode b_La_law 296 = .ok (.iload 6, 2) := by decide +kernel
theorem d_La_law_298 : decode b_La_law 298 = .ok (.i2l, 1) := by decide +kernel
theorem d_La_law_299 : decode b_La_law 299 = .ok (.lcmp, 1) := by decide +kernel
theorem d_La_law_300 : decode b_La_law 300 = .ok (.ifCond .eq 5, 3) := by decide +kernel
theorem d_La_law_303 : decode b_La_law 303 = .ok (.iconst 0, 1) := by decide +kernel
theorem d_La_law_304 : decode b_La_law 304 = .ok (.ireturn, 1) := by decide +kernel
theorem d_La_law_305 : decode b_La_law 305 = .ok (.goto 413, 3) := by decide +kernel
theorem d_La_law_308 : decode b_La_law 308 = .ok (.aload_n 1, 1) := by decide +kernel
theorem d_La_law_309 : decode b_La_law 309 = .ok (.aload_n 0, 1) := by decide +kernel
theorem d_La_law_310 : decode b_La_law 310 = .ok (.iload 4, 2) := by decide +kernel
theorem d_La_law_312 : decode b_La_law 312 = .ok (.iconst 1, 1) := by decide +kernel
theorem d_La_law_313 : decode b_La_law 313 = .ok (.iadd, 1) := by decide +kernel
theorem d_La_law_314 : decode b_La_law 314 = .ok (.iaload, 1) := by decide +kernel
theorem d_La_law_315 : decode b_La_law 315 = .ok (.aload_n 3, 1) := by decide +kernel
theorem d_La_law_316 : decode b_La_law 316 = .ok (.invokestatic 72, 3) := by decide +kernel
theorem d_La_law_319 : decode b_La_law 319 = .ok (.istore 5, 2) := by decide +kernel
theorem d_La_law_321 : decode b_La_law 321 = .ok (.aload_n 2, 1) := by decide +kernel
theorem d_La_law_322 : decode b_La_law 322 = .ok (.aload_n 0, 1) := by decide +kernel
theorem d_La_law_323 : decode b_La_law 323 = .ok (.iload 4, 2) := by decide +kernel
theorem d_La_law_325 : decode b_La_law 325 = .ok (.iconst 1, 1) := by decide +kernel
theorem d_La_law_326 : decode b_La_law 326 = .ok (.iadd, 1) := by decide +kernel
theorem d_La_law_327 : decode b_La_law 327 = .ok (.iaload, 1) := by decide +kernel
theorem d_La_law_328 : decode b_La_law 328 = .ok (.invokevirtual 74, 3) := by decide +kernel
theorem d_La_law_331 : decode b_La_law 331 = .ok (.istore 6, 2) := by decide +kernel
theorem d_La_law_333 : decode b_La_law 333 = .ok (.aload_n 2, 1) := by decide +kernel
theorem d_La_law_334 : decode b_La_law 334 = .ok (.invokevirtual 61, 3) := by decide +kernel
theorem d_La_law_337 : decode b_La_law 337 = .ok (.iload 5, 2) := by decide +kernel
theorem d_La_law_339 : decode b_La_law 339 = .ok (.if_icmp .eq 5, 3) := by decide +kernel
theorem d_La_law_342 : decode b_La_law 342 = .ok (.iconst 0, 1) := by decide +kernel
theorem d_La_law_343 : decode b_La_law 343 = .ok (.ireturn, 1) := by decide +kernel
theorem d_La_law_344 : decode b_La_law 344 = .ok (.iload 5, 2) := by decide +kernel
theorem d_La_law_346 : decode b_La_law 346 = .ok (.ifCond .ne 15, 3) := by decide +kernel
theorem d_La_law_349 : decode b_La_law 349 = .ok (.aload_n 3, 1) := by decide +kernel
theorem d_La_law_350 : decode b_La_law 350 = .ok (.iconst 0, 1) := by decide +kernel
theorem d_La_law_351 : decode b_La_law 351 = .ok (.laload, 1) := by decide +kernel
theorem d_La_law_352 : decode b_La_law 352 = .ok (.iload 6, 2) := by decide +kernel
theorem d_La_law_354 : decode b_La_law 354 = .ok (.i2l, 1) := by decide +kernel
theorem d_La_law_355 : decode b_La_law 355 = .ok (.lcmp, 1) := by decide +kernel
theorem d_La_law_356 : decode b_La_law 356 = .ok (.ifCond .eq 5, 3) := by decide +kernel
theorem d_La_law_359 : decode b_La_law 359 = .ok (.iconst 0, 1) := by decide +kernel
theorem d_La_law_360 : decode b_La_law 360 = .ok (.ireturn, 1) := by decide +kernel
theorem d_La_law_361 : decode b_La_law 361 = .ok (.goto 357, 3) := by decide +kernel
theorem d_La_law_364 : decode b_La_law 364 = .ok (.aload_n 1, 1) := by decide +kernel
theorem d_La_law_365 : decode b_La_law 365 = .ok (.aload_n 0, 1) := by decide +kernel
theorem d_La_law_366 : decode b_La_law 366 = .ok (.iload 4, 2) := by decide +kernel
theorem d_La_law_368 : decode b_La_law 368 = .ok (.iconst 1, 1) := by decide +kernel
theorem d_La_law_369 : decode b_La_law 369 = .ok (.iadd, 1) := by decide +kernel
theorem d_La_law_370 : decode b_La_law 370 = .ok (.iaload, 1) := by decide +kernel
theorem d_La_law_371 : decode b_La_law 371 = .ok (.aload_n 3, 1) := by decide +kernel
theorem d_La_law_372 : decode b_La_law 372 = .ok (.invokestatic 75, 3) := by decide +kernel
theorem d_La_law_375 : decode b_La_law 375 = .ok (.istore 5, 2) := by decide +kernel
theorem d_La_law_377 : decode b_La_law 377 = .ok (.aload_n 2, 1) := by decide +kernel
theorem d_La_law_378 : decode b_La_law 378 = .ok (.aload_n 0, 1) := by decide +kernel
theorem d_La_law_379 : decode b_La_law 379 = .ok (.iload 4, 2) := by decide +kernel
theorem d_La_law_381 : decode b_La_law 381 = .ok (.iconst 1, 1) := by decide +kernel
theorem d_La_law_382 : decode b_La_law 382 = .ok (.iadd, 1) := by decide +kernel
theorem d_La_law_383 : decode b_La_law 383 = .ok (.iaload, 1) := by decide +kernel
theorem d_La_law_384 : decode b_La_law 384 = .ok (.invokevirtual 77, 3) := by decide +kernel
theorem d_La_law_387 : decode b_La_law 387 = .ok (.istore 6, 2) := by decide +kernel
theorem d_La_law_389 : decode b_La_law 389 = .ok (.aload_n 2, 1) := by decide +kernel
theorem d_La_law_390 : decode b_La_law 390 = .ok (.invokevirtual 61, 3) := by decide +kernel
theorem d_La_law_393 : decode b_La_law 393 = .ok (.iload 5, 2) := by decide +kernel
theorem d_La_law_395 : decode b_La_law 395 = .ok (.if_icmp .eq 5, 3) := by decide +kernel
theorem d_La_law_398 : decode b_La_law 398 = .ok (.iconst 0, 1) := by decide +kernel
theorem d_La_law_399 : decode b_La_law 399 = .ok (.ireturn, 1) := by decide +kernel
theorem d_La_law_400 : decode b_La_law 400 = .ok (.iload 5, 2) := by decide +kernel
theorem d_La_law_402 : decode b_La_law 402 = .ok (.ifCond .ne 15, 3) := by decide +kernel
theorem d_La_law_405 : decode b_La_law 405 = .ok (.aload_n 3, 1) := by decide +kernel
theorem d_La_law_406 : decode b_La_law 406 = .ok (.iconst 0, 1) := by decide +kernel
theorem d_La_law_407 : decode b_La_law 407 = .ok (.laload, 1) := by decide +kernel
theorem d_La_law_408 : decode b_La_law 408 = .ok (.iload 6, 2) := by decide +kernel
theorem d_La_law_410 : decode b_La_law 410 = .ok (.i2l, 1) := by decide +kernel
theorem d_La_law_411 : decode b_La_law 411 = .ok (.lcmp, 1) := by decide +kernel
theorem d_La_law_412 : decode b_La_law 412 = .ok (.ifCond .eq 5, 3) := by decide +kernel
theorem d_La_law_415 : decode b_La_law 415 = .ok (.iconst 0, 1) := by decide +kernel
theorem d_La_law_416 : decode b_La_law 416 = .ok (.ireturn, 1) := by decide +kernel
theorem d_La_law_417 : decode b_La_law 417 = .ok (.goto 301, 3) := by decide +kernel
theorem d_La_law_420 : decode b_La_law 420 = .ok (.aload_n 1, 1) := by decide +kernel
theorem d_La_law_421 : decode b_La_law 421 = .ok (.aload_n 0, 1) := by decide +kernel
theorem d_La_law_422 : decode b_La_law 422 = .ok (.iload 4, 2) := by decide +kernel
theorem d_La_law_424 : decode b_La_law 424 = .ok (.iconst 1, 1) := by decide +kernel
theorem d_La_law_425 : decode b_La_law 425 = .ok (.iadd, 1) := by decide +kernel
theorem d_La_law_426 : decode b_La_law 426 = .ok (.iaload, 1) := by decide +kernel
theorem d_La_law_427 : decode b_La_law 427 = .ok (.aload_n 0, 1) := by decide +kernel
theorem d_La_law_428 : decode b_La_law 428 = .ok (.iload 4, 2) := by decide +kernel
theorem d_La_law_430 : decode b_La_law 430 = .ok (.iconst 2, 1) := by decide +kernel
theorem d_La_law_431 : decode b_La_law 431 = .ok (.iadd, 1) := by decide +kernel
theorem d_La_law_432 : decode b_La_law 432 = .ok (.iaload, 1) := by decide +kernel
theorem d_La_law_433 : decode b_La_law 433 = .ok (.aload_n 3, 1) := by decide +kernel
theorem d_La_law_434 : decode b_La_law 434 = .ok (.invokestatic 78, 3) := by decide +kernel
theorem d_La_law_437 : decode b_La_law 437 = .ok (.istore 5, 2) := by decide +kernel
theorem d_La_law_439 : decode b_La_law 439 = .ok (.aload_n 2, 1) := by decide +kernel
theorem d_La_law_440 : decode b_La_law 440 = .ok (.aload_n 0, 1) := by decide +kernel
theorem d_La_law_441 : decode b_La_law 441 = .ok (.iload 4, 2) := by decide +kernel
theorem d_La_law_443 : decode b_La_law 443 = .ok (.iconst 1, 1) := by decide +kernel
theorem d_La_law_444 : decode b_La_law 444 = .ok (.iadd, 1) := by decide +kernel
theorem d_La_law_445 : decode b_La_law 445 = .ok (.iaload, 1) := by decide +kernel
theorem d_La_law_446 : decode b_La_law 446 = .ok (.aload_n 0, 1) := by decide +kernel
theorem d_La_law_447 : decode b_La_law 447 = .ok (.iload 4, 2) := by decide +kernel
theorem d_La_law_449 : decode b_La_law 449 = .ok (.iconst 2, 1) := by decide +kernel
theorem d_La_law_450 : decode b_La_law 450 = .ok (.iadd, 1) := by decide +kernel
theorem d_La_law_451 : decode b_La_law 451 = .ok (.iaload, 1) := by decide +kernel
theorem d_La_law_452 : decode b_La_law 452 = .ok (.invokevirtual 80, 3) := by decide +kernel
theorem d_La_law_455 : decode b_La_law 455 = .ok (.istore 6, 2) := by decide +kernel
theorem d_La_law_457 : decode b_La_law 457 = .ok (.aload_n 2, 1) := by decide +kernel
theorem d_La_law_458 : decode b_La_law 458 = .ok (.invokevirtual 61, 3) := by decide +kernel
theorem d_La_law_461 : decode b_La_law 461 = .ok (.iload 5, 2) := by decide +kernel
theorem d_La_law_463 : decode b_La_law 463 = .ok (.if_icmp .eq 5, 3) := by decide +kernel
theorem d_La_law_466 : decode b_La_law 466 = .ok (.iconst 0, 1) := by decide +kernel
theorem d_La_law_467 : decode b_La_law 467 = .ok (.ireturn, 1) := by decide +kernel
theorem d_La_law_468 : decode b_La_law 468 = .ok (.iload 5, 2) := by decide +kernel
theorem d_La_law_470 : decode b_La_law 470 = .ok (.ifCond .ne 15, 3) := by decide +kernel
theorem d_La_law_473 : decode b_La_law 473 = .ok (.aload_n 3, 1) := by decide +kernel
theorem d_La_law_474 : decode b_La_law 474 = .ok (.iconst 0, 1) := by decide +kernel
theorem d_La_law_475 : decode b_La_law 475 = .ok (.laload, 1) := by decide +kernel
theorem d_La_law_476 : decode b_La_law 476 = .ok (.iload 6, 2) := by decide +kernel
theorem d_La_law_478 : decode b_La_law 478 = .ok (.i2l, 1) := by decide +kernel
theorem d_La_law_479 : decode b_La_law 479 = .ok (.lcmp, 1) := by decide +kernel
theorem d_La_law_480 : decode b_La_law 480 = .ok (.ifCond .eq 5, 3) := by decide +kernel
theorem d_La_law_483 : decode b_La_law 483 = .ok (.iconst 0, 1) := by decide +kernel
theorem d_La_law_484 : decode b_La_law 484 = .ok (.ireturn, 1) := by decide +kernel
theorem d_La_law_485 : decode b_La_law 485 = .ok (.goto 233, 3) := by decide +kernel
theorem d_La_law_488 : decode b_La_law 488 = .ok (.aload_n 1, 1) := by decide +kernel
theorem d_La_law_489 : decode b_La_law 489 = .ok (.aload_n 0, 1) := by decide +kernel
theorem d_La_law_490 : decode b_La_law 490 = .ok (.iload 4, 2) := by decide +kernel
theorem d_La_law_492 : decode b_La_law 492 = .ok (.iconst 1, 1) := by decide +kernel
theorem d_La_law_493 : decode b_La_law 493 = .ok (.iadd, 1) := by decide +kernel
theorem d_La_law_494 : decode b_La_law 494 = .ok (.iaload, 1) := by decide +kernel
theorem d_La_law_495 : decode b_La_law 495 = .ok (.aload_n 3, 1) := by decide +kernel
theorem d_La_law_496 : decode b_La_law 496 = .ok (.invokestatic 81, 3) := by decide +kernel
theorem d_La_law_499 : decode b_La_law 499 = .ok (.istore 5, 2) := by decide +kernel
theorem d_La_law_501 : decode b_La_law 501 = .ok (.aload_n 2, 1) := by decide +kernel
theorem d_La_law_502 : decode b_La_law 502 = .ok (.aload_n 0, 1) := by decide +kernel
theorem d_La_law_503 : decode b_La_law 503 = .ok (.iload 4, 2) := by decide +kernel
theorem d_La_law_505 : decode b_La_law 505 = .ok (.iconst 1, 1) := by decide +kernel
theorem d_La_law_506 : decode b_La_law 506 = .ok (.iadd, 1) := by decide +kernel
theorem d_La_law_507 : decode b_La_law 507 = .ok (.iaload, 1) := by decide +kernel
theorem d_La_law_508 : decode b_La_law 508 = .ok (.invokevirtual 83, 3) := by decide +kernel
theorem d_La_law_511 : decode b_La_law 511 = .ok (.istore 6, 2) := by decide +kernel
theorem d_La_law_513 : decode b_La_law 513 = .ok (.aload_n 2, 1) := by decide +kernel
theorem d_La_law_514 : decode b_La_law 514 = .ok (.invokevirtual 61, 3) := by decide +kernel
theorem d_La_law_517 : decode b_La_law 517 = .ok (.iload 5, 2) := by decide +kernel
theorem d_La_law_519 : decode b_La_law 519 = .ok (.if_icmp .eq 5, 3) := by decide +kernel
theorem d_La_law_522 : decode b_La_law 522 = .ok (.iconst 0, 1) := by decide +kernel
theorem d_La_law_523 : decode b_La_law 523 = .ok (.ireturn, 1) := by decide +kernel
theorem d_La_law_524 : decode b_La_law 524 = .ok (.iload 5, 2) := by decide +kernel
theorem d_La_law_526 : decode b_La_law 526 = .ok (.ifCond .ne 15, 3) := by decide +kernel
theorem d_La_law_529 : decode b_La_law 529 = .ok (.aload_n 3, 1) := by decide +kernel
theorem d_La_law_530 : decode b_La_law 530 = .ok (.iconst 0, 1) := by decide +kernel
theorem d_La_law_531 : decode b_La_law 531 = .ok (.laload, 1) := by decide +kernel
theorem d_La_law_532 : decode b_La_law 532 = .ok (.iload 6, 2) := by decide +kernel
theorem d_La_law_534 : decode b_La_law 534 = .ok (.i2l, 1) := by decide +kernel
theorem d_La_law_535 : decode b_La_law 535 = .ok (.lcmp, 1) := by decide +kernel
theorem d_La_law_536 : decode b_La_law 536 = .ok (.ifCond .eq 5, 3) := by decide +kernel
theorem d_La_law_539 : decode b_La_law 539 = .ok (.iconst 0, 1) := by decide +kernel
theorem d_La_law_540 : decode b_La_law 540 = .ok (.ireturn, 1) := by decide +kernel
theorem d_La_law_541 : decode b_La_law 541 = .ok (.goto 177, 3) := by decide +kernel
theorem d_La_law_544 : decode b_La_law 544 = .ok (.aload_n 1, 1) := by decide +kernel
theorem d_La_law_545 : decode b_La_law 545 = .ok (.aload_n 0, 1) := by decide +kernel
theorem d_La_law_546 : decode b_La_law 546 = .ok (.iload 4, 2) := by decide +kernel
theorem d_La_law_548 : decode b_La_law 548 = .ok (.iconst 1, 1) := by decide +kernel
theorem d_La_law_549 : decode b_La_law 549 = .ok (.iadd, 1) := by decide +kernel
theorem d_La_law_550 : decode b_La_law 550 = .ok (.iaload, 1) := by decide +kernel
theorem d_La_law_551 : decode b_La_law 551 = .ok (.aload_n 0, 1) := by decide +kernel
theorem d_La_law_552 : decode b_La_law 552 = .ok (.iload 4, 2) := by decide +kernel
theorem d_La_law_554 : decode b_La_law 554 = .ok (.iconst 2, 1) := by decide +kernel
theorem d_La_law_555 : decode b_La_law 555 = .ok (.iadd, 1) := by decide +kernel
theorem d_La_law_556 : decode b_La_law 556 = .ok (.iaload, 1) := by decide +kernel
theorem d_La_law_557 : decode b_La_law 557 = .ok (.aload_n 0, 1) := by decide +kernel
theorem d_La_law_558 : decode b_La_law 558 = .ok (.iload 4, 2) := by decide +kernel
theorem d_La_law_560 : decode b_La_law 560 = .ok (.iconst 3, 1) := by decide +kernel
theorem d_La_law_561 : decode b_La_law 561 = .ok (.iadd, 1) := by decide +kernel
theorem d_La_law_562 : decode b_La_law 562 = .ok (.iaload, 1) := by decide +kernel
theorem d_La_law_563 : decode b_La_law 563 = .ok (.aload_n 3, 1) := by decide +kernel
theorem d_La_law_564 : decode b_La_law 564 = .ok (.invokestatic 84, 3) := by decide +kernel
theorem d_La_law_567 : decode b_La_law 567 = .ok (.istore 5, 2) := by decide +kernel
theorem d_La_law_569 : decode b_La_law 569 = .ok (.aload_n 2, 1) := by decide +kernel
theorem d_La_law_570 : decode b_La_law 570 = .ok (.aload_n 0, 1) := by decide +kernel
theorem d_La_law_571 : decode b_La_law 571 = .ok (.iload 4, 2) := by decide +kernel
theorem d_La_law_573 : decode b_La_law 573 = .ok (.iconst 1, 1) := by decide +kernel
theorem d_La_law_574 : decode b_La_law 574 = .ok (.iadd, 1) := by decide +kernel
theorem d_La_law_575 : decode b_La_law 575 = .ok (.iaload, 1) := by decide +kernel
theorem d_La_law_576 : decode b_La_law 576 = .ok (.aload_n 0, 1) := by decide +kernel
theorem d_La_law_577 : decode b_La_law 577 = .ok (.iload 4, 2) := by decide +kernel
theorem d_La_law_579 : decode b_La_law 579 = .ok (.iconst 2, 1) := by decide +kernel
theorem d_La_law_580 : decode b_La_law 580 = .ok (.iadd, 1) := by decide +kernel
theorem d_La_law_581 : decode b_La_law 581 = .ok (.iaload, 1) := by decide +kernel
theorem d_La_law_582 : decode b_La_law 582 = .ok (.aload_n 0, 1) := by decide +kernel
theorem d_La_law_583 : decode b_La_law 583 = .ok (.iload 4, 2) := by decide +kernel
theorem d_La_law_585 : decode b_La_law 585 = .ok (.iconst 3, 1) := by decide +kernel
theorem d_La_law_586 : decode b_La_law 586 = .ok (.iadd, 1) := by decide +kernel
theorem d_La_law_587 : decode b_La_law 587 = .ok (.iaload, 1) := by decide +kernel
theorem d_La_law_588 : decode b_La_law 588 = .ok (.invokevirtual 87, 3) := by decide +kernel
theorem d_La_law_591 : decode b_La_law 591 = .ok (.istore 6, 2) := by decide +kernel
theorem d_La_law_593 : decode b_La_law 593 = .ok (.aload_n 2, 1) := by decide +kernel
theorem d_La_law_594 : decode b_La_law 594 = .ok (.invokevirtual 61, 3) := by decide +kernel
theorem d_La_law_597 : decode b_La_law 597 = .ok (.iload 5, 2) := by decide +kernel
theorem d_La_law_599 : decode b_La_law 599 = .ok (.if_icmp .eq 5, 3) := by decide +kernel
theorem d_La_law_602 : decode b_La_law 602 = .ok (.iconst 0, 1) := by decide +kernel
theorem d_La_law_603 : decode b_La_law 603 = .ok (.ireturn, 1) := by decide +kernel
theorem d_La_law_604 : decode b_La_law 604 = .ok (.iload 5, 2) := by decide +kernel
theorem d_La_law_606 : decode b_La_law 606 = .ok (.ifCond .ne 15, 3) := by decide +kernel
theorem d_La_law_609 : decode b_La_law 609 = .ok (.aload_n 3, 1) := by decide +kernel
theorem d_La_law_610 : decode b_La_law 610 = .ok (.iconst 0, 1) := by decide +kernel
theorem d_La_law_611 : decode b_La_law 611 = .ok (.laload, 1) := by decide +kernel
theorem d_La_law_612 : decode b_La_law 612 = .ok (.iload 6, 2) := by decide +kernel
theorem d_La_law_614 : decode b_La_law 614 = .ok (.i2l, 1) := by decide +kernel
theorem d_La_law_615 : decode b_La_law 615 = .ok (.lcmp, 1) := by decide +kernel
theorem d_La_law_616 : decode b_La_law 616 = .ok (.ifCond .eq 5, 3) := by decide +kernel
theorem d_La_law_619 : decode b_La_law 619 = .ok (.iconst 0, 1) := by decide +kernel
theorem d_La_law_620 : decode b_La_law 620 = .ok (.ireturn, 1) := by decide +kernel
theorem d_La_law_621 : decode b_La_law 621 = .ok (.goto 97, 3) := by decide +kernel
theorem d_La_law_624 : decode b_La_law 624 = .ok (.aload_n 1, 1) := by decide +kernel
theorem d_La_law_625 : decode b_La_law 625 = .ok (.invokevirtual 88, 3) := by decide +kernel
theorem d_La_law_628 : decode b_La_law 628 = .ok (.aload_n 2, 1) := by decide +kernel
theorem d_La_law_629 : decode b_La_law 629 = .ok (.invokevirtual 91, 3) := by decide +kernel
theorem d_La_law_632 : decode b_La_law 632 = .ok (.if_icmp .eq 86, 3) := by decide +kernel
theorem d_La_law_635 : decode b_La_law 635 = .ok (.iconst 0, 1) := by decide +kernel
theorem d_La_law_636 : decode b_La_law 636 = .ok (.ireturn, 1) := by decide +kernel
theorem d_La_law_637 : decode b_La_law 637 = .ok (.aload_n 1, 1) := by decide +kernel
theorem d_La_law_638 : decode b_La_law 638 = .ok (.aload_n 0, 1) := by decide +kernel
theorem d_La_law_639 : decode b_La_law 639 = .ok (.iload 4, 2) := by decide +kernel
theorem d_La_law_641 : decode b_La_law 641 = .ok (.iconst 1, 1) := by decide +kernel
theorem d_La_law_642 : decode b_La_law 642 = .ok (.iadd, 1) := by decide +kernel
theorem d_La_law_643 : decode b_La_law 643 = .ok (.iaload, 1) := by decide +kernel
theorem d_La_law_644 : decode b_La_law 644 = .ok (.aload_n 3, 1) := by decide +kernel
theorem d_La_law_645 : decode b_La_law 645 = .ok (.invokestatic 92, 3) := by decide +kernel
theorem d_La_law_648 : decode b_La_law 648 = .ok (.istore 5, 2) := by decide +kernel
theorem d_La_law_650 : decode b_La_law 650 = .ok (.aload_n 2, 1) := by decide +kernel
theorem d_La_law_651 : decode b_La_law 651 = .ok (.aload_n 0, 1) := by decide +kernel
theorem d_La_law_652 : decode b_La_law 652 = .ok (.iload 4, 2) := by decide +kernel
theorem d_La_law_654 : decode b_La_law 654 = .ok (.iconst 1, 1) := by decide +kernel
theorem d_La_law_655 : decode b_La_law 655 = .ok (.iadd, 1) := by decide +kernel
theorem d_La_law_656 : decode b_La_law 656 = .ok (.iaload, 1) := by decide +kernel
theorem d_La_law_657 : decode b_La_law 657 = .ok (.invokevirtual 94, 3) := by decide +kernel
theorem d_La_law_660 : decode b_La_law 660 = .ok (.istore 6, 2) := by decide +kernel
theorem d_La_law_662 : decode b_La_law 662 = .ok (.aload_n 2, 1) := by decide +kernel
theorem d_La_law_663 : decode b_La_law 663 = .ok (.invokevirtual 61, 3) := by decide +kernel
theorem d_La_law_666 : decode b_La_law 666 = .ok (.iload 5, 2) := by decide +kernel
theorem d_La_law_668 : decode b_La_law 668 = .ok (.if_icmp .eq 5, 3) := by decide +kernel
theorem d_La_law_671 : decode b_La_law 671 = .ok (.iconst 0, 1) := by decide +kernel
theorem d_La_law_672 : decode b_La_law 672 = .ok (.ireturn, 1) := by decide +kernel
theorem d_La_law_673 : decode b_La_law 673 = .ok (.iload 5, 2) := by decide +kernel
theorem d_La_law_675 : decode b_La_law 675 = .ok (.ifCond .ne 15, 3) := by decide +kernel
theorem d_La_law_678 : decode b_La_law 678 = .ok (.aload_n 3, 1) := by decide +kernel
theorem d_La_law_679 : decode b_La_law 679 = .ok (.iconst 0, 1) := by decide +kernel
theorem d_La_law_680 : decode b_La_law 680 = .ok (.laload, 1) := by decide +kernel
theorem d_La_law_681 : decode b_La_law 681 = .ok (.iload 6, 2) := by decide +kernel
theorem d_La_law_683 : decode b_La_law 683 = .ok (.i2l, 1) := by decide +kernel
theorem d_La_law_684 : decode b_La_law 684 = .ok (.lcmp, 1) := by decide +kernel
theorem d_La_law_685 : decode b_La_law 685 = .ok (.ifCond .eq 5, 3) := by decide +kernel
theorem d_La_law_688 : decode b_La_law 688 = .ok (.iconst 0, 1) := by decide +kernel
theorem d_La_law_689 : decode b_La_law 689 = .ok (.ireturn, 1) := by decide +kernel
theorem d_La_law_690 : decode b_La_law 690 = .ok (.goto 28, 3) := by decide +kernel
theorem d_La_law_693 : decode b_La_law 693 = .ok (.aload_n 1, 1) := by decide +kernel
theorem d_La_law_694 : decode b_La_law 694 = .ok (.aload_n 0, 1) := by decide +kernel
theorem d_La_law_695 : decode b_La_law 695 = .ok (.iload 4, 2) := by decide +kernel
theorem d_La_law_697 : decode b_La_law 697 = .ok (.iconst 1, 1) := by decide +kernel
theorem d_La_law_698 : decode b_La_law 698 = .ok (.iadd, 1) := by decide +kernel
theorem d_La_law_699 : decode b_La_law 699 = .ok (.iaload, 1) := by decide +kernel
theorem d_La_law_700 : decode b_La_law 700 = .ok (.invokevirtual 95, 3) := by decide +kernel
theorem d_La_law_703 : decode b_La_law 703 = .ok (.aload_n 2, 1) := by decide +kernel
theorem d_La_law_704 : decode b_La_law 704 = .ok (.aload_n 0, 1) := by decide +kernel
theorem d_La_law_705 : decode b_La_law 705 = .ok (.iload 4, 2) := by decide +kernel
theorem d_La_law_707 : decode b_La_law 707 = .ok (.iconst 1, 1) := by decide +kernel
theorem d_La_law_708 : decode b_La_law 708 = .ok (.iadd, 1) := by decide +kernel
theorem d_La_law_709 : decode b_La_law 709 = .ok (.iaload, 1) := by decide +kernel
theorem d_La_law_710 : decode b_La_law 710 = .ok (.invokevirtual 98, 3) := by decide +kernel
theorem d_La_law_713 : decode b_La_law 713 = .ok (.if_icmp .eq 5, 3) := by decide +kernel
theorem d_La_law_716 : decode b_La_law 716 = .ok (.iconst 0, 1) := by decide +kernel
theorem d_La_law_717 : decode b_La_law 717 = .ok (.ireturn, 1) := by decide +kernel
theorem d_La_law_718 : decode b_La_law 718 = .ok (.iinc 4 4, 3) := by decide +kernel
theorem d_La_law_721 : decode b_La_law 721 = .ok (.goto (-678), 3) := by decide +kernel
theorem d_La_law_724 : decode b_La_law 724 = .ok (.iconst 1, 1) := by decide +kernel
theorem d_La_law_725 : decode b_La_law 725 = .ok (.ireturn, 1) := by decide +kernel
