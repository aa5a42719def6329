theorem dX10_count_133 : decode cX10_count 133 = .ok (.iload_n 1, 1) := by decide +kernel
theorem dX10_count_134 : decode cX10_count 134 = .ok (.iconst 5, 1) := by decide +kernel
theorem dX10_count_135 : decode cX10_count 135 = .ok (.bipush 9, 2) := by decide +kernel
theorem dX10_count_137 : decode cX10_count 137 = .ok (.invokestatic 47, 3) := by decide +kernel
theorem dX10_count_140 : decode cX10_count 140 = .ok (.ifCond .eq 11, 3) := by decide +kernel
theorem dX10_count_143 : decode cX10_count 143 = .ok (.aload_n 0, 1) := by decide +kernel
theorem dX10_count_144 : decode cX10_count 144 = .ok (.iload_n 1, 1) := by decide +kernel
theorem dX10_count_145 : decode cX10_count 145 = .ok (.invokevirtual 161, 3) := by decide +kernel
theorem dX10_count_148 : decode cX10_count 148 = .ok (.goto 4, 3) := by decide +kernel
theorem dX10_count_151 : decode cX10_count 151 = .ok (.iconst (-1), 1) := by decide +kernel
theorem dX10_count_152 : decode cX10_count 152 = .ok (.ireturn, 1) := by decide +kernel
theorem dX10_locks_0 : decode cX10_locks 0 = .ok (.iconst 0, 1) := by decide +kernel
theorem dX10_locks_1 : decode cX10_locks 1 = .ok (.istore_n 2, 1) := by decide +kernel
theorem dX10_locks_2 : decode cX10_locks 2 = .ok (.iconst 0, 1) := by decide +kernel
theorem dX10_locks_3 : decode cX10_locks 3 = .ok (.istore_n 3, 1) := by decide +kernel
theorem dX10_locks_4 : decode cX10_locks 4 = .ok (.iload_n 3, 1) := by decide +kernel
theorem dX10_locks_5 : decode cX10_locks 5 = .ok (.bipush 6, 2) := by decide +kernel
theorem dX10_locks_7 : decode cX10_locks 7 = .ok (.if_icmp .ge 34, 3) := by decide +kernel
theorem dX10_locks_10 : decode cX10_locks 10 = .ok (.aload_n 0, 1) := by decide +kernel
theorem dX10_locks_11 : decode cX10_locks 11 = .ok (.getfield 7, 3) := by decide +kernel
theorem dX10_locks_14 : decode cX10_locks 14 = .ok (.aload_n 0, 1) := by decide +kernel
theorem dX10_locks_15 : decode cX10_locks 15 = .ok (.getfield 40, 3) := by decide +kernel
theorem dX10_locks_18 : decode cX10_locks 18 = .ok (.sipush 240, 3) := by decide +kernel
theorem dX10_locks_21 : decode cX10_locks 21 = .ok (.iadd, 1) := by decide +kernel
theorem dX10_locks_22 : decode cX10_locks 22 = .ok (.iload_n 3, 1) := by decide +kernel
theorem dX10_locks_23 : decode cX10_locks 23 = .ok (.iadd, 1) := by decide +kernel
theorem dX10_locks_24 : decode cX10_locks 24 = .ok (.iaload, 1) := by decide +kernel
theorem dX10_locks_25 : decode cX10_locks 25 = .ok (.iload_n 1, 1) := by decide +kernel
theorem dX10_locks_26 : decode cX10_locks 26 = .ok (.if_icmp .ne 9, 3) := by decide +kernel
theorem dX10_locks_29 : decode cX10_locks 29 = .ok (.iload_n 2, 1) := by decide +kernel
theorem dX10_locks_30 : decode cX10_locks 30 = .ok (.iconst 1, 1) := by decide +kernel
theorem dX10_locks_31 : decode cX10_locks 31 = .ok (.iload_n 3, 1) := by decide +kernel
theorem dX10_locks_32 : decode cX10_locks 32 = .ok (.ishl, 1) := by decide +kernel
theorem dX10_locks_33 : decode cX10_locks 33 = .ok (.ior, 1) := by decide +kernel
theorem dX10_locks_34 : decode cX10_locks 34 = .ok (.istore_n 2, 1) := by decide +kernel
theorem dX10_locks_35 : decode cX10_locks 35 = .ok (.iinc 3 1, 3) := by decide +kernel
theorem dX10_locks_38 : decode cX10_locks 38 = .ok (.goto (-34), 3) := by decide +kernel
theorem dX10_locks_41 : decode cX10_locks 41 = .ok (.iload_n 2, 1) := by decide +kernel
theorem dX10_locks_42 : decode cX10_locks 42 = .ok (.ireturn, 1) := by decide +kernel
theorem dX10_flag_0 : decode cX10_flag 0 = .ok (.iload_n 0, 1) := by decide +kernel
theorem dX10_flag_1 : decode cX10_flag 1 = .ok (.ifCond .eq 7, 3) := by decide +kernel
theorem dX10_flag_4 : decode cX10_flag 4 = .ok (.iconst 1, 1) := by decide +kernel
theorem dX10_flag_5 : decode cX10_flag 5 = .ok (.goto 4, 3) := by decide +kernel
theorem dX10_flag_8 : decode cX10_flag 8 = .ok (.iconst 0, 1) := by decide +kernel
theorem dX10_flag_9 : decode cX10_flag 9 = .ok (.ireturn, 1) := by decide +kernel
theorem dX10_worker_0 : decode cX10_worker 0 = .ok (.aload_n 0, 1) := by decide +kernel
theorem dX10_worker_1 : decode cX10_worker 1 = .ok (.iload_n 1, 1) := by decide +kernel
theorem dX10_worker_2 : decode cX10_worker 2 = .ok (.invokevirtual 155, 3) := by decide +kernel
theorem dX10_worker_5 : decode cX10_worker 5 = .ok (.ifCond .eq 20, 3) := by decide +kernel
theorem dX10_worker_8 : decode cX10_worker 8 = .ok (.aload_n 0, 1) := by decide +kernel
theorem dX10_worker_9 : decode cX10_worker 9 = .ok (.iload_n 1, 1) := by decide +kernel
theorem dX10_worker_10 : decode cX10_worker 10 = .ok (.invokevirtual 81, 3) := by decide +kernel
theorem dX10_worker_13 : decode cX10_worker 13 = .ok (.ifCond .eq 14, 3) := by decide +kernel
theorem dX10_worker_16 : decode cX10_worker 16 = .ok (.iload_n 2, 1) := by decide +kernel
theorem dX10_worker_17 : decode cX10_worker 17 = .ok (.iconst 0, 1) := by decide +kernel
theorem dX10_worker_18 : decode cX10_worker 18 = .ok (.iconst 3, 1) := by decide +kernel
theorem dX10_worker_19 : decode cX10_worker 19 = .ok (.invokestatic 47, 3) := by decide +kernel
theorem dX10_worker_22 : decode cX10_worker 22 = .ok (.ifCond .eq 5, 3) := by decide +kernel
theorem dX10_worker_25 : decode cX10_worker 25 = .ok (.iconst (-1), 1) := by decide +kernel
theorem dX10_worker_26 : decode cX10_worker 26 = .ok (.ireturn, 1) := by decide +kernel
theorem dX10_worker_27 : decode cX10_worker 27 = .ok (.aload_n 0, 1) := by decide +kernel
theorem dX10_worker_28 : decode cX10_worker 28 = .ok (.invokevirtual 110, 3) := by decide +kernel
theorem dX10_worker_31 : decode cX10_worker 31 = .ok (.istore_n 3, 1) := by decide +kernel
theorem dX10_worker_32 : decode cX10_worker 32 = .ok (.iload_n 2, 1) := by decide +kernel
theorem dX10_worker_33 : decode cX10_worker 33 = .ok (.tableswitch 184 0 13 #[71, 77, 83, 89, 100, 106, 117, 126, 135, 145, 154, 161, 168, 174], 71) := by decide +kernel
theorem dX10_worker_104 : decode cX10_worker 104 = .ok (.aload_n 0, 1) := by decide +kernel
theorem dX10_worker_105 : decode cX10_worker 105 = .ok (.iload_n 1, 1) := by decide +kernel
theorem dX10_worker_106 : decode cX10_worker 106 = .ok (.invokevirtual 51, 3) := by decide +kernel
theorem dX10_worker_109 : decode cX10_worker 109 = .ok (.ireturn, 1) := by decide +kernel
theorem dX10_worker_110 : decode cX10_worker 110 = .ok (.aload_n 0, 1) := by decide +kernel
theorem dX10_worker_111 : decode cX10_worker 111 = .ok (.iload_n 1, 1) := by decide +kernel
theorem dX10_worker_112 : decode cX10_worker 112 = .ok (.invokevirtual 62, 3) := by decide +kernel
theorem dX10_worker_115 : decode cX10_worker 115 = .ok (.ireturn, 1) := by decide +kernel
theorem dX10_worker_116 : decode cX10_worker 116 = .ok (.aload_n 0, 1) := by decide +kernel
theorem dX10_worker_117 : decode cX10_worker 117 = .ok (.iload_n 1, 1) := by decide +kernel
theorem dX10_worker_118 : decode cX10_worker 118 = .ok (.invokevirtual 68, 3) := by decide +kernel
theorem dX10_worker_121 : decode cX10_worker 121 = .ok (.ireturn, 1) := by decide +kernel
theorem dX10_worker_122 : decode cX10_worker 122 = .ok (.aload_n 0, 1) := by decide +kernel
theorem dX10_worker_123 : decode cX10_worker 123 = .ok (.getfield 7, 3) := by decide +kernel
theorem dX10_worker_126 : decode cX10_worker 126 = .ok (.sipush 216, 3) := by decide +kernel
theorem dX10_worker_129 : decode cX10_worker 129 = .ok (.iload_n 1, 1) := by decide +kernel
theorem dX10_worker_130 : decode cX10_worker 130 = .ok (.iadd, 1) := by decide +kernel
theorem dX10_worker_131 : decode cX10_worker 131 = .ok (.iaload, 1) := by decide +kernel
theorem dX10_worker_132 : decode cX10_worker 132 = .ok (.ireturn, 1) := by decide +kernel
theorem dX10_worker_133 : decode cX10_worker 133 = .ok (.aload_n 0, 1) := by decide +kernel
theorem dX10_worker_134 : decode cX10_worker 134 = .ok (.iload_n 1, 1) := by decide +kernel
theorem dX10_worker_135 : decode cX10_worker 135 = .ok (.invokevirtual 100, 3) := by decide +kernel
theorem dX10_worker_138 : decode cX10_worker 138 = .ok (.ireturn, 1) := by decide +kernel
theorem dX10_worker_139 : decode cX10_worker 139 = .ok (.aload_n 0, 1) := by decide +kernel
theorem dX10_worker_140 : decode cX10_worker 140 = .ok (.getfield 7, 3) := by decide +kernel
theorem dX10_worker_143 : decode cX10_worker 143 = .ok (.sipush 232, 3) := by decide +kernel
theorem dX10_worker_146 : decode cX10_worker 146 = .ok (.iload_n 1, 1) := by decide +kernel
theorem dX10_worker_147 : decode cX10_worker 147 = .ok (.iadd, 1) := by decide +kernel
theorem dX10_worker_148 : decode cX10_worker 148 = .ok (.iaload, 1) := by decide +kernel
theorem dX10_worker_149 : decode cX10_worker 149 = .ok (.ireturn, 1) := by decide +kernel
theorem dX10_worker_150 : decode cX10_worker 150 = .ok (.aload_n 0, 1) := by decide +kernel
theorem dX10_worker_151 : decode cX10_worker 151 = .ok (.iload_n 1, 1) := by decide +kernel
theorem dX10_worker_152 : decode cX10_worker 152 = .ok (.invokevirtual 84, 3) := by decide +kernel
theorem dX10_worker_155 : decode cX10_worker 155 = .ok (.invokestatic 164, 3) := by decide +kernel
theorem dX10_worker_158 : decode cX10_worker 158 = .ok (.ireturn, 1) := by decide +kernel
theorem dX10_worker_159 : decode cX10_worker 159 = .ok (.iload_n 3, 1) := by decide +kernel
theorem dX10_worker_160 : decode cX10_worker 160 = .ok (.iload_n 1, 1) := by decide +kernel
theorem dX10_worker_161 : decode cX10_worker 161 = .ok (.invokestatic 96, 3) := by decide +kernel
theorem dX10_worker_164 : decode cX10_worker 164 = .ok (.invokestatic 164, 3) := by decide +kernel
theorem dX10_worker_167 : decode cX10_worker 167 = .ok (.ireturn, 1) := by decide +kernel
theorem dX10_worker_168 : decode cX10_worker 168 = .ok (.aload_n 0, 1) := by decide +kernel
theorem dX10_worker_169 : decode cX10_worker 169 = .ok (.iload_n 1, 1) := by decide +kernel
theorem dX10_worker_170 : decode cX10_worker 170 = .ok (.iload_n 3, 1) := by decide +kernel
theorem dX10_worker_171 : decode cX10_worker 171 = .ok (.invokevirtual 125, 3) := by decide +kernel
theorem dX10_worker_174 : decode cX10_worker 174 = .ok (.invokestatic 164, 3) := by decide +kernel
theorem dX10_worker_177 : decode cX10_worker 177 = .ok (.ireturn, 1) := by decide +kernel
theorem dX10_worker_178 : decode cX10_worker 178 = .ok (.aload_n 0, 1) := by decide +kernel
theorem dX10_worker_179 : decode cX10_worker 179 = .ok (.iload_n 1, 1) := by decide +kernel
theorem dX10_worker_180 : decode cX10_worker 180 = .ok (.invokevirtual 128, 3) := by decide +kernel
theorem dX10_worker_183 : decode cX10_worker 183 = .ok (.invokestatic 164, 3) := by decide +kernel
theorem dX10_worker_186 : decode cX10_worker 186 = .ok (.ireturn, 1) := by decide +kernel
theorem dX10_worker_187 : decode cX10_worker 187 = .ok (.aload_n 0, 1) := by decide +kernel
theorem dX10_worker_188 : decode cX10_worker 188 = .ok (.iload_n 1, 1) := by decide +kernel
theorem dX10_worker_189 : decode cX10_worker 189 = .ok (.iload_n 3, 1) := by decide +kernel
theorem dX10_worker_190 : decode cX10_worker 190 = .ok (.invokevirtual 119, 3) := by decide +kernel
theorem dX10_worker_193 : decode cX10_worker 193 = .ok (.ireturn, 1) := by decide +kernel
theorem dX10_worker_194 : decode cX10_worker 194 = .ok (.aload_n 0, 1) := by decide +kernel
theorem dX10_worker_195 : decode cX10_worker 195 = .ok (.iload_n 1, 1) := by decide +kernel
theorem dX10_worker_196 : decode cX10_worker 196 = .ok (.iload_n 3, 1) := by decide +kernel
theorem dX10_worker_197 : decode cX10_worker 197 = .ok (.invokevirtual 122, 3) := by decide +kernel
theorem dX10_worker_200 : decode cX10_worker 200 = .ok (.ireturn, 1) := by decide +kernel
theorem dX10_worker_201 : decode cX10_worker 201 = .ok (.aload_n 0, 1) := by decide +kernel
theorem dX10_worker_202 : decode cX10_worker 202 = .ok (.iload_n 1, 1) := by decide +kernel
theorem dX10_worker_203 : decode cX10_worker 203 = .ok (.invokevirtual 168, 3) := by decide +kernel
theorem dX10_worker_206 : decode cX10_worker 206 = .ok (.ireturn, 1) := by decide +kernel
theorem dX10_worker_207 : decode cX10_worker 207 = .ok (.aload_n 0, 1) := by decide +kernel
theorem dX10_worker_208 : decode cX10_worker 208 = .ok (.getfield 7, 3) := by decide +kernel
theorem dX10_worker_211 : decode cX10_worker 211 = .ok (.bipush 7, 2) := by decide +kernel
theorem dX10_worker_213 : decode cX10_worker 213 = .ok (.iload_n 1, 1) := by decide +kernel
theorem dX10_worker_214 : decode cX10_worker 214 = .ok (.iadd, 1) := by decide +kernel
theorem dX10_worker_215 : decode cX10_worker 215 = .ok (.iaload, 1) := by decide +kernel
theorem dX10_worker_216 : decode cX10_worker 216 = .ok (.ireturn, 1) := by decide +kernel
theorem dX10_worker_217 : decode cX10_worker 217 = .ok (.iconst (-1), 1) := by decide +kernel
theorem dX10_worker_218 : decode cX10_worker 218 = .ok (.ireturn, 1) := by decide +kernel
theorem dX10_step_0 : decode cX10_step 0 = .ok (.aload_n 0, 1) := by decide +kernel
theorem dX10_step_1 : decode cX10_step 1 = .ok (.iload_n 1, 1) := by decide +kernel
theorem dX10_step_2 : decode cX10_step 2 = .ok (.invokevirtual 155, 3) := by decide +kernel
theorem dX10_step_5 : decode cX10_step 5 = .ok (.ifCond .eq 22, 3) := by decide +kernel
theorem dX10_step_8 : decode cX10_step 8 = .ok (.iload_n 2, 1) := by decide +kernel
theorem dX10_step_9 : decode cX10_step 9 = .ok (.iconst 0, 1) := by decide +kernel
theorem dX10_step_10 : decode cX10_step 10 = .ok (.aload_n 0, 1) := by decide +kernel
theorem dX10_step_11 : decode cX10_step 11 = .ok (.getfield 7, 3) := by decide +kernel
theorem dX10_step_14 : decode cX10_step 14 = .ok (.bipush 7, 2) := by decide +kernel
theorem dX10_step_16 : decode cX10_step 16 = .ok (.iload_n 1, 1) := by decide +kernel
theorem dX10_step_17 : decode cX10_step 17 = .ok (.iadd, 1) := by decide +kernel
theorem dX10_step_18 : decode cX10_step 18 = .ok (.iaload, 1) := by decide +kernel
theorem dX10_step_19 : decode cX10_step 19 = .ok (.iconst 1, 1) := by decide +kernel
theorem dX10_step_20 : decode cX10_step 20 = .ok (.isub, 1) := by decide +kernel
theorem dX10_step_21 : decode cX10_step 21 = .ok (.invokestatic 47, 3) := by decide +kernel
theorem dX10_step_24 : decode cX10_step 24 = .ok (.ifCond .ne 5, 3) := by decide +kernel
theorem dX10_step_27 : decode cX10_step 27 = .ok (.iconst (-1), 1) := by decide +kernel
theorem dX10_step_28 : decode cX10_step 28 = .ok (.ireturn, 1) := by decide +kernel
theorem dX10_step_29 : decode cX10_step 29 = .ok (.iload_n 3, 1) := by decide +kernel
theorem dX10_step_30 : decode cX10_step 30 = .ok (.ifCond .eq 12, 3) := by decide +kernel
theorem dX10_step_33 : decode cX10_step 33 = .ok (.aload_n 0, 1) := by decide +kernel
theorem dX10_step_34 : decode cX10_step 34 = .ok (.iload_n 1, 1) := by decide +kernel
theorem dX10_step_35 : decode cX10_step 35 = .ok (.iload_n 2, 1) := by decide +kernel
theorem dX10_step_36 : decode cX10_step 36 = .ok (.invokevirtual 59, 3) := by decide +kernel
theorem dX10_step_39 : decode cX10_step 39 = .ok (.goto 9, 3) := by decide +kernel
theorem dX10_step_42 : decode cX10_step 42 = .ok (.aload_n 0, 1) := by decide +kernel
theorem dX10_step_43 : decode cX10_step 43 = .ok (.iload_n 1, 1) := by decide +kernel
theorem dX10_step_44 : decode cX10_step 44 = .ok (.iload_n 2, 1) := by decide +kernel
theorem dX10_step_45 : decode cX10_step 45 = .ok (.invokevirtual 55, 3) := by decide +kernel
theorem dX10_step_48 : decode cX10_step 48 = .ok (.ireturn, 1) := by decide +kernel
theorem dX10_holder_0 : decode cX10_holder 0 = .ok (.iload_n 1, 1) := by decide +kernel
theorem dX10_holder_1 : decode cX10_holder 1 = .ok (.iconst 0, 1) := by decide +kernel
theorem dX10_holder_2 : decode cX10_holder 2 = .ok (.iconst 5, 1) := by decide +kernel
theorem dX10_holder_3 : decode cX10_holder 3 = .ok (.invokestatic 47, 3) := by decide +kernel
theorem dX10_holder_6 : decode cX10_holder 6 = .ok (.ifCond .eq 16, 3) := by decide +kernel
theorem dX10_holder_9 : decode cX10_holder 9 = .ok (.aload_n 0, 1) := by decide +kernel
theorem dX10_holder_10 : decode cX10_holder 10 = .ok (.getfield 7, 3) := by decide +kernel
theorem dX10_holder_13 : decode cX10_holder 13 = .ok (.sipush 240, 3) := by decide +kernel
theorem dX10_holder_16 : decode cX10_holder 16 = .ok (.iload_n 1, 1) := by decide +kernel
theorem dX10_holder_17 : decode cX10_holder 17 = .ok (.iadd, 1) := by decide +kernel
theorem dX10_holder_18 : decode cX10_holder 18 = .ok (.iaload, 1) := by decide +kernel
theorem dX10_holder_19 : decode cX10_holder 19 = .ok (.goto 4, 3) := by decide +kernel
theorem dX10_holder_22 : decode cX10_holder 22 = .ok (.iconst (-1), 1) := by decide +kernel
theorem dX10_holder_23 : decode cX10_holder 23 = .ok (.ireturn, 1) := by decide +kernel
theorem dX10_pipe_0 : decode cX10_pipe 0 = .ok (.iload_n 1, 1) := by decide +kernel
theorem dX10_pipe_1 : decode cX10_pipe 1 = .ok (.iconst 0, 1) := by decide +kernel
theorem dX10_pipe_2 : decode cX10_pipe 2 = .ok (.iconst 3, 1) := by decide +kernel
theorem dX10_pipe_3 : decode cX10_pipe 3 = .ok (.invokestatic 47, 3) := by decide +kernel
theorem dX10_pipe_6 : decode cX10_pipe 6 = .ok (.ifCond .eq 24, 3) := by decide +kernel
theorem dX10_pipe_9 : decode cX10_pipe 9 = .ok (.aload_n 0, 1) := by decide +kernel
theorem dX10_pipe_10 : decode cX10_pipe 10 = .ok (.getfield 7, 3) := by decide +kernel
theorem dX10_pipe_13 : decode cX10_pipe 13 = .ok (.iload_n 2, 1) := by decide +kernel
theorem dX10_pipe_14 : decode cX10_pipe 14 = .ok (.ifCond .eq 7, 3) := by decide +kernel
theorem dX10_pipe_17 : decode cX10_pipe 17 = .ok (.iconst 3, 1) := by decide +kernel
theorem dX10_pipe_18 : decode cX10_pipe 18 = .ok (.goto 6, 3) := by decide +kernel
theorem dX10_pipe_21 : decode cX10_pipe 21 = .ok (.sipush 246, 3) := by decide +kernel
theorem dX10_pipe_24 : decode cX10_pipe 24 = .ok (.iload_n 1, 1) := by decide +kernel
theorem dX10_pipe_25 : decode cX10_pipe 25 = .ok (.iadd, 1) := by decide +kernel
theorem dX10_pipe_26 : decode cX10_pipe 26 = .ok (.iaload, 1) := by decide +kernel
theorem dX10_pipe_27 : decode cX10_pipe 27 = .ok (.goto 4, 3) := by decide +kernel
theorem dX10_pipe_30 : decode cX10_pipe 30 = .ok (.iconst (-1), 1) := by decide +kernel
theorem dX10_pipe_31 : decode cX10_pipe 31 = .ok (.ireturn, 1) := by decide +kernel
theorem dX10_messages_0 : decode cX10_messages 0 = .ok (.aload_n 0, 1) := by decide +kernel
theorem dX10_messages_1 : decode cX10_messages 1 = .ok (.iload_n 1, 1) := by decide +kernel
theorem dX10_messages_2 : decode cX10_messages 2 = .ok (.invokevirtual 155, 3) := by decide +kernel
theorem dX10_messages_5 : decode cX10_messages 5 = .ok (.ifCond .eq 25, 3) := by decide +kernel
theorem dX10_messages_8 : decode cX10_messages 8 = .ok (.aload_n 0, 1) := by decide +kernel
theorem dX10_messages_9 : decode cX10_messages 9 = .ok (.iload_n 2, 1) := by decide +kernel
theorem dX10_messages_10 : decode cX10_messages 10 = .ok (.invokevirtual 155, 3) := by decide +kernel
theorem dX10_messages_13 : decode cX10_messages 13 = .ok (.ifCond .eq 17, 3) := by decide +kernel
theorem dX10_messages_16 : decode cX10_messages 16 = .ok (.aload_n 0, 1) := by decide +kernel
theorem dX10_messages_17 : decode cX10_messages 17 = .ok (.getfield 7, 3) := by decide +kernel
theorem dX10_messages_20 : decode cX10_messages 20 = .ok (.aload_n 0, 1) := by decide +kernel
theorem dX10_messages_21 : decode cX10_messages 21 = .ok (.iload_n 1, 1) := by decide +kernel
theorem dX10_messages_22 : decode cX10_messages 22 = .ok (.iload_n 2, 1) := by decide +kernel
theorem dX10_messages_23 : decode cX10_messages 23 = .ok (.invokevirtual 71, 3) := by decide +kernel
theorem dX10_messages_26 : decode cX10_messages 26 = .ok (.iaload, 1) := by decide +kernel
theorem dX10_messages_27 : decode cX10_messages 27 = .ok (.goto 4, 3) := by decide +kernel
theorem dX10_messages_30 : decode cX10_messages 30 = .ok (.iconst (-1), 1) := by decide +kernel
theorem dX10_messages_31 : decode cX10_messages 31 = .ok (.ireturn, 1) := by decide +kernel
theorem dX10_waits_0 : decode cX10_waits 0 = .ok (.aload_n 0, 1) := by decide +kernel
theorem dX10_waits_1 : decode cX10_waits 1 = .ok (.iload_n 1, 1) := by decide +kernel
theorem dX10_waits_2 : decode cX10_waits 2 = .ok (.invokevirtual 155, 3) := by decide +kernel
theorem dX10_waits_5 : decode cX10_waits 5 = .ok (.ifCond .eq 11, 3) := by decide +kernel
theorem dX10_waits_8 : decode cX10_waits 8 = .ok (.aload_n 0, 1) := by decide +kernel
theorem dX10_waits_9 : decode cX10_waits 9 = .ok (.iload_n 1, 1) := by decide +kernel
theorem dX10_waits_10 : decode cX10_waits 10 = .ok (.invokevirtual 90, 3) := by decide +kernel
theorem dX10_waits_13 : decode cX10_waits 13 = .ok (.goto 4, 3) := by decide +kernel
theorem dX10_waits_16 : decode cX10_waits 16 = .ok (.iconst (-1), 1) := by decide +kernel
theorem dX10_waits_17 : decode cX10_waits 17 = .ok (.ireturn, 1) := by decide +kernel
theorem dX10_goesWay_0 : decode cX10_goesWay 0 = .ok (.aload_n 0, 1) := by decide +kernel
theorem dX10_goesWay_1 : decode cX10_goesWay 1 = .ok (.iconst 0, 1) := by decide +kernel
theorem dX10_goesWay_2 : decode cX10_goesWay 2 = .ok (.putfield 171, 3) := by decide +kernel
theorem dX10_goesWay_5 : decode cX10_goesWay 5 = .ok (.aload_n 0, 1) := by decide +kernel
theorem dX10_goesWay_6 : decode cX10_goesWay 6 = .ok (.iconst (-1), 1) := by decide +kernel
theorem dX10_goesWay_7 : decode cX10_goesWay 7 = .ok (.putfield 174, 3) := by decide +kernel
theorem dX10_goesWay_10 : decode cX10_goesWay 10 = .ok (.iload_n 1, 1) := by decide +kernel
theorem dX10_goesWay_11 : decode cX10_goesWay 11 = .ok (.istore_n 2, 1) := by decide +kernel
theorem dX10_goesWay_12 : decode cX10_goesWay 12 = .ok (.iconst 1, 1) := by decide +kernel
theorem dX10_goesWay_13 : decode cX10_goesWay 13 = .ok (.istore_n 3, 1) := by decide +kernel
theorem dX10_goesWay_14 : decode cX10_goesWay 14 = .ok (.iload_n 3, 1) := by decide +kernel
theorem dX10_goesWay_15 : decode cX10_goesWay 15 = .ok (.ifCond .eq 121, 3) := by decide +kernel
theorem dX10_goesWay_18 : decode cX10_goesWay 18 = .ok (.iconst 0, 1) := by decide +kernel
theorem dX10_goesWay_19 : decode cX10_goesWay 19 = .ok (.istore 4, 2) := by decide +kernel
theorem dX10_goesWay_21 : decode cX10_goesWay 21 = .ok (.iload 4, 2) := by decide +kernel
theorem dX10_goesWay_23 : decode cX10_goesWay 23 = .ok (.aload_n 0, 1) := by decide +kernel
theorem dX10_goesWay_24 : decode cX10_goesWay 24 = .ok (.getfield 171, 3) := by decide +kernel
theorem dX10_goesWay_27 : decode cX10_goesWay 27 = .ok (.if_icmp .ge 26, 3) := by decide +kernel
theorem dX10_goesWay_30 : decode cX10_goesWay 30 = .ok (.aload_n 0, 1) := by decide +kernel
theorem dX10_goesWay_31 : decode cX10_goesWay 31 = .ok (.getfield 24, 3) := by decide +kernel
theorem dX10_goesWay_34 : decode cX10_goesWay 34 = .ok (.iload 4, 2) := by decide +kernel
theorem dX10_goesWay_36 : decode cX10_goesWay 36 = .ok (.iaload, 1) := by decide +kernel
theorem dX10_goesWay_37 : decode cX10_goesWay 37 = .ok (.iload_n 2, 1) := by decide +kernel
theorem dX10_goesWay_38 : decode cX10_goesWay 38 = .ok (.if_icmp .ne 9, 3) := by decide +kernel
theorem dX10_goesWay_41 : decode cX10_goesWay 41 = .ok (.aload_n 0, 1) := by decide +kernel
theorem dX10_goesWay_42 : decode cX10_goesWay 42 = .ok (.iload 4, 2) := by decide +kernel
theorem dX10_goesWay_44 : decode cX10_goesWay 44 = .ok (.putfield 174, 3) := by decide +kernel
theorem dX10_goesWay_47 : decode cX10_goesWay 47 = .ok (.iinc 4 1, 3) := by decide +kernel
theorem dX10_goesWay_50 : decode cX10_goesWay 50 = .ok (.goto (-29), 3) := by decide +kernel
theorem dX10_goesWay_53 : decode cX10_goesWay 53 = .ok (.aload_n 0, 1) := by decide +kernel
theorem dX10_goesWay_54 : decode cX10_goesWay 54 = .ok (.getfield 174, 3) := by decide +kernel
theorem dX10_goesWay_57 : decode cX10_goesWay 57 = .ok (.iconst (-1), 1) := by decide +kernel
theorem dX10_goesWay_58 : decode cX10_goesWay 58 = .ok (.if_icmp .eq 4, 3) := by decide +kernel
theorem dX10_goesWay_61 : decode cX10_goesWay 61 = .ok (.return_, 1) := by decide +kernel
theorem dX10_goesWay_62 : decode cX10_goesWay 62 = .ok (.aload_n 0, 1) := by decide +kernel
theorem dX10_goesWay_63 : decode cX10_goesWay 63 = .ok (.getfield 24, 3) := by decide +kernel
theorem dX10_goesWay_66 : decode cX10_goesWay 66 = .ok (.aload_n 0, 1) := by decide +kernel
theorem dX10_goesWay_67 : decode cX10_goesWay 67 = .ok (.getfield 171, 3) := by decide +kernel
theorem dX10_goesWay_70 : decode cX10_goesWay 70 = .ok (.iload_n 2, 1) := by decide +kernel
theorem dX10_goesWay_71 : decode cX10_goesWay 71 = .ok (.iastore, 1) := by decide +kernel
theorem dX10_goesWay_72 : decode cX10_goesWay 72 = .ok (.aload_n 0, 1) := by decide +kernel
theorem dX10_goesWay_73 : decode cX10_goesWay 73 = .ok (.dup, 1) := by decide +kernel
theorem dX10_goesWay_74 : decode cX10_goesWay 74 = .ok (.getfield 171, 3) := by decide +kernel
theorem dX10_goesWay_77 : decode cX10_goesWay 77 = .ok (.iconst 1, 1) := by decide +kernel
theorem dX10_goesWay_78 : decode cX10_goesWay 78 = .ok (.iadd, 1) := by decide +kernel
theorem dX10_goesWay_79 : decode cX10_goesWay 79 = .ok (.putfield 171, 3) := by decide +kernel
theorem dX10_goesWay_82 : decode cX10_goesWay 82 = .ok (.aload_n 0, 1) := by decide +kernel
theorem dX10_goesWay_83 : decode cX10_goesWay 83 = .ok (.iload_n 2, 1) := by decide +kernel
theorem dX10_goesWay_84 : decode cX10_goesWay 84 = .ok (.invokevirtual 81, 3) := by decide +kernel
theorem dX10_goesWay_87 : decode cX10_goesWay 87 = .ok (.ifCond .eq 7, 3) := by decide +kernel
theorem dX10_goesWay_90 : decode cX10_goesWay 90 = .ok (.iconst 0, 1) := by decide +kernel
theorem dX10_goesWay_91 : decode cX10_goesWay 91 = .ok (.goto 8, 3) := by decide +kernel
theorem dX10_goesWay_94 : decode cX10_goesWay 94 = .ok (.aload_n 0, 1) := by decide +kernel
theorem dX10_goesWay_95 : decode cX10_goesWay 95 = .ok (.iload_n 2, 1) := by decide +kernel
theorem dX10_goesWay_96 : decode cX10_goesWay 96 = .ok (.invokevirtual 90, 3) := by decide +kernel
theorem dX10_goesWay_99 : decode cX10_goesWay 99 = .ok (.istore 4, 2) := by decide +kernel
theorem dX10_goesWay_101 : decode cX10_goesWay 101 = .ok (.iload 4, 2) := by decide +kernel
theorem dX10_goesWay_103 : decode cX10_goesWay 103 = .ok (.ifCond .eq 7, 3) := by decide +kernel
theorem dX10_goesWay_106 : decode cX10_goesWay 106 = .ok (.iconst 1, 1) := by decide +kernel
theorem dX10_goesWay_107 : decode cX10_goesWay 107 = .ok (.goto 4, 3) := by decide +kernel
theorem dX10_goesWay_110 : decode cX10_goesWay 110 = .ok (.iconst 0, 1) := by decide +kernel
theorem dX10_goesWay_111 : decode cX10_goesWay 111 = .ok (.istore_n 3, 1) := by decide +kernel
theorem dX10_goesWay_112 : decode cX10_goesWay 112 = .ok (.iconst 0, 1) := by decide +kernel
theorem dX10_goesWay_113 : decode cX10_goesWay 113 = .ok (.istore_n 2, 1) := by decide +kernel
theorem dX10_goesWay_114 : decode cX10_goesWay 114 = .ok (.iload_n 3, 1) := by decide +kernel
theorem dX10_goesWay_115 : decode cX10_goesWay 115 = .ok (.ifCond .eq 18, 3) := by decide +kernel
theorem dX10_goesWay_118 : decode cX10_goesWay 118 = .ok (.iload 4, 2) := by decide +kernel
theorem dX10_goesWay_120 : decode cX10_goesWay 120 = .ok (.iload_n 2, 1) := by decide +kernel
theorem dX10_goesWay_121 : decode cX10_goesWay 121 = .ok (.invokestatic 96, 3) := by decide +kernel
theorem dX10_goesWay_124 : decode cX10_goesWay 124 = .ok (.ifCond .ne 9, 3) := by decide +kernel
theorem dX10_goesWay_127 : decode cX10_goesWay 127 = .ok (.iinc 2 1, 3) := by decide +kernel
theorem dX10_goesWay_130 : decode cX10_goesWay 130 = .ok (.goto (-16), 3) := by decide +kernel
theorem dX10_goesWay_133 : decode cX10_goesWay 133 = .ok (.goto (-119), 3) := by decide +kernel
theorem dX10_goesWay_136 : decode cX10_goesWay 136 = .ok (.return_, 1) := by decide +kernel
theorem dX10_way_0 : decode cX10_way 0 = .ok (.aload_n 0, 1) := by decide +kernel
theorem dX10_way_1 : decode cX10_way 1 = .ok (.iload_n 1, 1) := by decide +kernel
theorem dX10_way_2 : decode cX10_way 2 = .ok (.invokevirtual 155, 3) := by decide +kernel
theorem dX10_way_5 : decode cX10_way 5 = .ok (.ifCond .eq 11, 3) := by decide +kernel
theorem dX10_way_8 : decode cX10_way 8 = .ok (.aload_n 0, 1) := by decide +kernel
theorem dX10_way_9 : decode cX10_way 9 = .ok (.iload_n 1, 1) := by decide +kernel
theorem dX10_way_10 : decode cX10_way 10 = .ok (.invokevirtual 84, 3) := by decide +kernel
theorem dX10_way_13 : decode cX10_way 13 = .ok (.ifCond .ne 5, 3) := by decide +kernel
theorem dX10_way_16 : decode cX10_way 16 = .ok (.iconst (-1), 1) := by decide +kernel
theorem dX10_way_17 : decode cX10_way 17 = .ok (.ireturn, 1) := by decide +kernel
theorem dX10_way_18 : decode cX10_way 18 = .ok (.aload_n 0, 1) := by decide +kernel
theorem dX10_way_19 : decode cX10_way 19 = .ok (.iload_n 1, 1) := by decide +kernel
theorem dX10_way_20 : decode cX10_way 20 = .ok (.invokevirtual 177, 3) := by decide +kernel
theorem dX10_way_23 : decode cX10_way 23 = .ok (.iload_n 2, 1) := by decide +kernel
theorem dX10_way_24 : decode cX10_way 24 = .ok (.iconst (-1), 1) := by decide +kernel
theorem dX10_way_25 : decode cX10_way 25 = .ok (.if_icmp .ne 10, 3) := by decide +kernel
theorem dX10_way_28 : decode cX10_way 28 = .ok (.aload_n 0, 1) := by decide +kernel
theorem dX10_way_29 : decode cX10_way 29 = .ok (.getfield 171, 3) := by decide +kernel
theorem dX10_way_32 : decode cX10_way 32 = .ok (.goto 27, 3) := by decide +kernel
theorem dX10_way_35 : decode cX10_way 35 = .ok (.iload_n 2, 1) := by decide +kernel
theorem dX10_way_36 : decode cX10_way 36 = .ok (.iconst 0, 1) := by decide +kernel
theorem dX10_way_37 : decode cX10_way 37 = .ok (.aload_n 0, 1) := by decide +kernel
theorem dX10_way_38 : decode cX10_way 38 = .ok (.getfield 171, 3) := by decide +kernel
theorem dX10_way_41 : decode cX10_way 41 = .ok (.iconst 1, 1) := by decide +kernel
theorem dX10_way_42 : decode cX10_way 42 = .ok (.isub, 1) := by decide +kernel
theorem dX10_way_43 : decode cX10_way 43 = .ok (.invokestatic 47, 3) := by decide +kernel
theorem dX10_way_46 : decode cX10_way 46 = .ok (.ifCond .eq 12, 3) := by decide +kernel
theorem dX10_way_49 : decode cX10_way 49 = .ok (.aload_n 0, 1) := by decide +kernel
theorem dX10_way_50 : decode cX10_way 50 = .ok (.getfield 24, 3) := by decide +kernel
theorem dX10_way_53 : decode cX10_way 53 = .ok (.iload_n 2, 1) := by decide +kernel
theorem dX10_way_54 : decode cX10_way 54 = .ok (.iaload, 1) := by decide +kernel
theorem dX10_way_55 : decode cX10_way 55 = .ok (.goto 4, 3) := by decide +kernel
theorem dX10_way_58 : decode cX10_way 58 = .ok (.iconst (-1), 1) := by decide +kernel
theorem dX10_way_59 : decode cX10_way 59 = .ok (.ireturn, 1) := by decide +kernel
theorem dX10_ring_0 : decode cX10_ring 0 = .ok (.aload_n 0, 1) := by decide +kernel
theorem dX10_ring_1 : decode cX10_ring 1 = .ok (.iload_n 1, 1) := by decide +kernel
theorem dX10_ring_2 : decode cX10_ring 2 = .ok (.invokevirtual 155, 3) := by decide +kernel
theorem dX10_ring_5 : decode cX10_ring 5 = .ok (.ifCond .eq 11, 3) := by decide +kernel
theorem dX10_ring_8 : decode cX10_ring 8 = .ok (.aload_n 0, 1) := by decide +kernel
theorem dX10_ring_9 : decode cX10_ring 9 = .ok (.iload_n 1, 1) := by decide +kernel
theorem dX10_ring_10 : decode cX10_ring 10 = .ok (.invokevirtual 84, 3) := by decide +kernel
theorem dX10_ring_13 : decode cX10_ring 13 = .ok (.ifCond .ne 5, 3) := by decide +kernel
theorem dX10_ring_16 : decode cX10_ring 16 = .ok (.iconst (-1), 1) := by decide +kernel
theorem dX10_ring_17 : decode cX10_ring 17 = .ok (.ireturn, 1) := by decide +kernel
theorem dX10_ring_18 : decode cX10_ring 18 = .ok (.aload_n 0, 1) := by decide +kernel
theorem dX10_ring_19 : decode cX10_ring 19 = .ok (.iload_n 1, 1) := by decide +kernel
theorem dX10_ring_20 : decode cX10_ring 20 = .ok (.invokevirtual 177, 3) := by decide +kernel
theorem dX10_ring_23 : decode cX10_ring 23 = .ok (.aload_n 0, 1) := by decide +kernel
theorem dX10_ring_24 : decode cX10_ring 24 = .ok (.getfield 174, 3) := by decide +kernel
theorem dX10_ring_27 : decode cX10_ring 27 = .ok (.iconst (-1), 1) := by decide +kernel
theorem dX10_ring_28 : decode cX10_ring 28 = .ok (.if_icmp .ne 7, 3) := by decide +kernel
theorem dX10_ring_31 : decode cX10_ring 31 = .ok (.iconst 0, 1) := by decide +kernel
theorem dX10_ring_32 : decode cX10_ring 32 = .ok (.goto 12, 3) := by decide +kernel
theorem dX10_ring_35 : decode cX10_ring 35 = .ok (.aload_n 0, 1) := by decide +kernel
theorem dX10_ring_36 : decode cX10_ring 36 = .ok (.getfield 171, 3) := by decide +kernel
theorem dX10_ring_39 : decode cX10_ring 39 = .ok (.aload_n 0, 1) := by decide +kernel
theorem dX10_ring_40 : decode cX10_ring 40 = .ok (.getfield 174, 3) := by decide +kernel
theorem dX10_ring_43 : decode cX10_ring 43 = .ok (.isub, 1) := by decide +kernel
theorem dX10_ring_44 : decode cX10_ring 44 = .ok (.ireturn, 1) := by decide +kernel
theorem dX10_stall_0 : decode cX10_stall 0 = .ok (.iload_n 1, 1) := by decide +kernel
theorem dX10_stall_1 : decode cX10_stall 1 = .ok (.iconst 0, 1) := by decide +kernel
theorem dX10_stall_2 : decode cX10_stall 2 = .ok (.aload_n 0, 1) := by decide +kernel
theorem dX10_stall_3 : decode cX10_stall 3 = .ok (.getfield 7, 3) := by decide +kernel
theorem dX10_stall_6 : decode cX10_stall 6 = .ok (.sipush 322, 3) := by decide +kernel
theorem dX10_stall_9 : decode cX10_stall 9 = .ok (.iaload, 1) := by decide +kernel
theorem dX10_stall_10 : decode cX10_stall 10 = .ok (.iconst 1, 1) := by decide +kernel
theorem dX10_stall_11 : decode cX10_stall 11 = .ok (.isub, 1) := by decide +kernel
theorem dX10_stall_12 : decode cX10_stall 12 = .ok (.invokestatic 47, 3) := by decide +kernel
theorem dX10_stall_15 : decode cX10_stall 15 = .ok (.ifCond .eq 29, 3) := by decide +kernel
theorem dX10_stall_18 : decode cX10_stall 18 = .ok (.iload_n 2, 1) := by decide +kernel
theorem dX10_stall_19 : decode cX10_stall 19 = .ok (.iconst 0, 1) := by decide +kernel
theorem dX10_stall_20 : decode cX10_stall 20 = .ok (.iconst 4, 1) := by decide +kernel
theorem dX10_stall_21 : decode cX10_stall 21 = .ok (.invokestatic 47, 3) := by decide +kernel
theorem dX10_stall_24 : decode cX10_stall 24 = .ok (.ifCond .eq 20, 3) := by decide +kernel
theorem dX10_stall_27 : decode cX10_stall 27 = .ok (.aload_n 0, 1) := by decide +kernel
theorem dX10_stall_28 : decode cX10_stall 28 = .ok (.getfield 7, 3) := by decide +kernel
theorem dX10_stall_31 : decode cX10_stall 31 = .ok (.sipush 324, 3) := by decide +kernel
theorem dX10_stall_34 : decode cX10_stall 34 = .ok (.iconst 5, 1) := by decide +kernel
theorem dX10_stall_35 : decode cX10_stall 35 = .ok (.iload_n 1, 1) := by decide +kernel
theorem dX10_stall_36 : decode cX10_stall 36 = .ok (.imul, 1) := by decide +kernel
theorem dX10_stall_37 : decode cX10_stall 37 = .ok (.iadd, 1) := by decide +kernel
theorem dX10_stall_38 : decode cX10_stall 38 = .ok (.iload_n 2, 1) := by decide +kernel
theorem dX10_stall_39 : decode cX10_stall 39 = .ok (.iadd, 1) := by decide +kernel
theorem dX10_stall_40 : decode cX10_stall 40 = .ok (.iaload, 1) := by decide +kernel
theorem dX10_stall_41 : decode cX10_stall 41 = .ok (.goto 4, 3) := by decide +kernel
theorem dX10_stall_44 : decode cX10_stall 44 = .ok (.iconst (-1), 1) := by decide +kernel
theorem dX10_stall_45 : decode cX10_stall 45 = .ok (.ireturn, 1) := by decide +kernel
theorem dX10_freed_0 : decode cX10_freed 0 = .ok (.aload_n 0, 1) := by decide +kernel
theorem dX10_freed_1 : decode cX10_freed 1 = .ok (.iload_n 1, 1) := by decide +kernel
theorem dX10_freed_2 : decode cX10_freed 2 = .ok (.invokevirtual 155, 3) := by decide +kernel
theorem dX10_freed_5 : decode cX10_freed 5 = .ok (.ifCond .eq 23, 3) := by decide +kernel
theorem dX10_freed_8 : decode cX10_freed 8 = .ok (.aload_n 0, 1) := by decide +kernel
theorem dX10_freed_9 : decode cX10_freed 9 = .ok (.iload_n 1, 1) := by decide +kernel
theorem dX10_freed_10 : decode cX10_freed 10 = .ok (.invokevirtual 84, 3) := by decide +kernel
theorem dX10_freed_13 : decode cX10_freed 13 = .ok (.ifCond .eq 15, 3) := by decide +kernel
theorem dX10_freed_16 : decode cX10_freed 16 = .ok (.aload_n 0, 1) := by decide +kernel
theorem dX10_freed_17 : decode cX10_freed 17 = .ok (.iload_n 1, 1) := by decide +kernel
theorem dX10_freed_18 : decode cX10_freed 18 = .ok (.aload_n 0, 1) := by decide +kernel
theorem dX10_freed_19 : decode cX10_freed 19 = .ok (.invokevirtual 110, 3) := by decide +kernel
theorem dX10_freed_22 : decode cX10_freed 22 = .ok (.invokevirtual 116, 3) := by decide +kernel
theorem dX10_freed_25 : decode cX10_freed 25 = .ok (.goto 4, 3) := by decide +kernel
theorem dX10_freed_28 : decode cX10_freed 28 = .ok (.iconst (-1), 1) := by decide +kernel
theorem dX10_freed_29 : decode cX10_freed 29 = .ok (.ireturn, 1) := by decide +kernel
theorem dX10_laysAside_0 : decode cX10_laysAside 0 = .ok (.aload_n 0, 1) := by decide +kernel
theorem dX10_laysAside_1 : decode cX10_laysAside 1 = .ok (.iconst 0, 1) := by decide +kernel
theorem dX10_laysAside_2 : decode cX10_laysAside 2 = .ok (.sipush 474, 3) := by decide +kernel
theorem dX10_laysAside_5 : decode cX10_laysAside 5 = .ok (.sipush 474, 3) := by decide +kernel
theorem dX10_laysAside_8 : decode cX10_laysAside 8 = .ok (.invokevirtual 103, 3) := by decide +kernel
theorem dX10_laysAside_11 : decode cX10_laysAside 11 = .ok (.aload_n 0, 1) := by decide +kernel
theorem dX10_laysAside_12 : decode cX10_laysAside 12 = .ok (.sipush 474, 3) := by decide +kernel
theorem dX10_laysAside_15 : decode cX10_laysAside 15 = .ok (.putfield 40, 3) := by decide +kernel
theorem dX10_laysAside_18 : decode cX10_laysAside 18 = .ok (.return_, 1) := by decide +kernel
theorem dX10_later_0 : decode cX10_later 0 = .ok (.iload_n 1, 1) := by decide +kernel
theorem dX10_later_1 : decode cX10_later 1 = .ok (.iconst 0, 1) := by decide +kernel
theorem dX10_later_2 : decode cX10_later 2 = .ok (.sipush 200, 3) := by decide +kernel
theorem dX10_later_5 : decode cX10_later 5 = .ok (.invokestatic 47, 3) := by decide +kernel
theorem dX10_later_8 : decode cX10_later 8 = .ok (.ifCond .eq 18, 3) := by decide +kernel
theorem dX10_later_11 : decode cX10_later 11 = .ok (.iload_n 2, 1) := by decide +kernel
theorem dX10_later_12 : decode cX10_later 12 = .ok (.iconst 1, 1) := by decide +kernel
theorem dX10_later_13 : decode cX10_later 13 = .ok (.if_icmp .eq 15, 3) := by decide +kernel
theorem dX10_later_16 : decode cX10_later 16 = .ok (.iload_n 2, 1) := by decide +kernel
theorem dX10_later_17 : decode cX10_later 17 = .ok (.iconst 5, 1) := by decide +kernel
theorem dX10_later_18 : decode cX10_later 18 = .ok (.bipush 9, 2) := by decide +kernel
theorem dX10_later_20 : decode cX10_later 20 = .ok (.invokestatic 47, 3) := by decide +kernel
theorem dX10_later_23 : decode cX10_later 23 = .ok (.ifCond .ne 5, 3) := by decide +kernel
theorem dX10_later_26 : decode cX10_later 26 = .ok (.iconst (-1), 1) := by decide +kernel
theorem dX10_later_27 : decode cX10_later 27 = .ok (.ireturn, 1) := by decide +kernel
theorem dX10_later_28 : decode cX10_later 28 = .ok (.aload_n 0, 1) := by decide +kernel
theorem dX10_later_29 : decode cX10_later 29 = .ok (.invokevirtual 180, 3) := by decide +kernel
theorem dX10_later_32 : decode cX10_later 32 = .ok (.aload_n 0, 1) := by decide +kernel
theorem dX10_later_33 : decode cX10_later 33 = .ok (.iload_n 1, 1) := by decide +kernel
theorem dX10_later_34 : decode cX10_later 34 = .ok (.invokevirtual 149, 3) := by decide +kernel
theorem dX10_later_37 : decode cX10_later 37 = .ok (.istore_n 3, 1) := by decide +kernel
theorem dX10_later_38 : decode cX10_later 38 = .ok (.iload_n 2, 1) := by decide +kernel
theorem dX10_later_39 : decode cX10_later 39 = .ok (.iconst 1, 1) := by decide +kernel
theorem dX10_later_40 : decode cX10_later 40 = .ok (.if_icmp .ne 10, 3) := by decide +kernel
theorem dX10_later_43 : decode cX10_later 43 = .ok (.aload_n 0, 1) := by decide +kernel
theorem dX10_later_44 : decode cX10_later 44 = .ok (.invokevirtual 152, 3) := by decide +kernel
theorem dX10_later_47 : decode cX10_later 47 = .ok (.goto 8, 3) := by decide +kernel
theorem dX10_later_50 : decode cX10_later 50 = .ok (.aload_n 0, 1) := by decide +kernel
theorem dX10_later_51 : decode cX10_later 51 = .ok (.iload_n 2, 1) := by decide +kernel
theorem dX10_later_52 : decode cX10_later 52 = .ok (.invokevirtual 161, 3) := by decide +kernel
theorem dX10_later_55 : decode cX10_later 55 = .ok (.istore 4, 2) := by decide +kernel
theorem dX10_later_57 : decode cX10_later 57 = .ok (.aload_n 0, 1) := by decide +kernel
theorem dX10_later_58 : decode cX10_later 58 = .ok (.iconst 0, 1) := by decide +kernel
theorem dX10_later_59 : decode cX10_later 59 = .ok (.putfield 40, 3) := by decide +kernel
theorem dX10_later_62 : decode cX10_later 62 = .ok (.iload 4, 2) := by decide +kernel
theorem dX10_later_64 : decode cX10_later 64 = .ok (.ireturn, 1) := by decide +kernel
theorem dX10_ends_0 : decode cX10_ends 0 = .ok (.aload_n 0, 1) := by decide +kernel
theorem dX10_ends_1 : decode cX10_ends 1 = .ok (.iload_n 1, 1) := by decide +kernel
theorem dX10_ends_2 : decode cX10_ends 2 = .ok (.invokevirtual 155, 3) := by decide +kernel
theorem dX10_ends_5 : decode cX10_ends 5 = .ok (.ifCond .ne 5, 3) := by decide +kernel
theorem dX10_ends_8 : decode cX10_ends 8 = .ok (.iconst (-1), 1) := by decide +kernel
theorem dX10_ends_9 : decode cX10_ends 9 = .ok (.ireturn, 1) := by decide +kernel
theorem dX10_ends_10 : decode cX10_ends 10 = .ok (.aload_n 0, 1) := by decide +kernel
theorem dX10_ends_11 : decode cX10_ends 11 = .ok (.invokevirtual 180, 3) := by decide +kernel
theorem dX10_ends_14 : decode cX10_ends 14 = .ok (.iconst 0, 1) := by decide +kernel
theorem dX10_ends_15 : decode cX10_ends 15 = .ok (.istore_n 2, 1) := by decide +kernel
theorem dX10_ends_16 : decode cX10_ends 16 = .ok (.iload_n 2, 1) := by decide +kernel
theorem dX10_ends_17 : decode cX10_ends 17 = .ok (.sipush 200, 3) := by decide +kernel
theorem dX10_ends_20 : decode cX10_ends 20 = .ok (.if_icmp .ge 21, 3) := by decide +kernel
theorem dX10_ends_23 : decode cX10_ends 23 = .ok (.aload_n 0, 1) := by decide +kernel
theorem dX10_ends_24 : decode cX10_ends 24 = .ok (.iload_n 1, 1) := by decide +kernel
theorem dX10_ends_25 : decode cX10_ends 25 = .ok (.invokevirtual 81, 3) := by decide +kernel
theorem dX10_ends_28 : decode cX10_ends 28 = .ok (.ifCond .ne 13, 3) := by decide +kernel
theorem dX10_ends_31 : decode cX10_ends 31 = .ok (.aload_n 0, 1) := by decide +kernel
theorem dX10_ends_32 : decode cX10_ends 32 = .ok (.invokevirtual 140, 3) := by decide +kernel
theorem dX10_ends_35 : decode cX10_ends 35 = .ok (.iinc 2 1, 3) := by decide +kernel
theorem dX10_ends_38 : decode cX10_ends 38 = .ok (.goto (-22), 3) := by decide +kernel
theorem dX10_ends_41 : decode cX10_ends 41 = .ok (.aload_n 0, 1) := by decide +kernel
theorem dX10_ends_42 : decode cX10_ends 42 = .ok (.iload_n 1, 1) := by decide +kernel
theorem dX10_ends_43 : decode cX10_ends 43 = .ok (.invokevirtual 81, 3) := by decide +kernel
theorem dX10_ends_46 : decode cX10_ends 46 = .ok (.istore_n 3, 1) := by decide +kernel
theorem dX10_ends_47 : decode cX10_ends 47 = .ok (.aload_n 0, 1) := by decide +kernel
theorem dX10_ends_48 : decode cX10_ends 48 = .ok (.iconst 0, 1) := by decide +kernel
theorem dX10_ends_49 : decode cX10_ends 49 = .ok (.putfield 40, 3) := by decide +kernel
theorem dX10_ends_52 : decode cX10_ends 52 = .ok (.iload_n 3, 1) := by decide +kernel
theorem dX10_ends_53 : decode cX10_ends 53 = .ok (.ifCond .eq 7, 3) := by decide +kernel
theorem dX10_ends_56 : decode cX10_ends 56 = .ok (.iload_n 2, 1) := by decide +kernel
theorem dX10_ends_57 : decode cX10_ends 57 = .ok (.goto 4, 3) := by decide +kernel
theorem dX10_ends_60 : decode cX10_ends 60 = .ok (.iconst (-1), 1) := by decide +kernel
theorem dX10_ends_61 : decode cX10_ends 61 = .ok (.ireturn, 1) := by decide +kernel
theorem dX10_told_0 : decode cX10_told 0 = .ok (.iload_n 1, 1) := by decide +kernel
theorem dX10_told_1 : decode cX10_told 1 = .ok (.iconst 1, 1) := by decide +kernel
theorem dX10_told_2 : decode cX10_told 2 = .ok (.sipush 200, 3) := by decide +kernel
theorem dX10_told_5 : decode cX10_told 5 = .ok (.invokestatic 47, 3) := by decide +kernel
theorem dX10_told_8 : decode cX10_told 8 = .ok (.ifCond .eq 13, 3) := by decide +kernel
theorem dX10_told_11 : decode cX10_told 11 = .ok (.iload_n 2, 1) := by decide +kernel
theorem dX10_told_12 : decode cX10_told 12 = .ok (.iconst 1, 1) := by decide +kernel
theorem dX10_told_13 : decode cX10_told 13 = .ok (.bipush 50, 2) := by decide +kernel
theorem dX10_told_15 : decode cX10_told 15 = .ok (.invokestatic 47, 3) := by decide +kernel
theorem dX10_told_18 : decode cX10_told 18 = .ok (.ifCond .ne 5, 3) := by decide +kernel
theorem dX10_told_21 : decode cX10_told 21 = .ok (.iconst (-1), 1) := by decide +kernel
theorem dX10_told_22 : decode cX10_told 22 = .ok (.ireturn, 1) := by decide +kernel
theorem dX10_told_23 : decode cX10_told 23 = .ok (.aload_n 0, 1) := by decide +kernel
theorem dX10_told_24 : decode cX10_told 24 = .ok (.invokevirtual 180, 3) := by decide +kernel
theorem dX10_told_27 : decode cX10_told 27 = .ok (.aload_n 0, 1) := by decide +kernel
theorem dX10_told_28 : decode cX10_told 28 = .ok (.getfield 7, 3) := by decide +kernel
theorem dX10_told_31 : decode cX10_told 31 = .ok (.sipush 475, 3) := by decide +kernel
theorem dX10_told_34 : decode cX10_told 34 = .ok (.iload_n 2, 1) := by decide +kernel
theorem dX10_told_35 : decode cX10_told 35 = .ok (.iastore, 1) := by decide +kernel
theorem dX10_told_36 : decode cX10_told 36 = .ok (.aload_n 0, 1) := by decide +kernel
theorem dX10_told_37 : decode cX10_told 37 = .ok (.iload_n 1, 1) := by decide +kernel
theorem dX10_told_38 : decode cX10_told 38 = .ok (.invokevirtual 149, 3) := by decide +kernel
theorem dX10_told_41 : decode cX10_told 41 = .ok (.istore_n 3, 1) := by decide +kernel
theorem dX10_told_42 : decode cX10_told 42 = .ok (.aload_n 0, 1) := by decide +kernel
theorem dX10_told_43 : decode cX10_told 43 = .ok (.iconst 0, 1) := by decide +kernel
theorem dX10_told_44 : decode cX10_told 44 = .ok (.putfield 40, 3) := by decide +kernel
theorem dX10_told_47 : decode cX10_told 47 = .ok (.iload_n 3, 1) := by decide +kernel
theorem dX10_told_48 : decode cX10_told 48 = .ok (.ireturn, 1) := by decide +kernel
theorem dX10_areFreed_0 : decode cX10_areFreed 0 = .ok (.aload_n 0, 1) := by decide +kernel
theorem dX10_areFreed_1 : decode cX10_areFreed 1 = .ok (.invokevirtual 180, 3) := by decide +kernel
theorem dX10_areFreed_4 : decode cX10_areFreed 4 = .ok (.iconst 0, 1) := by decide +kernel
theorem dX10_areFreed_5 : decode cX10_areFreed 5 = .ok (.istore_n 2, 1) := by decide +kernel
theorem dX10_areFreed_6 : decode cX10_areFreed 6 = .ok (.iload_n 2, 1) := by decide +kernel
theorem dX10_areFreed_7 : decode cX10_areFreed 7 = .ok (.aload_n 0, 1) := by decide +kernel
theorem dX10_areFreed_8 : decode cX10_areFreed 8 = .ok (.invokevirtual 43, 3) := by decide +kernel
theorem dX10_areFreed_11 : decode cX10_areFreed 11 = .ok (.if_icmp .ge 30, 3) := by decide +kernel
theorem dX10_areFreed_14 : decode cX10_areFreed 14 = .ok (.iload_n 1, 1) := by decide +kernel
theorem dX10_areFreed_15 : decode cX10_areFreed 15 = .ok (.iload_n 2, 1) := by decide +kernel
theorem dX10_areFreed_16 : decode cX10_areFreed 16 = .ok (.invokestatic 96, 3) := by decide +kernel
theorem dX10_areFreed_19 : decode cX10_areFreed 19 = .ok (.ifCond .eq 16, 3) := by decide +kernel
theorem dX10_areFreed_22 : decode cX10_areFreed 22 = .ok (.aload_n 0, 1) := by decide +kernel
theorem dX10_areFreed_23 : decode cX10_areFreed 23 = .ok (.iload_n 2, 1) := by decide +kernel
theorem dX10_areFreed_24 : decode cX10_areFreed 24 = .ok (.invokevirtual 84, 3) := by decide +kernel
theorem dX10_areFreed_27 : decode cX10_areFreed 27 = .ok (.ifCond .eq 8, 3) := by decide +kernel
theorem dX10_areFreed_30 : decode cX10_areFreed 30 = .ok (.aload_n 0, 1) := by decide +kernel
theorem dX10_areFreed_31 : decode cX10_areFreed 31 = .ok (.iload_n 2, 1) := by decide +kernel
theorem dX10_areFreed_32 : decode cX10_areFreed 32 = .ok (.invokevirtual 107, 3) := by decide +kernel
theorem dX10_areFreed_35 : decode cX10_areFreed 35 = .ok (.iinc 2 1, 3) := by decide +kernel
theorem dX10_areFreed_38 : decode cX10_areFreed 38 = .ok (.goto (-32), 3) := by decide +kernel
theorem dX10_areFreed_41 : decode cX10_areFreed 41 = .ok (.aload_n 0, 1) := by decide +kernel
theorem dX10_areFreed_42 : decode cX10_areFreed 42 = .ok (.invokevirtual 110, 3) := by decide +kernel
theorem dX10_areFreed_45 : decode cX10_areFreed 45 = .ok (.ifCond .ne 7, 3) := by decide +kernel
theorem dX10_areFreed_48 : decode cX10_areFreed 48 = .ok (.iconst 1, 1) := by decide +kernel
theorem dX10_areFreed_49 : decode cX10_areFreed 49 = .ok (.goto 4, 3) := by decide +kernel
theorem dX10_areFreed_52 : decode cX10_areFreed 52 = .ok (.iconst 0, 1) := by decide +kernel
theorem dX10_areFreed_53 : decode cX10_areFreed 53 = .ok (.istore_n 2, 1) := by decide +kernel
theorem dX10_areFreed_54 : decode cX10_areFreed 54 = .ok (.aload_n 0, 1) := by decide +kernel
theorem dX10_areFreed_55 : decode cX10_areFreed 55 = .ok (.iconst 0, 1) := by decide +kernel
theorem dX10_areFreed_56 : decode cX10_areFreed 56 = .ok (.putfield 40, 3) := by decide +kernel
theorem dX10_areFreed_59 : decode cX10_areFreed 59 = .ok (.iload_n 2, 1) := by decide +kernel
theorem dX10_areFreed_60 : decode cX10_areFreed 60 = .ok (.ireturn, 1) := by decide +kernel
theorem dX10_fewest_0 : decode cX10_fewest 0 = .ok (.iconst 0, 1) := by decide +kernel
theorem dX10_fewest_1 : decode cX10_fewest 1 = .ok (.istore_n 2, 1) := by decide +kernel
theorem dX10_fewest_2 : decode cX10_fewest 2 = .ok (.iconst 0, 1) := by decide +kernel
theorem dX10_fewest_3 : decode cX10_fewest 3 = .ok (.istore_n 3, 1) := by decide +kernel
theorem dX10_fewest_4 : decode cX10_fewest 4 = .ok (.iload_n 3, 1) := by decide +kernel
theorem dX10_fewest_5 : decode cX10_fewest 5 = .ok (.aload_n 0, 1) := by decide +kernel
theorem dX10_fewest_6 : decode cX10_fewest 6 = .ok (.invokevirtual 43, 3) := by decide +kernel
theorem dX10_fewest_9 : decode cX10_fewest 9 = .ok (.if_icmp .ge 27, 3) := by decide +kernel
theorem dX10_fewest_12 : decode cX10_fewest 12 = .ok (.iload_n 2, 1) := by decide +kernel
theorem dX10_fewest_13 : decode cX10_fewest 13 = .ok (.aload_n 0, 1) := by decide +kernel
theorem dX10_fewest_14 : decode cX10_fewest 14 = .ok (.iload_n 3, 1) := by decide +kernel
theorem dX10_fewest_15 : decode cX10_fewest 15 = .ok (.invokevirtual 84, 3) := by decide +kernel
theorem dX10_fewest_18 : decode cX10_fewest 18 = .ok (.ifCond .eq 9, 3) := by decide +kernel
theorem dX10_fewest_21 : decode cX10_fewest 21 = .ok (.iconst 1, 1) := by decide +kernel
theorem dX10_fewest_22 : decode cX10_fewest 22 = .ok (.iload_n 3, 1) := by decide +kernel
theorem dX10_fewest_23 : decode cX10_fewest 23 = .ok (.ishl, 1) := by decide +kernel
theorem dX10_fewest_24 : decode cX10_fewest 24 = .ok (.goto 4, 3) := by decide +kernel
theorem dX10_fewest_27 : decode cX10_fewest 27 = .ok (.iconst 0, 1) := by decide +kernel
theorem dX10_fewest_28 : decode cX10_fewest 28 = .ok (.ior, 1) := by decide +kernel
theorem dX10_fewest_29 : decode cX10_fewest 29 = .ok (.istore_n 2, 1) := by decide +kernel
theorem dX10_fewest_30 : decode cX10_fewest 30 = .ok (.iinc 3 1, 3) := by decide +kernel
theorem dX10_fewest_33 : decode cX10_fewest 33 = .ok (.goto (-29), 3) := by decide +kernel
theorem dX10_fewest_36 : decode cX10_fewest 36 = .ok (.iconst (-1), 1) := by decide +kernel
theorem dX10_fewest_37 : decode cX10_fewest 37 = .ok (.istore_n 3, 1) := by decide +kernel
theorem dX10_fewest_38 : decode cX10_fewest 38 = .ok (.iconst 0, 1) := by decide +kernel
theorem dX10_fewest_39 : decode cX10_fewest 39 = .ok (.istore 4, 2) := by decide +kernel
theorem dX10_fewest_41 : decode cX10_fewest 41 = .ok (.iload 4, 2) := by decide +kernel
theorem dX10_fewest_43 : decode cX10_fewest 43 = .ok (.iconst 1, 1) := by decide +kernel
theorem dX10_fewest_44 : decode cX10_fewest 44 = .ok (.aload_n 0, 1) := by decide +kernel
theorem dX10_fewest_45 : decode cX10_fewest 45 = .ok (.invokevirtual 43, 3) := by decide +kernel
theorem dX10_fewest_48 : decode cX10_fewest 48 = .ok (.ishl, 1) := by decide +kernel
theorem dX10_fewest_49 : decode cX10_fewest 49 = .ok (.if_icmp .ge 50, 3) := by decide +kernel
theorem dX10_fewest_52 : decode cX10_fewest 52 = .ok (.iload 4, 2) := by decide +kernel
theorem dX10_fewest_54 : decode cX10_fewest 54 = .ok (.iload_n 2, 1) := by decide +kernel
theorem dX10_fewest_55 : decode cX10_fewest 55 = .ok (.iconst (-1), 1) := by decide +kernel
theorem dX10_fewest_56 : decode cX10_fewest 56 = .ok (.ixor, 1) := by decide +kernel
theorem dX10_fewest_57 : decode cX10_fewest 57 = .ok (.iand, 1) := by decide +kernel
theorem dX10_fewest_58 : decode cX10_fewest 58 = .ok (.ifCond .ne 35, 3) := by decide +kernel
theorem dX10_fewest_61 : decode cX10_fewest 61 = .ok (.iload_n 3, 1) := by decide +kernel
theorem dX10_fewest_62 : decode cX10_fewest 62 = .ok (.iconst (-1), 1) := by decide +kernel
theorem dX10_fewest_63 : decode cX10_fewest 63 = .ok (.if_icmp .eq 15, 3) := by decide +kernel
theorem dX10_fewest_66 : decode cX10_fewest 66 = .ok (.iload 4, 2) := by decide +kernel
theorem dX10_fewest_68 : decode cX10_fewest 68 = .ok (.invokestatic 113, 3) := by decide +kernel
theorem dX10_fewest_71 : decode cX10_fewest 71 = .ok (.iload_n 3, 1) := by decide +kernel
theorem dX10_fewest_72 : decode cX10_fewest 72 = .ok (.invokestatic 113, 3) := by decide +kernel
theorem dX10_fewest_75 : decode cX10_fewest 75 = .ok (.if_icmp .ge 18, 3) := by decide +kernel
theorem dX10_fewest_78 : decode cX10_fewest 78 = .ok (.aload_n 0, 1) := by decide +kernel
theorem dX10_fewest_79 : decode cX10_fewest 79 = .ok (.iload 4, 2) := by decide +kernel
theorem dX10_fewest_81 : decode cX10_fewest 81 = .ok (.invokevirtual 183, 3) := by decide +kernel
theorem dX10_fewest_84 : decode cX10_fewest 84 = .ok (.ifCond .ne 6, 3) := by decide +kernel
theorem dX10_fewest_87 : decode cX10_fewest 87 = .ok (.goto 6, 3) := by decide +kernel
theorem dX10_fewest_90 : decode cX10_fewest 90 = .ok (.iload 4, 2) := by decide +kernel
theorem dX10_fewest_92 : decode cX10_fewest 92 = .ok (.istore_n 3, 1) := by decide +kernel
theorem dX10_fewest_93 : decode cX10_fewest 93 = .ok (.iinc 4 1, 3) := by decide +kernel
theorem dX10_fewest_96 : decode cX10_fewest 96 = .ok (.goto (-55), 3) := by decide +kernel
theorem dX10_fewest_99 : decode cX10_fewest 99 = .ok (.iload_n 3, 1) := by decide +kernel
theorem dX10_fewest_100 : decode cX10_fewest 100 = .ok (.iconst (-1), 1) := by decide +kernel
theorem dX10_fewest_101 : decode cX10_fewest 101 = .ok (.if_icmp .eq 7, 3) := by decide +kernel
theorem dX10_fewest_104 : decode cX10_fewest 104 = .ok (.iload_n 1, 1) := by decide +kernel
theorem dX10_fewest_105 : decode cX10_fewest 105 = .ok (.ifCond .eq 7, 3) := by decide +kernel
theorem dX10_fewest_108 : decode cX10_fewest 108 = .ok (.iload_n 3, 1) := by decide +kernel
theorem dX10_fewest_109 : decode cX10_fewest 109 = .ok (.goto 7, 3) := by decide +kernel
theorem dX10_fewest_112 : decode cX10_fewest 112 = .ok (.iload_n 3, 1) := by decide +kernel
theorem dX10_fewest_113 : decode cX10_fewest 113 = .ok (.invokestatic 113, 3) := by decide +kernel
theorem dX10_fewest_116 : decode cX10_fewest 116 = .ok (.ireturn, 1) := by decide +kernel
theorem dX10_feed_0 : decode cX10_feed 0 = .ok (.aload_n 0, 1) := by decide +kernel
theorem dX10_feed_1 : decode cX10_feed 1 = .ok (.getfield 158, 3) := by decide +kernel
theorem dX10_feed_4 : decode cX10_feed 4 = .ok (.bipush 20, 2) := by decide +kernel
theorem dX10_feed_6 : decode cX10_feed 6 = .ok (.iadd, 1) := by decide +kernel
theorem dX10_feed_7 : decode cX10_feed 7 = .ok (.sipush 800, 3) := by decide +kernel
theorem dX10_feed_10 : decode cX10_feed 10 = .ok (.if_icmp .le 5, 3) := by decide +kernel
theorem dX10_feed_13 : decode cX10_feed 13 = .ok (.iconst (-1), 1) := by decide +kernel
theorem dX10_feed_14 : decode cX10_feed 14 = .ok (.ireturn, 1) := by decide +kernel
theorem dX10_feed_15 : decode cX10_feed 15 = .ok (.iconst 0, 1) := by decide +kernel
theorem dX10_feed_16 : decode cX10_feed 16 = .ok (.istore 6, 2) := by decide +kernel
theorem dX10_feed_18 : decode cX10_feed 18 = .ok (.iload 6, 2) := by decide +kernel
theorem dX10_feed_20 : decode cX10_feed 20 = .ok (.bipush 20, 2) := by decide +kernel
theorem dX10_feed_22 : decode cX10_feed 22 = .ok (.if_icmp .ge 86, 3) := by decide +kernel
theorem dX10_feed_25 : decode cX10_feed 25 = .ok (.iload 6, 2) := by decide +kernel
theorem dX10_feed_27 : decode cX10_feed 27 = .ok (.iconst 4, 1) := by decide +kernel
theorem dX10_feed_28 : decode cX10_feed 28 = .ok (.if_icmp .ge 7, 3) := by decide +kernel
theorem dX10_feed_31 : decode cX10_feed 31 = .ok (.iload_n 1, 1) := by decide +kernel
theorem dX10_feed_32 : decode cX10_feed 32 = .ok (.goto 39, 3) := by decide +kernel
theorem dX10_feed_35 : decode cX10_feed 35 = .ok (.iload 6, 2) := by decide +kernel
theorem dX10_feed_37 : decode cX10_feed 37 = .ok (.bipush 8, 2) := by decide +kernel
theorem dX10_feed_39 : decode cX10_feed 39 = .ok (.if_icmp .ge 7, 3) := by decide +kernel
theorem dX10_feed_42 : decode cX10_feed 42 = .ok (.iload_n 2, 1) := by decide +kernel
theorem dX10_feed_43 : decode cX10_feed 43 = .ok (.goto 28, 3) := by decide +kernel
theorem dX10_feed_46 : decode cX10_feed 46 = .ok (.iload 6, 2) := by decide +kernel
theorem dX10_feed_48 : decode cX10_feed 48 = .ok (.bipush 12, 2) := by decide +kernel
theorem dX10_feed_50 : decode cX10_feed 50 = .ok (.if_icmp .ge 7, 3) := by decide +kernel
theorem dX10_feed_53 : decode cX10_feed 53 = .ok (.iload_n 3, 1) := by decide +kernel
theorem dX10_feed_54 : decode cX10_feed 54 = .ok (.goto 17, 3) := by decide +kernel
theorem dX10_feed_57 : decode cX10_feed 57 = .ok (.iload 6, 2) := by decide +kernel
theorem dX10_feed_59 : decode cX10_feed 59 = .ok (.bipush 16, 2) := by decide +kernel
theorem dX10_feed_61 : decode cX10_feed 61 = .ok (.if_icmp .ge 8, 3) := by decide +kernel
theorem dX10_feed_64 : decode cX10_feed 64 = .ok (.iload 4, 2) := by decide +kernel
theorem dX10_feed_66 : decode cX10_feed 66 = .ok (.goto 5, 3) := by decide +kernel
theorem dX10_feed_69 : decode cX10_feed 69 = .ok (.iload 5, 2) := by decide +kernel
theorem dX10_feed_71 : decode cX10_feed 71 = .ok (.istore 7, 2) := by decide +kernel
theorem dX10_feed_73 : decode cX10_feed 73 = .ok (.aload_n 0, 1) := by decide +kernel
theorem dX10_feed_74 : decode cX10_feed 74 = .ok (.getfield 13, 3) := by decide +kernel
theorem dX10_feed_77 : decode cX10_feed 77 = .ok (.aload_n 0, 1) := by decide +kernel
theorem dX10_feed_78 : decode cX10_feed 78 = .ok (.getfield 158, 3) := by decide +kernel
theorem dX10_feed_81 : decode cX10_feed 81 = .ok (.iload 6, 2) := by decide +kernel
theorem dX10_feed_83 : decode cX10_feed 83 = .ok (.iadd, 1) := by decide +kernel
theorem dX10_feed_84 : decode cX10_feed 84 = .ok (.iload 7, 2) := by decide +kernel
theorem dX10_feed_86 : decode cX10_feed 86 = .ok (.bipush 24, 2) := by decide +kernel
theorem dX10_feed_88 : decode cX10_feed 88 = .ok (.bipush 8, 2) := by decide +kernel
theorem dX10_feed_90 : decode cX10_feed 90 = .ok (.iload 6, 2) := by decide +kernel
theorem dX10_feed_92 : decode cX10_feed 92 = .ok (.iconst 3, 1) := by decide +kernel
theorem dX10_feed_93 : decode cX10_feed 93 = .ok (.iand, 1) := by decide +kernel
theorem dX10_feed_94 : decode cX10_feed 94 = .ok (.imul, 1) := by decide +kernel
theorem dX10_feed_95 : decode cX10_feed 95 = .ok (.isub, 1) := by decide +kernel
theorem dX10_feed_96 : decode cX10_feed 96 = .ok (.ishr, 1) := by decide +kernel
theorem dX10_feed_97 : decode cX10_feed 97 = .ok (.sipush 255, 3) := by decide +kernel
theorem dX10_feed_100 : decode cX10_feed 100 = .ok (.iand, 1) := by decide +kernel
theorem dX10_feed_101 : decode cX10_feed 101 = .ok (.iastore, 1) := by decide +kernel
theorem dX10_feed_102 : decode cX10_feed 102 = .ok (.iinc 6 1, 3) := by decide +kernel
theorem dX10_feed_105 : decode cX10_feed 105 = .ok (.goto (-87), 3) := by decide +kernel
theorem dX10_feed_108 : decode cX10_feed 108 = .ok (.aload_n 0, 1) := by decide +kernel
theorem dX10_feed_109 : decode cX10_feed 109 = .ok (.dup, 1) := by decide +kernel
theorem dX10_feed_110 : decode cX10_feed 110 = .ok (.getfield 158, 3) := by decide +kernel
theorem dX10_feed_113 : decode cX10_feed 113 = .ok (.bipush 20, 2) := by decide +kernel
theorem dX10_feed_115 : decode cX10_feed 115 = .ok (.iadd, 1) := by decide +kernel
theorem dX10_feed_116 : decode cX10_feed 116 = .ok (.putfield 158, 3) := by decide +kernel
theorem dX10_feed_119 : decode cX10_feed 119 = .ok (.aload_n 0, 1) := by decide +kernel
theorem dX10_feed_120 : decode cX10_feed 120 = .ok (.getfield 158, 3) := by decide +kernel
theorem dX10_feed_123 : decode cX10_feed 123 = .ok (.ireturn, 1) := by decide +kernel
theorem dX10_end_0 : decode cX10_end 0 = .ok (.iload_n 1, 1) := by decide +kernel
theorem dX10_end_1 : decode cX10_end 1 = .ok (.iconst 0, 1) := by decide +kernel
theorem dX10_end_2 : decode cX10_end 2 = .ok (.aload_n 0, 1) := by decide +kernel
theorem dX10_end_3 : decode cX10_end 3 = .ok (.getfield 158, 3) := by decide +kernel
theorem dX10_end_6 : decode cX10_end 6 = .ok (.invokestatic 47, 3) := by decide +kernel
theorem dX10_end_9 : decode cX10_end 9 = .ok (.ifCond .ne 5, 3) := by decide +kernel
theorem dX10_end_12 : decode cX10_end 12 = .ok (.iconst (-1), 1) := by decide +kernel
theorem dX10_end_13 : decode cX10_end 13 = .ok (.ireturn, 1) := by decide +kernel
theorem dX10_end_14 : decode cX10_end 14 = .ok (.aload_n 0, 1) := by decide +kernel
theorem dX10_end_15 : decode cX10_end 15 = .ok (.iload_n 1, 1) := by decide +kernel
theorem dX10_end_16 : decode cX10_end 16 = .ok (.putfield 158, 3) := by decide +kernel
theorem dX10_end_19 : decode cX10_end 19 = .ok (.iload_n 1, 1) := by decide +kernel
theorem dX10_end_20 : decode cX10_end 20 = .ok (.ireturn, 1) := by decide +kernel
theorem dX10_fault_0 : decode cX10_fault 0 = .ok (.iload_n 1, 1) := by decide +kernel
theorem dX10_fault_1 : decode cX10_fault 1 = .ok (.ifCond .ne 10, 3) := by decide +kernel
theorem dX10_fault_4 : decode cX10_fault 4 = .ok (.aload_n 0, 1) := by decide +kernel
theorem dX10_fault_5 : decode cX10_fault 5 = .ok (.getfield 186, 3) := by decide +kernel
theorem dX10_fault_8 : decode cX10_fault 8 = .ok (.goto 16, 3) := by decide +kernel
theorem dX10_fault_11 : decode cX10_fault 11 = .ok (.iload_n 1, 1) := by decide +kernel
theorem dX10_fault_12 : decode cX10_fault 12 = .ok (.iconst 1, 1) := by decide +kernel
theorem dX10_fault_13 : decode cX10_fault 13 = .ok (.if_icmp .ne 10, 3) := by decide +kernel
theorem dX10_fault_16 : decode cX10_fault 16 = .ok (.aload_n 0, 1) := by decide +kernel
theorem dX10_fault_17 : decode cX10_fault 17 = .ok (.getfield 20, 3) := by decide +kernel
theorem dX10_fault_20 : decode cX10_fault 20 = .ok (.goto 4, 3) := by decide +kernel
theorem dX10_fault_23 : decode cX10_fault 23 = .ok (.iconst (-1), 1) := by decide +kernel
theorem dX10_fault_24 : decode cX10_fault 24 = .ok (.ireturn, 1) := by decide +kernel
theorem dX10_byteAt_0 : decode cX10_byteAt 0 = .ok (.iload_n 1, 1) := by decide +kernel
theorem dX10_byteAt_1 : decode cX10_byteAt 1 = .ok (.aload_n 0, 1) := by decide +kernel
theorem dX10_byteAt_2 : decode cX10_byteAt 2 = .ok (.getfield 189, 3) := by decide +kernel
theorem dX10_byteAt_5 : decode cX10_byteAt 5 = .ok (.if_icmp .ge 12, 3) := by decide +kernel
theorem dX10_byteAt_8 : decode cX10_byteAt 8 = .ok (.aload_n 0, 1) := by decide +kernel
theorem dX10_byteAt_9 : decode cX10_byteAt 9 = .ok (.getfield 13, 3) := by decide +kernel
theorem dX10_byteAt_12 : decode cX10_byteAt 12 = .ok (.iload_n 1, 1) := by decide +kernel
theorem dX10_byteAt_13 : decode cX10_byteAt 13 = .ok (.iaload, 1) := by decide +kernel
theorem dX10_byteAt_14 : decode cX10_byteAt 14 = .ok (.goto 4, 3) := by decide +kernel
theorem dX10_byteAt_17 : decode cX10_byteAt 17 = .ok (.iconst (-1), 1) := by decide +kernel
theorem dX10_byteAt_18 : decode cX10_byteAt 18 = .ok (.ireturn, 1) := by decide +kernel
theorem dX10_isLetter_0 : decode cX10_isLetter 0 = .ok (.iload_n 0, 1) := by decide +kernel
theorem dX10_isLetter_1 : decode cX10_isLetter 1 = .ok (.bipush 97, 2) := by decide +kernel
theorem dX10_isLetter_3 : decode cX10_isLetter 3 = .ok (.if_icmp .lt 13, 3) := by decide +kernel
theorem dX10_isLetter_6 : decode cX10_isLetter 6 = .ok (.iload_n 0, 1) := by decide +kernel
theorem dX10_isLetter_7 : decode cX10_isLetter 7 = .ok (.bipush 122, 2) := by decide +kernel
theorem dX10_isLetter_9 : decode cX10_isLetter 9 = .ok (.if_icmp .gt 7, 3) := by decide +kernel
theorem dX10_isLetter_12 : decode cX10_isLetter 12 = .ok (.iconst 1, 1) := by decide +kernel
theorem dX10_isLetter_13 : decode cX10_isLetter 13 = .ok (.goto 4, 3) := by decide +kernel
theorem dX10_isLetter_16 : decode cX10_isLetter 16 = .ok (.iconst 0, 1) := by decide +kernel
theorem dX10_isLetter_17 : decode cX10_isLetter 17 = .ok (.ireturn, 1) := by decide +kernel
theorem dX10_isDigit_0 : decode cX10_isDigit 0 = .ok (.iload_n 0, 1) := by decide +kernel
theorem dX10_isDigit_1 : decode cX10_isDigit 1 = .ok (.bipush 48, 2) := by decide +kernel
theorem dX10_isDigit_3 : decode cX10_isDigit 3 = .ok (.if_icmp .lt 13, 3) := by decide +kernel
theorem dX10_isDigit_6 : decode cX10_isDigit 6 = .ok (.iload_n 0, 1) := by decide +kernel
theorem dX10_isDigit_7 : decode cX10_isDigit 7 = .ok (.bipush 57, 2) := by decide +kernel
theorem dX10_isDigit_9 : decode cX10_isDigit 9 = .ok (.if_icmp .gt 7, 3) := by decide +kernel
theorem dX10_isDigit_12 : decode cX10_isDigit 12 = .ok (.iconst 1, 1) := by decide +kernel
theorem dX10_isDigit_13 : decode cX10_isDigit 13 = .ok (.goto 4, 3) := by decide +kernel
theorem dX10_isDigit_16 : decode cX10_isDigit 16 = .ok (.iconst 0, 1) := by decide +kernel
theorem dX10_isDigit_17 : decode cX10_isDigit 17 = .ok (.ireturn, 1) := by decide +kernel
theorem dX10_takes_0 : decode cX10_takes 0 = .ok (.aload_n 0, 1) := by decide +kernel
theorem dX10_takes_1 : decode cX10_takes 1 = .ok (.aload_n 0, 1) := by decide +kernel
theorem dX10_takes_2 : decode cX10_takes 2 = .ok (.getfield 192, 3) := by decide +kernel
theorem dX10_takes_5 : decode cX10_takes 5 = .ok (.invokevirtual 195, 3) := by decide +kernel
theorem dX10_takes_8 : decode cX10_takes 8 = .ok (.bipush 32, 2) := by decide +kernel
theorem dX10_takes_10 : decode cX10_takes 10 = .ok (.if_icmp .eq 16, 3) := by decide +kernel
theorem dX10_takes_13 : decode cX10_takes 13 = .ok (.aload_n 0, 1) := by decide +kernel
theorem dX10_takes_14 : decode cX10_takes 14 = .ok (.aload_n 0, 1) := by decide +kernel
theorem dX10_takes_15 : decode cX10_takes 15 = .ok (.getfield 192, 3) := by decide +kernel
theorem dX10_takes_18 : decode cX10_takes 18 = .ok (.invokevirtual 195, 3) := by decide +kernel
theorem dX10_takes_21 : decode cX10_takes 21 = .ok (.bipush 10, 2) := by decide +kernel
theorem dX10_takes_23 : decode cX10_takes 23 = .ok (.if_icmp .ne 16, 3) := by decide +kernel
theorem dX10_takes_26 : decode cX10_takes 26 = .ok (.aload_n 0, 1) := by decide +kernel
theorem dX10_takes_27 : decode cX10_takes 27 = .ok (.dup, 1) := by decide +kernel
theorem dX10_takes_28 : decode cX10_takes 28 = .ok (.getfield 192, 3) := by decide +kernel
theorem dX10_takes_31 : decode cX10_takes 31 = .ok (.iconst 1, 1) := by decide +kernel
theorem dX10_takes_32 : decode cX10_takes 32 = .ok (.iadd, 1) := by decide +kernel
theorem dX10_takes_33 : decode cX10_takes 33 = .ok (.putfield 192, 3) := by decide +kernel
theorem dX10_takes_36 : decode cX10_takes 36 = .ok (.goto (-36), 3) := by decide +kernel
theorem dX10_takes_39 : decode cX10_takes 39 = .ok (.aload_n 0, 1) := by decide +kernel
theorem dX10_takes_40 : decode cX10_takes 40 = .ok (.aload_n 0, 1) := by decide +kernel
theorem dX10_takes_41 : decode cX10_takes 41 = .ok (.getfield 192, 3) := by decide +kernel
theorem dX10_takes_44 : decode cX10_takes 44 = .ok (.putfield 198, 3) := by decide +kernel
theorem dX10_takes_47 : decode cX10_takes 47 = .ok (.aload_n 0, 1) := by decide +kernel
theorem dX10_takes_48 : decode cX10_takes 48 = .ok (.aload_n 0, 1) := by decide +kernel
theorem dX10_takes_49 : decode cX10_takes 49 = .ok (.getfield 192, 3) := by decide +kernel
theorem dX10_takes_52 : decode cX10_takes 52 = .ok (.invokevirtual 195, 3) := by decide +kernel
theorem dX10_takes_55 : decode cX10_takes 55 = .ok (.istore_n 1, 1) := by decide +kernel
theorem dX10_takes_56 : decode cX10_takes 56 = .ok (.aload_n 0, 1) := by decide +kernel
theorem dX10_takes_57 : decode cX10_takes 57 = .ok (.lconst 0, 1) := by decide +kernel
theorem dX10_takes_58 : decode cX10_takes 58 = .ok (.putfield 201, 3) := by decide +kernel
theorem dX10_takes_61 : decode cX10_takes 61 = .ok (.iload_n 1, 1) := by decide +kernel
theorem dX10_takes_62 : decode cX10_takes 62 = .ok (.ifCond .ge 11, 3) := by decide +kernel
theorem dX10_takes_65 : decode cX10_takes 65 = .ok (.aload_n 0, 1) := by decide +kernel
theorem dX10_takes_66 : decode cX10_takes 66 = .ok (.iconst 0, 1) := by decide +kernel
theorem dX10_takes_67 : decode cX10_takes 67 = .ok (.putfield 205, 3) := by decide +kernel
theorem dX10_takes_70 : decode cX10_takes 70 = .ok (.goto 235, 3) := by decide +kernel
theorem dX10_takes_73 : decode cX10_takes 73 = .ok (.iload_n 1, 1) := by decide +kernel
theorem dX10_takes_74 : decode cX10_takes 74 = .ok (.invokestatic 208, 3) := by decide +kernel
theorem dX10_takes_77 : decode cX10_takes 77 = .ok (.ifCond .eq 86, 3) := by decide +kernel
theorem dX10_takes_80 : decode cX10_takes 80 = .ok (.aload_n 0, 1) := by decide +kernel
theorem dX10_takes_81 : decode cX10_takes 81 = .ok (.aload_n 0, 1) := by decide +kernel
theorem dX10_takes_82 : decode cX10_takes 82 = .ok (.getfield 192, 3) := by decide +kernel
theorem dX10_takes_85 : decode cX10_takes 85 = .ok (.invokevirtual 195, 3) := by decide +kernel
theorem dX10_takes_88 : decode cX10_takes 88 = .ok (.invokestatic 208, 3) := by decide +kernel
theorem dX10_takes_91 : decode cX10_takes 91 = .ok (.ifCond .eq 64, 3) := by decide +kernel
theorem dX10_takes_94 : decode cX10_takes 94 = .ok (.aload_n 0, 1) := by decide +kernel
theorem dX10_takes_95 : decode cX10_takes 95 = .ok (.aload_n 0, 1) := by decide +kernel
theorem dX10_takes_96 : decode cX10_takes 96 = .ok (.getfield 192, 3) := by decide +kernel
theorem dX10_takes_99 : decode cX10_takes 99 = .ok (.aload_n 0, 1) := by decide +kernel
theorem dX10_takes_100 : decode cX10_takes 100 = .ok (.getfield 198, 3) := by decide +kernel
theorem dX10_takes_103 : decode cX10_takes 103 = .ok (.isub, 1) := by decide +kernel
theorem dX10_takes_104 : decode cX10_takes 104 = .ok (.bipush 9, 2) := by decide +kernel
theorem dX10_takes_106 : decode cX10_takes 106 = .ok (.if_icmp .ge 30, 3) := by decide +kernel
theorem dX10_takes_109 : decode cX10_takes 109 = .ok (.ldc2_w 211, 3) := by decide +kernel
theorem dX10_takes_112 : decode cX10_takes 112 = .ok (.aload_n 0, 1) := by decide +kernel
theorem dX10_takes_113 : decode cX10_takes 113 = .ok (.getfield 201, 3) := by decide +kernel
theorem dX10_takes_116 : decode cX10_takes 116 = .ok (.lmul, 1) := by decide +kernel
theorem dX10_takes_117 : decode cX10_takes 117 = .ok (.aload_n 0, 1) := by decide +kernel
theorem dX10_takes_118 : decode cX10_takes 118 = .ok (.aload_n 0, 1) := by decide +kernel
theorem dX10_takes_119 : decode cX10_takes 119 = .ok (.getfield 192, 3) := by decide +kernel
theorem dX10_takes_122 : decode cX10_takes 122 = .ok (.invokevirtual 195, 3) := by decide +kernel
theorem dX10_takes_125 : decode cX10_takes 125 = .ok (.i2l, 1) := by decide +kernel
theorem dX10_takes_126 : decode cX10_takes 126 = .ok (.ladd, 1) := by decide +kernel
theorem dX10_takes_127 : decode cX10_takes 127 = .ok (.ldc2_w 213, 3) := by decide +kernel
theorem dX10_takes_130 : decode cX10_takes 130 = .ok (.lsub, 1) := by decide +kernel
theorem dX10_takes_131 : decode cX10_takes 131 = .ok (.lconst 1, 1) := by decide +kernel
theorem dX10_takes_132 : decode cX10_takes 132 = .ok (.ladd, 1) := by decide +kernel
theorem dX10_takes_133 : decode cX10_takes 133 = .ok (.goto 6, 3) := by decide +kernel
theorem dX10_takes_136 : decode cX10_takes 136 = .ok (.ldc2_w 215, 3) := by decide +kernel
theorem dX10_takes_139 : decode cX10_takes 139 = .ok (.putfield 201, 3) := by decide +kernel
theorem dX10_takes_142 : decode cX10_takes 142 = .ok (.aload_n 0, 1) := by decide +kernel
theorem dX10_takes_143 : decode cX10_takes 143 = .ok (.dup, 1) := by decide +kernel
theorem dX10_takes_144 : decode cX10_takes 144 = .ok (.getfield 192, 3) := by decide +kernel
theorem dX10_takes_147 : decode cX10_takes 147 = .ok (.iconst 1, 1) := by decide +kernel
theorem dX10_takes_148 : decode cX10_takes 148 = .ok (.iadd, 1) := by decide +kernel
theorem dX10_takes_149 : decode cX10_takes 149 = .ok (.putfield 192, 3) := by decide +kernel
theorem dX10_takes_152 : decode cX10_takes 152 = .ok (.goto (-72), 3) := by decide +kernel
theorem dX10_takes_155 : decode cX10_takes 155 = .ok (.aload_n 0, 1) := by decide +kernel
theorem dX10_takes_156 : decode cX10_takes 156 = .ok (.iconst 1, 1) := by decide +kernel
theorem dX10_takes_157 : decode cX10_takes 157 = .ok (.putfield 205, 3) := by decide +kernel
theorem dX10_takes_160 : decode cX10_takes 160 = .ok (.goto 145, 3) := by decide +kernel
theorem dX10_takes_163 : decode cX10_takes 163 = .ok (.iload_n 1, 1) := by decide +kernel
theorem dX10_takes_164 : decode cX10_takes 164 = .ok (.invokestatic 217, 3) := by decide +kernel
theorem dX10_takes_167 : decode cX10_takes 167 = .ok (.ifCond .eq 101, 3) := by decide +kernel
theorem dX10_takes_170 : decode cX10_takes 170 = .ok (.aload_n 0, 1) := by decide +kernel
theorem dX10_takes_171 : decode cX10_takes 171 = .ok (.aload_n 0, 1) := by decide +kernel
theorem dX10_takes_172 : decode cX10_takes 172 = .ok (.getfield 192, 3) := by decide +kernel
theorem dX10_takes_175 : decode cX10_takes 175 = .ok (.invokevirtual 195, 3) := by decide +kernel
theorem dX10_takes_178 : decode cX10_takes 178 = .ok (.invokestatic 217, 3) := by decide +kernel
theorem dX10_takes_181 : decode cX10_takes 181 = .ok (.ifCond .eq 62, 3) := by decide +kernel
theorem dX10_takes_184 : decode cX10_takes 184 = .ok (.aload_n 0, 1) := by decide +kernel
theorem dX10_takes_185 : decode cX10_takes 185 = .ok (.aload_n 0, 1) := by decide +kernel
theorem dX10_takes_186 : decode cX10_takes 186 = .ok (.getfield 192, 3) := by decide +kernel
theorem dX10_takes_189 : decode cX10_takes 189 = .ok (.aload_n 0, 1) := by decide +kernel
theorem dX10_takes_190 : decode cX10_takes 190 = .ok (.getfield 198, 3) := by decide +kernel
theorem dX10_takes_193 : decode cX10_takes 193 = .ok (.isub, 1) := by decide +kernel
theorem dX10_takes_194 : decode cX10_takes 194 = .ok (.iconst 2, 1) := by decide +kernel
theorem dX10_takes_195 : decode cX10_takes 195 = .ok (.if_icmp .ge 28, 3) := by decide +kernel
theorem dX10_takes_198 : decode cX10_takes 198 = .ok (.ldc2_w 220, 3) := by decide +kernel
theorem dX10_takes_201 : decode cX10_takes 201 = .ok (.aload_n 0, 1) := by decide +kernel
theorem dX10_takes_202 : decode cX10_takes 202 = .ok (.getfield 201, 3) := by decide +kernel
theorem dX10_takes_205 : decode cX10_takes 205 = .ok (.lmul, 1) := by decide +kernel
theorem dX10_takes_206 : decode cX10_takes 206 = .ok (.aload_n 0, 1) := by decide +kernel
theorem dX10_takes_207 : decode cX10_takes 207 = .ok (.aload_n 0, 1) := by decide +kernel
theorem dX10_takes_208 : decode cX10_takes 208 = .ok (.getfield 192, 3) := by decide +kernel
theorem dX10_takes_211 : decode cX10_takes 211 = .ok (.invokevirtual 195, 3) := by decide +kernel
theorem dX10_takes_214 : decode cX10_takes 214 = .ok (.i2l, 1) := by decide +kernel
theorem dX10_takes_215 : decode cX10_takes 215 = .ok (.ladd, 1) := by decide +kernel
theorem dX10_takes_216 : decode cX10_takes 216 = .ok (.ldc2_w 222, 3) := by decide +kernel
theorem dX10_takes_219 : decode cX10_takes 219 = .ok (.lsub, 1) := by decide +kernel
theorem dX10_takes_220 : decode cX10_takes 220 = .ok (.goto 7, 3) := by decide +kernel
theorem dX10_takes_223 : decode cX10_takes 223 = .ok (.aload_n 0, 1) := by decide +kernel
theorem dX10_takes_224 : decode cX10_takes 224 = .ok (.getfield 201, 3) := by decide +kernel
theorem dX10_takes_227 : decode cX10_takes 227 = .ok (.putfield 201, 3) := by decide +kernel
theorem dX10_takes_230 : decode cX10_takes 230 = .ok (.aload_n 0, 1) := by decide +kernel
theorem dX10_takes_231 : decode cX10_takes 231 = .ok (.dup, 1) := by decide +kernel
theorem dX10_takes_232 : decode cX10_takes 232 = .ok (.getfield 192, 3) := by decide +kernel
theorem dX10_takes_235 : decode cX10_takes 235 = .ok (.iconst 1, 1) := by decide +kernel
theorem dX10_takes_236 : decode cX10_takes 236 = .ok (.iadd, 1) := by decide +kernel
theorem dX10_takes_237 : decode cX10_takes 237 = .ok (.putfield 192, 3) := by decide +kernel
theorem dX10_takes_240 : decode cX10_takes 240 = .ok (.goto (-70), 3) := by decide +kernel
theorem dX10_takes_243 : decode cX10_takes 243 = .ok (.aload_n 0, 1) := by decide +kernel
theorem dX10_takes_244 : decode cX10_takes 244 = .ok (.aload_n 0, 1) := by decide +kernel
theorem dX10_takes_245 : decode cX10_takes 245 = .ok (.getfield 192, 3) := by decide +kernel
theorem dX10_takes_248 : decode cX10_takes 248 = .ok (.aload_n 0, 1) := by decide +kernel
theorem dX10_takes_249 : decode cX10_takes 249 = .ok (.getfield 198, 3) := by decide +kernel
theorem dX10_takes_252 : decode cX10_takes 252 = .ok (.isub, 1) := by decide +kernel
theorem dX10_takes_253 : decode cX10_takes 253 = .ok (.iconst 2, 1) := by decide +kernel
theorem dX10_takes_254 : decode cX10_takes 254 = .ok (.if_icmp .le 7, 3) := by decide +kernel
theorem dX10_takes_257 : decode cX10_takes 257 = .ok (.iconst 4, 1) := by decide +kernel
theorem dX10_takes_258 : decode cX10_takes 258 = .ok (.goto 4, 3) := by decide +kernel
theorem dX10_takes_261 : decode cX10_takes 261 = .ok (.iconst 2, 1) := by decide +kernel
theorem dX10_takes_262 : decode cX10_takes 262 = .ok (.putfield 205, 3) := by decide +kernel
theorem dX10_takes_265 : decode cX10_takes 265 = .ok (.goto 40, 3) := by decide +kernel
theorem dX10_takes_268 : decode cX10_takes 268 = .ok (.aload_n 0, 1) := by decide +kernel
theorem dX10_takes_269 : decode cX10_takes 269 = .ok (.dup, 1) := by decide +kernel
theorem dX10_takes_270 : decode cX10_takes 270 = .ok (.getfield 192, 3) := by decide +kernel
theorem dX10_takes_273 : decode cX10_takes 273 = .ok (.iconst 1, 1) := by decide +kernel
theorem dX10_takes_274 : decode cX10_takes 274 = .ok (.iadd, 1) := by decide +kernel
theorem dX10_takes_275 : decode cX10_takes 275 = .ok (.putfield 192, 3) := by decide +kernel
theorem dX10_takes_278 : decode cX10_takes 278 = .ok (.aload_n 0, 1) := by decide +kernel
theorem dX10_takes_279 : decode cX10_takes 279 = .ok (.iload_n 1, 1) := by decide +kernel
theorem dX10_takes_280 : decode cX10_takes 280 = .ok (.i2l, 1) := by decide +kernel
theorem dX10_takes_281 : decode cX10_takes 281 = .ok (.putfield 201, 3) := by decide +kernel
theorem dX10_takes_284 : decode cX10_takes 284 = .ok (.aload_n 0, 1) := by decide +kernel
theorem dX10_takes_285 : decode cX10_takes 285 = .ok (.iload_n 1, 1) := by decide +kernel
theorem dX10_takes_286 : decode cX10_takes 286 = .ok (.bipush 59, 2) := by decide +kernel
theorem dX10_takes_288 : decode cX10_takes 288 = .ok (.if_icmp .eq 9, 3) := by decide +kernel
theorem dX10_takes_291 : decode cX10_takes 291 = .ok (.iload_n 1, 1) := by decide +kernel
theorem dX10_takes_292 : decode cX10_takes 292 = .ok (.bipush 44, 2) := by decide +kernel
theorem dX10_takes_294 : decode cX10_takes 294 = .ok (.if_icmp .ne 7, 3) := by decide +kernel
theorem dX10_takes_297 : decode cX10_takes 297 = .ok (.iconst 3, 1) := by decide +kernel
theorem dX10_takes_298 : decode cX10_takes 298 = .ok (.goto 4, 3) := by decide +kernel
theorem dX10_takes_301 : decode cX10_takes 301 = .ok (.iconst 4, 1) := by decide +kernel
theorem dX10_takes_302 : decode cX10_takes 302 = .ok (.putfield 205, 3) := by decide +kernel
theorem dX10_takes_305 : decode cX10_takes 305 = .ok (.return_, 1) := by decide +kernel
theorem dX10_wrong_0 : decode cX10_wrong 0 = .ok (.aload_n 0, 1) := by decide +kernel
theorem dX10_wrong_1 : decode cX10_wrong 1 = .ok (.getfield 186, 3) := by decide +kernel
theorem dX10_wrong_4 : decode cX10_wrong 4 = .ok (.ifCond .le 4, 3) := by decide +kernel
theorem dX10_wrong_7 : decode cX10_wrong 7 = .ok (.return_, 1) := by decide +kernel
theorem dX10_wrong_8 : decode cX10_wrong 8 = .ok (.aload_n 0, 1) := by decide +kernel
theorem dX10_wrong_9 : decode cX10_wrong 9 = .ok (.iconst 1, 1) := by decide +kernel
theorem dX10_wrong_10 : decode cX10_wrong 10 = .ok (.putfield 186, 3) := by decide +kernel
theorem dX10_wrong_13 : decode cX10_wrong 13 = .ok (.aload_n 0, 1) := by decide +kernel
theorem dX10_wrong_14 : decode cX10_wrong 14 = .ok (.aload_n 0, 1) := by decide +kernel
theorem dX10_wrong_15 : decode cX10_wrong 15 = .ok (.getfield 198, 3) := by decide +kernel
theorem dX10_wrong_18 : decode cX10_wrong 18 = .ok (.putfield 20, 3) := by decide +kernel
theorem dX10_wrong_21 : decode cX10_wrong 21 = .ok (.return_, 1) := by decide +kernel
theorem dX10_also_0 : decode cX10_also 0 = .ok (.aload_n 0, 1) := by decide +kernel
theorem dX10_also_1 : decode cX10_also 1 = .ok (.getfield 224, 3) := by decide +kernel
theorem dX10_also_4 : decode cX10_also 4 = .ok (.ifCond .le 28, 3) := by decide +kernel
theorem dX10_also_7 : decode cX10_also 7 = .ok (.iload_n 2, 1) := by decide +kernel
theorem dX10_also_8 : decode cX10_also 8 = .ok (.aload_n 0, 1) := by decide +kernel
theorem dX10_also_9 : decode cX10_also 9 = .ok (.getfield 227, 3) := by decide +kernel
theorem dX10_also_12 : decode cX10_also 12 = .ok (.if_icmp .gt 19, 3) := by decide +kernel
theorem dX10_also_15 : decode cX10_also 15 = .ok (.iload_n 2, 1) := by decide +kernel
theorem dX10_also_16 : decode cX10_also 16 = .ok (.aload_n 0, 1) := by decide +kernel
theorem dX10_also_17 : decode cX10_also 17 = .ok (.getfield 227, 3) := by decide +kernel
theorem dX10_also_20 : decode cX10_also 20 = .ok (.if_icmp .ne 12, 3) := by decide +kernel
theorem dX10_also_23 : decode cX10_also 23 = .ok (.iload_n 1, 1) := by decide +kernel
theorem dX10_also_24 : decode cX10_also 24 = .ok (.aload_n 0, 1) := by decide +kernel
theorem dX10_also_25 : decode cX10_also 25 = .ok (.getfield 224, 3) := by decide +kernel
theorem dX10_also_28 : decode cX10_also 28 = .ok (.if_icmp .le 4, 3) := by decide +kernel
theorem dX10_also_31 : decode cX10_also 31 = .ok (.return_, 1) := by decide +kernel
theorem dX10_also_32 : decode cX10_also 32 = .ok (.aload_n 0, 1) := by decide +kernel
theorem dX10_also_33 : decode cX10_also 33 = .ok (.iload_n 1, 1) := by decide +kernel
theorem dX10_also_34 : decode cX10_also 34 = .ok (.putfield 224, 3) := by decide +kernel
theorem dX10_also_37 : decode cX10_also 37 = .ok (.aload_n 0, 1) := by decide +kernel
theorem dX10_also_38 : decode cX10_also 38 = .ok (.iload_n 2, 1) := by decide +kernel
theorem dX10_also_39 : decode cX10_also 39 = .ok (.putfield 227, 3) := by decide +kernel
theorem dX10_also_42 : decode cX10_also 42 = .ok (.return_, 1) := by decide +kernel
theorem dX10_isGood_0 : decode cX10_isGood 0 = .ok (.aload_n 0, 1) := by decide +kernel
theorem dX10_isGood_1 : decode cX10_isGood 1 = .ok (.getfield 186, 3) := by decide +kernel
theorem dX10_isGood_4 : decode cX10_isGood 4 = .ok (.ifCond .ne 7, 3) := by decide +kernel
theorem dX10_isGood_7 : decode cX10_isGood 7 = .ok (.iconst 1, 1) := by decide +kernel
theorem dX10_isGood_8 : decode cX10_isGood 8 = .ok (.goto 4, 3) := by decide +kernel
theorem dX10_isGood_11 : decode cX10_isGood 11 = .ok (.iconst 0, 1) := by decide +kernel
theorem dX10_isGood_12 : decode cX10_isGood 12 = .ok (.ireturn, 1) := by decide +kernel
theorem dX10_hasWord_0 : decode cX10_hasWord 0 = .ok (.aload_n 0, 1) := by decide +kernel
theorem dX10_hasWord_1 : decode cX10_hasWord 1 = .ok (.invokevirtual 230, 3) := by decide +kernel
theorem dX10_hasWord_4 : decode cX10_hasWord 4 = .ok (.ifCond .eq 24, 3) := by decide +kernel
theorem dX10_hasWord_7 : decode cX10_hasWord 7 = .ok (.aload_n 0, 1) := by decide +kernel
theorem dX10_hasWord_8 : decode cX10_hasWord 8 = .ok (.getfield 205, 3) := by decide +kernel
theorem dX10_hasWord_11 : decode cX10_hasWord 11 = .ok (.iconst 1, 1) := by decide +kernel
theorem dX10_hasWord_12 : decode cX10_hasWord 12 = .ok (.if_icmp .ne 16, 3) := by decide +kernel
theorem dX10_hasWord_15 : decode cX10_hasWord 15 = .ok (.aload_n 0, 1) := by decide +kernel
theorem dX10_hasWord_16 : decode cX10_hasWord 16 = .ok (.getfield 201, 3) := by decide +kernel
theorem dX10_hasWord_19 : decode cX10_hasWord 19 = .ok (.lload_n 1, 1) := by decide +kernel
theorem dX10_hasWord_20 : decode cX10_hasWord 20 = .ok (.lcmp, 1) := by decide +kernel
theorem dX10_hasWord_21 : decode cX10_hasWord 21 = .ok (.ifCond .ne 7, 3) := by decide +kernel
theorem dX10_hasWord_24 : decode cX10_hasWord 24 = .ok (.iconst 1, 1) := by decide +kernel
theorem dX10_hasWord_25 : decode cX10_hasWord 25 = .ok (.goto 4, 3) := by decide +kernel
theorem dX10_hasWord_28 : decode cX10_hasWord 28 = .ok (.iconst 0, 1) := by decide +kernel
theorem dX10_hasWord_29 : decode cX10_hasWord 29 = .ok (.istore_n 3, 1) := by decide +kernel
theorem dX10_hasWord_30 : decode cX10_hasWord 30 = .ok (.iload_n 3, 1) := by decide +kernel
theorem dX10_hasWord_31 : decode cX10_hasWord 31 = .ok (.ifCond .eq 7, 3) := by decide +kernel
theorem dX10_hasWord_34 : decode cX10_hasWord 34 = .ok (.aload_n 0, 1) := by decide +kernel
theorem dX10_hasWord_35 : decode cX10_hasWord 35 = .ok (.invokevirtual 234, 3) := by decide +kernel
theorem dX10_hasWord_38 : decode cX10_hasWord 38 = .ok (.iload_n 3, 1) := by decide +kernel
theorem dX10_hasWord_39 : decode cX10_hasWord 39 = .ok (.ireturn, 1) := by decide +kernel
theorem dX10_hasSign_0 : decode cX10_hasSign 0 = .ok (.aload_n 0, 1) := by decide +kernel
theorem dX10_hasSign_1 : decode cX10_hasSign 1 = .ok (.invokevirtual 230, 3) := by decide +kernel
theorem dX10_hasSign_4 : decode cX10_hasSign 4 = .ok (.ifCond .eq 25, 3) := by decide +kernel
theorem dX10_hasSign_7 : decode cX10_hasSign 7 = .ok (.aload_n 0, 1) := by decide +kernel
theorem dX10_hasSign_8 : decode cX10_hasSign 8 = .ok (.getfield 205, 3) := by decide +kernel
theorem dX10_hasSign_11 : decode cX10_hasSign 11 = .ok (.iconst 3, 1) := by decide +kernel
theorem dX10_hasSign_12 : decode cX10_hasSign 12 = .ok (.if_icmp .ne 17, 3) := by decide +kernel
theorem dX10_hasSign_15 : decode cX10_hasSign 15 = .ok (.aload_n 0, 1) := by decide +kernel
theorem dX10_hasSign_16 : decode cX10_hasSign 16 = .ok (.getfield 201, 3) := by decide +kernel
theorem dX10_hasSign_19 : decode cX10_hasSign 19 = .ok (.iload_n 1, 1) := by decide +kernel
theorem dX10_hasSign_20 : decode cX10_hasSign 20 = .ok (.i2l, 1) := by decide +kernel
theorem dX10_hasSign_21 : decode cX10_hasSign 21 = .ok (.lcmp, 1) := by decide +kernel
theorem dX10_hasSign_22 : decode cX10_hasSign 22 = .ok (.ifCond .ne 7, 3) := by decide +kernel
theorem dX10_hasSign_25 : decode cX10_hasSign 25 = .ok (.iconst 1, 1) := by decide +kernel
theorem dX10_hasSign_26 : decode cX10_hasSign 26 = .ok (.goto 4, 3) := by decide +kernel
theorem dX10_hasSign_29 : decode cX10_hasSign 29 = .ok (.iconst 0, 1) := by decide +kernel
theorem dX10_hasSign_30 : decode cX10_hasSign 30 = .ok (.istore_n 2, 1) := by decide +kernel
theorem dX10_hasSign_31 : decode cX10_hasSign 31 = .ok (.iload_n 2, 1) := by decide +kernel
theorem dX10_hasSign_32 : decode cX10_hasSign 32 = .ok (.ifCond .eq 7, 3) := by decide +kernel
theorem dX10_hasSign_35 : decode cX10_hasSign 35 = .ok (.aload_n 0, 1) := by decide +kernel
theorem dX10_hasSign_36 : decode cX10_hasSign 36 = .ok (.invokevirtual 234, 3) := by decide +kernel
theorem dX10_hasSign_39 : decode cX10_hasSign 39 = .ok (.iload_n 2, 1) := by decide +kernel
theorem dX10_hasSign_40 : decode cX10_hasSign 40 = .ok (.ireturn, 1) := by decide +kernel
theorem dX10_numeral_0 : decode cX10_numeral 0 = .ok (.aload_n 0, 1) := by decide +kernel
theorem dX10_numeral_1 : decode cX10_numeral 1 = .ok (.invokevirtual 230, 3) := by decide +kernel
theorem dX10_numeral_4 : decode cX10_numeral 4 = .ok (.ifCond .eq 15, 3) := by decide +kernel
theorem dX10_numeral_7 : decode cX10_numeral 7 = .ok (.aload_n 0, 1) := by decide +kernel
theorem dX10_numeral_8 : decode cX10_numeral 8 = .ok (.getfield 205, 3) := by decide +kernel
theorem dX10_numeral_11 : decode cX10_numeral 11 = .ok (.iconst 2, 1) := by decide +kernel
theorem dX10_numeral_12 : decode cX10_numeral 12 = .ok (.if_icmp .eq 7, 3) := by decide +kernel
theorem dX10_numeral_15 : decode cX10_numeral 15 = .ok (.aload_n 0, 1) := by decide +kernel
theorem dX10_numeral_16 : decode cX10_numeral 16 = .ok (.invokevirtual 237, 3) := by decide +kernel
theorem dX10_numeral_19 : decode cX10_numeral 19 = .ok (.aload_n 0, 1) := by decide +kernel
theorem dX10_numeral_20 : decode cX10_numeral 20 = .ok (.invokevirtual 230, 3) := by decide +kernel
theorem dX10_numeral_23 : decode cX10_numeral 23 = .ok (.ifCond .ne 5, 3) := by decide +kernel
theorem dX10_numeral_26 : decode cX10_numeral 26 = .ok (.iload_n 1, 1) := by decide +kernel
theorem dX10_numeral_27 : decode cX10_numeral 27 = .ok (.ireturn, 1) := by decide +kernel
theorem dX10_numeral_28 : decode cX10_numeral 28 = .ok (.aload_n 0, 1) := by decide +kernel
theorem dX10_numeral_29 : decode cX10_numeral 29 = .ok (.getfield 201, 3) := by decide +kernel
theorem dX10_numeral_32 : decode cX10_numeral 32 = .ok (.l2i, 1) := by decide +kernel
theorem dX10_numeral_33 : decode cX10_numeral 33 = .ok (.iload_n 1, 1) := by decide +kernel
theorem dX10_numeral_34 : decode cX10_numeral 34 = .ok (.iload_n 2, 1) := by decide +kernel
theorem dX10_numeral_35 : decode cX10_numeral 35 = .ok (.invokestatic 47, 3) := by decide +kernel
theorem dX10_numeral_38 : decode cX10_numeral 38 = .ok (.istore_n 3, 1) := by decide +kernel
theorem dX10_numeral_39 : decode cX10_numeral 39 = .ok (.iload_n 3, 1) := by decide +kernel
theorem dX10_numeral_40 : decode cX10_numeral 40 = .ok (.ifCond .ne 12, 3) := by decide +kernel
theorem dX10_numeral_43 : decode cX10_numeral 43 = .ok (.aload_n 0, 1) := by decide +kernel
theorem dX10_numeral_44 : decode cX10_numeral 44 = .ok (.iconst 2, 1) := by decide +kernel
theorem dX10_numeral_45 : decode cX10_numeral 45 = .ok (.aload_n 0, 1) := by decide +kernel
theorem dX10_numeral_46 : decode cX10_numeral 46 = .ok (.getfield 198, 3) := by decide +kernel
theorem dX10_numeral_49 : decode cX10_numeral 49 = .ok (.invokevirtual 240, 3) := by decide +kernel
theorem dX10_numeral_52 : decode cX10_numeral 52 = .ok (.iload_n 3, 1) := by decide +kernel
theorem dX10_numeral_53 : decode cX10_numeral 53 = .ok (.ifCond .eq 11, 3) := by decide +kernel
theorem dX10_numeral_56 : decode cX10_numeral 56 = .ok (.aload_n 0, 1) := by decide +kernel
theorem dX10_numeral_57 : decode cX10_numeral 57 = .ok (.getfield 201, 3) := by decide +kernel
theorem dX10_numeral_60 : decode cX10_numeral 60 = .ok (.l2i, 1) := by decide +kernel
theorem dX10_numeral_61 : decode cX10_numeral 61 = .ok (.goto 4, 3) := by decide +kernel
theorem dX10_numeral_64 : decode cX10_numeral 64 = .ok (.iload_n 1, 1) := by decide +kernel
theorem dX10_numeral_65 : decode cX10_numeral 65 = .ok (.istore 4, 2) := by decide +kernel
theorem dX10_numeral_67 : decode cX10_numeral 67 = .ok (.aload_n 0, 1) := by decide +kernel
theorem dX10_numeral_68 : decode cX10_numeral 68 = .ok (.invokevirtual 234, 3) := by decide +kernel
theorem dX10_numeral_71 : decode cX10_numeral 71 = .ok (.iload 4, 2) := by decide +kernel
theorem dX10_numeral_73 : decode cX10_numeral 73 = .ok (.ireturn, 1) := by decide +kernel
theorem dX10_sortOf_0 : decode cX10_sortOf 0 = .ok (.iconst 0, 1) := by decide +kernel
theorem dX10_sortOf_1 : decode cX10_sortOf 1 = .ok (.istore_n 3, 1) := by decide +kernel
theorem dX10_sortOf_2 : decode cX10_sortOf 2 = .ok (.iload_n 3, 1) := by decide +kernel
theorem dX10_sortOf_3 : decode cX10_sortOf 3 = .ok (.bipush 9, 2) := by decide +kernel
theorem dX10_sortOf_5 : decode cX10_sortOf 5 = .ok (.if_icmp .gt 21, 3) := by decide +kernel
theorem dX10_sortOf_8 : decode cX10_sortOf 8 = .ok (.getstatic 244, 3) := by decide +kernel
theorem dX10_sortOf_11 : decode cX10_sortOf 11 = .ok (.iload_n 3, 1) := by decide +kernel
theorem dX10_sortOf_12 : decode cX10_sortOf 12 = .ok (.laload, 1) := by decide +kernel
theorem dX10_sortOf_13 : decode cX10_sortOf 13 = .ok (.lload_n 1, 1) := by decide +kernel
theorem dX10_sortOf_14 : decode cX10_sortOf 14 = .ok (.lcmp, 1) := by decide +kernel
theorem dX10_sortOf_15 : decode cX10_sortOf 15 = .ok (.ifCond .ne 5, 3) := by decide +kernel
theorem dX10_sortOf_18 : decode cX10_sortOf 18 = .ok (.iload_n 3, 1) := by decide +kernel
theorem dX10_sortOf_19 : decode cX10_sortOf 19 = .ok (.ireturn, 1) := by decide +kernel
theorem dX10_sortOf_20 : decode cX10_sortOf 20 = .ok (.iinc 3 1, 3) := by decide +kernel
theorem dX10_sortOf_23 : decode cX10_sortOf 23 = .ok (.goto (-21), 3) := by decide +kernel
theorem dX10_sortOf_26 : decode cX10_sortOf 26 = .ok (.iconst (-1), 1) := by decide +kernel
theorem dX10_sortOf_27 : decode cX10_sortOf 27 = .ok (.ireturn, 1) := by decide +kernel
theorem dX10_numberOf_0 : decode cX10_numberOf 0 = .ok (.iload_n 1, 1) := by decide +kernel
theorem dX10_numberOf_1 : decode cX10_numberOf 1 = .ok (.ifCond .ne 11, 3) := by decide +kernel
theorem dX10_numberOf_4 : decode cX10_numberOf 4 = .ok (.aload_n 0, 1) := by decide +kernel
theorem dX10_numberOf_5 : decode cX10_numberOf 5 = .ok (.iconst 1, 1) := by decide +kernel
theorem dX10_numberOf_6 : decode cX10_numberOf 6 = .ok (.bipush 50, 2) := by decide +kernel
theorem dX10_numberOf_8 : decode cX10_numberOf 8 = .ok (.invokevirtual 248, 3) := by decide +kernel
theorem dX10_numberOf_11 : decode cX10_numberOf 11 = .ok (.ireturn, 1) := by decide +kernel
theorem dX10_numberOf_12 : decode cX10_numberOf 12 = .ok (.iload_n 1, 1) := by decide +kernel
theorem dX10_numberOf_13 : decode cX10_numberOf 13 = .ok (.bipush 7, 2) := by decide +kernel
theorem dX10_numberOf_15 : decode cX10_numberOf 15 = .ok (.if_icmp .ne 11, 3) := by decide +kernel
theorem dX10_numberOf_18 : decode cX10_numberOf 18 = .ok (.aload_n 0, 1) := by decide +kernel
theorem dX10_numberOf_19 : decode cX10_numberOf 19 = .ok (.iconst 1, 1) := by decide +kernel
theorem dX10_numberOf_20 : decode cX10_numberOf 20 = .ok (.bipush 99, 2) := by decide +kernel
theorem dX10_numberOf_22 : decode cX10_numberOf 22 = .ok (.invokevirtual 248, 3) := by decide +kernel
theorem dX10_numberOf_25 : decode cX10_numberOf 25 = .ok (.ireturn, 1) := by decide +kernel
theorem dX10_numberOf_26 : decode cX10_numberOf 26 = .ok (.iload_n 1, 1) := by decide +kernel
theorem dX10_numberOf_27 : decode cX10_numberOf 27 = .ok (.iconst 1, 1) := by decide +kernel
theorem dX10_numberOf_28 : decode cX10_numberOf 28 = .ok (.if_icmp .eq 8, 3) := by decide +kernel
theorem dX10_numberOf_31 : decode cX10_numberOf 31 = .ok (.iload_n 1, 1) := by decide +kernel
theorem dX10_numberOf_32 : decode cX10_numberOf 32 = .ok (.iconst 2, 1) := by decide +kernel
theorem dX10_numberOf_33 : decode cX10_numberOf 33 = .ok (.if_icmp .ne 10, 3) := by decide +kernel
theorem dX10_numberOf_36 : decode cX10_numberOf 36 = .ok (.aload_n 0, 1) := by decide +kernel
theorem dX10_numberOf_37 : decode cX10_numberOf 37 = .ok (.iconst 0, 1) := by decide +kernel
theorem dX10_numberOf_38 : decode cX10_numberOf 38 = .ok (.iconst 5, 1) := by decide +kernel
theorem dX10_numberOf_39 : decode cX10_numberOf 39 = .ok (.invokevirtual 248, 3) := by decide +kernel
theorem dX10_numberOf_42 : decode cX10_numberOf 42 = .ok (.ireturn, 1) := by decide +kernel
theorem dX10_numberOf_43 : decode cX10_numberOf 43 = .ok (.iload_n 1, 1) := by decide +kernel
theorem dX10_numberOf_44 : decode cX10_numberOf 44 = .ok (.iconst 3, 1) := by decide +kernel
theorem dX10_numberOf_45 : decode cX10_numberOf 45 = .ok (.if_icmp .eq 8, 3) := by decide +kernel
theorem dX10_numberOf_48 : decode cX10_numberOf 48 = .ok (.iload_n 1, 1) := by decide +kernel
theorem dX10_numberOf_49 : decode cX10_numberOf 49 = .ok (.iconst 4, 1) := by decide +kernel
theorem dX10_numberOf_50 : decode cX10_numberOf 50 = .ok (.if_icmp .ne 10, 3) := by decide +kernel
theorem dX10_numberOf_53 : decode cX10_numberOf 53 = .ok (.aload_n 0, 1) := by decide +kernel
theorem dX10_numberOf_54 : decode cX10_numberOf 54 = .ok (.iconst 0, 1) := by decide +kernel
theorem dX10_numberOf_55 : decode cX10_numberOf 55 = .ok (.iconst 3, 1) := by decide +kernel
theorem dX10_numberOf_56 : decode cX10_numberOf 56 = .ok (.invokevirtual 248, 3) := by decide +kernel
theorem dX10_numberOf_59 : decode cX10_numberOf 59 = .ok (.ireturn, 1) := by decide +kernel
theorem dX10_numberOf_60 : decode cX10_numberOf 60 = .ok (.iload_n 1, 1) := by decide +kernel
theorem dX10_numberOf_61 : decode cX10_numberOf 61 = .ok (.bipush 8, 2) := by decide +kernel
theorem dX10_numberOf_63 : decode cX10_numberOf 63 = .ok (.if_icmp .eq 9, 3) := by decide +kernel
theorem dX10_numberOf_66 : decode cX10_numberOf 66 = .ok (.iload_n 1, 1) := by decide +kernel
theorem dX10_numberOf_67 : decode cX10_numberOf 67 = .ok (.bipush 9, 2) := by decide +kernel
theorem dX10_numberOf_69 : decode cX10_numberOf 69 = .ok (.if_icmp .ne 5, 3) := by decide +kernel
theorem dX10_numberOf_72 : decode cX10_numberOf 72 = .ok (.iconst (-1), 1) := by decide +kernel
theorem dX10_numberOf_73 : decode cX10_numberOf 73 = .ok (.ireturn, 1) := by decide +kernel
theorem dX10_numberOf_74 : decode cX10_numberOf 74 = .ok (.aload_n 0, 1) := by decide +kernel
theorem dX10_numberOf_75 : decode cX10_numberOf 75 = .ok (.invokevirtual 230, 3) := by decide +kernel
theorem dX10_numberOf_78 : decode cX10_numberOf 78 = .ok (.ifCond .eq 26, 3) := by decide +kernel
theorem dX10_numberOf_81 : decode cX10_numberOf 81 = .ok (.aload_n 0, 1) := by decide +kernel
theorem dX10_numberOf_82 : decode cX10_numberOf 82 = .ok (.getfield 205, 3) := by decide +kernel
theorem dX10_numberOf_85 : decode cX10_numberOf 85 = .ok (.iconst 2, 1) := by decide +kernel
theorem dX10_numberOf_86 : decode cX10_numberOf 86 = .ok (.if_icmp .ne 18, 3) := by decide +kernel
theorem dX10_numberOf_89 : decode cX10_numberOf 89 = .ok (.aload_n 0, 1) := by decide +kernel
theorem dX10_numberOf_90 : decode cX10_numberOf 90 = .ok (.getfield 201, 3) := by decide +kernel
theorem dX10_numberOf_93 : decode cX10_numberOf 93 = .ok (.ldc2_w 251, 3) := by decide +kernel
theorem dX10_numberOf_96 : decode cX10_numberOf 96 = .ok (.lcmp, 1) := by decide +kernel
theorem dX10_numberOf_97 : decode cX10_numberOf 97 = .ok (.ifCond .ge 7, 3) := by decide +kernel
theorem dX10_numberOf_100 : decode cX10_numberOf 100 = .ok (.iconst 1, 1) := by decide +kernel
theorem dX10_numberOf_101 : decode cX10_numberOf 101 = .ok (.goto 4, 3) := by decide +kernel
theorem dX10_numberOf_104 : decode cX10_numberOf 104 = .ok (.iconst 0, 1) := by decide +kernel
theorem dX10_numberOf_105 : decode cX10_numberOf 105 = .ok (.istore_n 3, 1) := by decide +kernel
theorem dX10_numberOf_106 : decode cX10_numberOf 106 = .ok (.aload_n 0, 1) := by decide +kernel
theorem dX10_numberOf_107 : decode cX10_numberOf 107 = .ok (.getfield 198, 3) := by decide +kernel
theorem dX10_numberOf_110 : decode cX10_numberOf 110 = .ok (.istore 4, 2) := by decide +kernel
theorem dX10_numberOf_112 : decode cX10_numberOf 112 = .ok (.aload_n 0, 1) := by decide +kernel
theorem dX10_numberOf_113 : decode cX10_numberOf 113 = .ok (.iconst 0, 1) := by decide +kernel
theorem dX10_numberOf_114 : decode cX10_numberOf 114 = .ok (.bipush 7, 2) := by decide +kernel
theorem dX10_numberOf_116 : decode cX10_numberOf 116 = .ok (.invokevirtual 248, 3) := by decide +kernel
theorem dX10_numberOf_119 : decode cX10_numberOf 119 = .ok (.istore 5, 2) := by decide +kernel
theorem dX10_numberOf_121 : decode cX10_numberOf 121 = .ok (.iload_n 3, 1) := by decide +kernel
theorem dX10_numberOf_122 : decode cX10_numberOf 122 = .ok (.ifCond .eq 45, 3) := by decide +kernel
theorem dX10_numberOf_125 : decode cX10_numberOf 125 = .ok (.aload_n 0, 1) := by decide +kernel
theorem dX10_numberOf_126 : decode cX10_numberOf 126 = .ok (.getfield 27, 3) := by decide +kernel
theorem dX10_numberOf_129 : decode cX10_numberOf 129 = .ok (.aload_n 0, 1) := by decide +kernel
theorem dX10_numberOf_130 : decode cX10_numberOf 130 = .ok (.getfield 253, 3) := by decide +kernel
theorem dX10_numberOf_133 : decode cX10_numberOf 133 = .ok (.iload 5, 2) := by decide +kernel
theorem dX10_numberOf_135 : decode cX10_numberOf 135 = .ok (.iastore, 1) := by decide +kernel
theorem dX10_numberOf_136 : decode cX10_numberOf 136 = .ok (.aload_n 0, 1) := by decide +kernel
theorem dX10_numberOf_137 : decode cX10_numberOf 137 = .ok (.getfield 30, 3) := by decide +kernel
theorem dX10_numberOf_140 : decode cX10_numberOf 140 = .ok (.aload_n 0, 1) := by decide +kernel
theorem dX10_numberOf_141 : decode cX10_numberOf 141 = .ok (.getfield 253, 3) := by decide +kernel
theorem dX10_numberOf_144 : decode cX10_numberOf 144 = .ok (.iload 4, 2) := by decide +kernel
theorem dX10_numberOf_146 : decode cX10_numberOf 146 = .ok (.iastore, 1) := by decide +kernel
theorem dX10_numberOf_147 : decode cX10_numberOf 147 = .ok (.aload_n 0, 1) := by decide +kernel
theorem dX10_numberOf_148 : decode cX10_numberOf 148 = .ok (.getfield 33, 3) := by decide +kernel
theorem dX10_numberOf_151 : decode cX10_numberOf 151 = .ok (.aload_n 0, 1) := by decide +kernel
theorem dX10_numberOf_152 : decode cX10_numberOf 152 = .ok (.getfield 253, 3) := by decide +kernel
theorem dX10_numberOf_155 : decode cX10_numberOf 155 = .ok (.iload_n 2, 1) := by decide +kernel
theorem dX10_numberOf_156 : decode cX10_numberOf 156 = .ok (.iastore, 1) := by decide +kernel
theorem dX10_numberOf_157 : decode cX10_numberOf 157 = .ok (.aload_n 0, 1) := by decide +kernel
theorem dX10_numberOf_158 : decode cX10_numberOf 158 = .ok (.dup, 1) := by decide +kernel
theorem dX10_numberOf_159 : decode cX10_numberOf 159 = .ok (.getfield 253, 3) := by decide +kernel
theorem dX10_numberOf_162 : decode cX10_numberOf 162 = .ok (.iconst 1, 1) := by decide +kernel
theorem dX10_numberOf_163 : decode cX10_numberOf 163 = .ok (.iadd, 1) := by decide +kernel
theorem dX10_numberOf_164 : decode cX10_numberOf 164 = .ok (.putfield 253, 3) := by decide +kernel
theorem dX10_numberOf_167 : decode cX10_numberOf 167 = .ok (.iload 5, 2) := by decide +kernel
theorem dX10_numberOf_169 : decode cX10_numberOf 169 = .ok (.ireturn, 1) := by decide +kernel
theorem dX10_readsWorker_0 : decode cX10_readsWorker 0 = .ok (.aload_n 0, 1) := by decide +kernel
theorem dX10_readsWorker_1 : decode cX10_readsWorker 1 = .ok (.getfield 7, 3) := by decide +kernel
theorem dX10_readsWorker_4 : decode cX10_readsWorker 4 = .ok (.sipush 1422, 3) := by decide +kernel
theorem dX10_readsWorker_7 : decode cX10_readsWorker 7 = .ok (.iaload, 1) := by decide +kernel
theorem dX10_readsWorker_8 : decode cX10_readsWorker 8 = .ok (.istore_n 2, 1) := by decide +kernel
theorem dX10_readsWorker_9 : decode cX10_readsWorker 9 = .ok (.iload_n 2, 1) := by decide +kernel
theorem dX10_readsWorker_10 : decode cX10_readsWorker 10 = .ok (.bipush 8, 2) := by decide +kernel
theorem dX10_readsWorker_12 : decode cX10_readsWorker 12 = .ok (.if_icmp .ne 9, 3) := by decide +kernel
theorem dX10_readsWorker_15 : decode cX10_readsWorker 15 = .ok (.aload_n 0, 1) := by decide +kernel
theorem dX10_readsWorker_16 : decode cX10_readsWorker 16 = .ok (.iconst 4, 1) := by decide +kernel
theorem dX10_readsWorker_17 : decode cX10_readsWorker 17 = .ok (.iload_n 1, 1) := by decide +kernel
theorem dX10_readsWorker_18 : decode cX10_readsWorker 18 = .ok (.invokevirtual 240, 3) := by decide +kernel
theorem dX10_readsWorker_21 : decode cX10_readsWorker 21 = .ok (.iconst 0, 1) := by decide +kernel
theorem dX10_readsWorker_22 : decode cX10_readsWorker 22 = .ok (.istore_n 3, 1) := by decide +kernel
theorem dX10_readsWorker_23 : decode cX10_readsWorker 23 = .ok (.aload_n 0, 1) := by decide +kernel
theorem dX10_readsWorker_24 : decode cX10_readsWorker 24 = .ok (.getfield 205, 3) := by decide +kernel
theorem dX10_readsWorker_27 : decode cX10_readsWorker 27 = .ok (.iconst 1, 1) := by decide +kernel
theorem dX10_readsWorker_28 : decode cX10_readsWorker 28 = .ok (.if_icmp .ne 14, 3) := by decide +kernel
theorem dX10_readsWorker_31 : decode cX10_readsWorker 31 = .ok (.aload_n 0, 1) := by decide +kernel
theorem dX10_readsWorker_32 : decode cX10_readsWorker 32 = .ok (.aload_n 0, 1) := by decide +kernel
theorem dX10_readsWorker_33 : decode cX10_readsWorker 33 = .ok (.getfield 201, 3) := by decide +kernel
theorem dX10_readsWorker_36 : decode cX10_readsWorker 36 = .ok (.invokevirtual 256, 3) := by decide +kernel
theorem dX10_readsWorker_39 : decode cX10_readsWorker 39 = .ok (.goto 4, 3) := by decide +kernel
theorem dX10_readsWorker_42 : decode cX10_readsWorker 42 = .ok (.iconst (-1), 1) := by decide +kernel
theorem dX10_readsWorker_43 : decode cX10_readsWorker 43 = .ok (.istore 4, 2) := by decide +kernel
theorem dX10_readsWorker_45 : decode cX10_readsWorker 45 = .ok (.iload 4, 2) := by decide +kernel
theorem dX10_readsWorker_47 : decode cX10_readsWorker 47 = .ok (.iconst (-1), 1) := by decide +kernel
theorem dX10_readsWorker_48 : decode cX10_readsWorker 48 = .ok (.if_icmp .ne 7, 3) := by decide +kernel
theorem dX10_readsWorker_51 : decode cX10_readsWorker 51 = .ok (.aload_n 0, 1) := by decide +kernel
theorem dX10_readsWorker_52 : decode cX10_readsWorker 52 = .ok (.invokevirtual 237, 3) := by decide +kernel
theorem dX10_readsWorker_55 : decode cX10_readsWorker 55 = .ok (.aload_n 0, 1) := by decide +kernel
theorem dX10_readsWorker_56 : decode cX10_readsWorker 56 = .ok (.invokevirtual 230, 3) := by decide +kernel
theorem dX10_readsWorker_59 : decode cX10_readsWorker 59 = .ok (.ifCond .ne 4, 3) := by decide +kernel
theorem dX10_readsWorker_62 : decode cX10_readsWorker 62 = .ok (.return_, 1) := by decide +kernel
theorem dX10_readsWorker_63 : decode cX10_readsWorker 63 = .ok (.iload_n 3, 1) := by decide +kernel
theorem dX10_readsWorker_64 : decode cX10_readsWorker 64 = .ok (.bipush 12, 2) := by decide +kernel
theorem dX10_readsWorker_66 : decode cX10_readsWorker 66 = .ok (.if_icmp .ne 12, 3) := by decide +kernel
theorem dX10_readsWorker_69 : decode cX10_readsWorker 69 = .ok (.aload_n 0, 1) := by decide +kernel
theorem dX10_readsWorker_70 : decode cX10_readsWorker 70 = .ok (.iconst 3, 1) := by decide +kernel
theorem dX10_readsWorker_71 : decode cX10_readsWorker 71 = .ok (.aload_n 0, 1) := by decide +kernel
theorem dX10_readsWorker_72 : decode cX10_readsWorker 72 = .ok (.getfield 198, 3) := by decide +kernel
theorem dX10_readsWorker_75 : decode cX10_readsWorker 75 = .ok (.invokevirtual 240, 3) := by decide +kernel
theorem dX10_readsWorker_78 : decode cX10_readsWorker 78 = .ok (.aload_n 0, 1) := by decide +kernel
theorem dX10_readsWorker_79 : decode cX10_readsWorker 79 = .ok (.invokevirtual 234, 3) := by decide +kernel
theorem dX10_readsWorker_82 : decode cX10_readsWorker 82 = .ok (.aload_n 0, 1) := by decide +kernel
theorem dX10_readsWorker_83 : decode cX10_readsWorker 83 = .ok (.iload 4, 2) := by decide +kernel
theorem dX10_readsWorker_85 : decode cX10_readsWorker 85 = .ok (.iload_n 2, 1) := by decide +kernel
theorem dX10_readsWorker_86 : decode cX10_readsWorker 86 = .ok (.invokevirtual 260, 3) := by decide +kernel
theorem dX10_readsWorker_89 : decode cX10_readsWorker 89 = .ok (.istore 5, 2) := by decide +kernel
theorem dX10_readsWorker_91 : decode cX10_readsWorker 91 = .ok (.iload_n 3, 1) := by decide +kernel
theorem dX10_readsWorker_92 : decode cX10_readsWorker 92 = .ok (.bipush 12, 2) := by decide +kernel
theorem dX10_readsWorker_94 : decode cX10_readsWorker 94 = .ok (.if_icmp .ge 46, 3) := by decide +kernel
theorem dX10_readsWorker_97 : decode cX10_readsWorker 97 = .ok (.iload_n 2, 1) := by decide +kernel
theorem dX10_readsWorker_98 : decode cX10_readsWorker 98 = .ok (.bipush 8, 2) := by decide +kernel
theorem dX10_readsWorker_100 : decode cX10_readsWorker 100 = .ok (.if_icmp .ge 40, 3) := by decide +kernel
theorem dX10_readsWorker_103 : decode cX10_readsWorker 103 = .ok (.aload_n 0, 1) := by decide +kernel
theorem dX10_readsWorker_104 : decode cX10_readsWorker 104 = .ok (.getfield 7, 3) := by decide +kernel
theorem dX10_readsWorker_107 : decode cX10_readsWorker 107 = .ok (.sipush 1437, 3) := by decide +kernel
theorem dX10_readsWorker_110 : decode cX10_readsWorker 110 = .ok (.bipush 12, 2) := by decide +kernel
theorem dX10_readsWorker_112 : decode cX10_readsWorker 112 = .ok (.iload_n 2, 1) := by decide +kernel
theorem dX10_readsWorker_113 : decode cX10_readsWorker 113 = .ok (.imul, 1) := by decide +kernel
theorem dX10_readsWorker_114 : decode cX10_readsWorker 114 = .ok (.iadd, 1) := by decide +kernel
theorem dX10_readsWorker_115 : decode cX10_readsWorker 115 = .ok (.iload_n 3, 1) := by decide +kernel
theorem dX10_readsWorker_116 : decode cX10_readsWorker 116 = .ok (.iadd, 1) := by decide +kernel
theorem dX10_readsWorker_117 : decode cX10_readsWorker 117 = .ok (.iload 4, 2) := by decide +kernel
theorem dX10_readsWorker_119 : decode cX10_readsWorker 119 = .ok (.iastore, 1) := by decide +kernel
theorem dX10_readsWorker_120 : decode cX10_readsWorker 120 = .ok (.aload_n 0, 1) := by decide +kernel
theorem dX10_readsWorker_121 : decode cX10_readsWorker 121 = .ok (.getfield 7, 3) := by decide +kernel
theorem dX10_readsWorker_124 : decode cX10_readsWorker 124 = .ok (.sipush 1533, 3) := by decide +kernel
theorem dX10_readsWorker_127 : decode cX10_readsWorker 127 = .ok (.bipush 12, 2) := by decide +kernel
theorem dX10_readsWorker_129 : decode cX10_readsWorker 129 = .ok (.iload_n 2, 1) := by decide +kernel
theorem dX10_readsWorker_130 : decode cX10_readsWorker 130 = .ok (.imul, 1) := by decide +kernel
theorem dX10_readsWorker_131 : decode cX10_readsWorker 131 = .ok (.iadd, 1) := by decide +kernel
theorem dX10_readsWorker_132 : decode cX10_readsWorker 132 = .ok (.iload_n 3, 1) := by decide +kernel
theorem dX10_readsWorker_133 : decode cX10_readsWorker 133 = .ok (.iadd, 1) := by decide +kernel
theorem dX10_readsWorker_134 : decode cX10_readsWorker 134 = .ok (.iload 5, 2) := by decide +kernel
theorem dX10_readsWorker_136 : decode cX10_readsWorker 136 = .ok (.iastore, 1) := by decide +kernel
theorem dX10_readsWorker_137 : decode cX10_readsWorker 137 = .ok (.iinc 3 1, 3) := by decide +kernel
theorem dX10_readsWorker_140 : decode cX10_readsWorker 140 = .ok (.aload_n 0, 1) := by decide +kernel
theorem dX10_readsWorker_141 : decode cX10_readsWorker 141 = .ok (.bipush 44, 2) := by decide +kernel
theorem dX10_readsWorker_143 : decode cX10_readsWorker 143 = .ok (.invokevirtual 263, 3) := by decide +kernel
theorem dX10_readsWorker_146 : decode cX10_readsWorker 146 = .ok (.ifCond .ne (-123), 3) := by decide +kernel
theorem dX10_readsWorker_149 : decode cX10_readsWorker 149 = .ok (.iload_n 2, 1) := by decide +kernel
theorem dX10_readsWorker_150 : decode cX10_readsWorker 150 = .ok (.bipush 8, 2) := by decide +kernel
theorem dX10_readsWorker_152 : decode cX10_readsWorker 152 = .ok (.if_icmp .ne 4, 3) := by decide +kernel
theorem dX10_readsWorker_155 : decode cX10_readsWorker 155 = .ok (.return_, 1) := by decide +kernel
theorem dX10_readsWorker_156 : decode cX10_readsWorker 156 = .ok (.aload_n 0, 1) := by decide +kernel
theorem dX10_readsWorker_157 : decode cX10_readsWorker 157 = .ok (.getfield 7, 3) := by decide +kernel
theorem dX10_readsWorker_160 : decode cX10_readsWorker 160 = .ok (.sipush 1429, 3) := by decide +kernel
theorem dX10_readsWorker_163 : decode cX10_readsWorker 163 = .ok (.iload_n 2, 1) := by decide +kernel
theorem dX10_readsWorker_164 : decode cX10_readsWorker 164 = .ok (.iadd, 1) := by decide +kernel
theorem dX10_readsWorker_165 : decode cX10_readsWorker 165 = .ok (.iload_n 3, 1) := by decide +kernel
theorem dX10_readsWorker_166 : decode cX10_readsWorker 166 = .ok (.iastore, 1) := by decide +kernel
theorem dX10_readsWorker_167 : decode cX10_readsWorker 167 = .ok (.aload_n 0, 1) := by decide +kernel
theorem dX10_readsWorker_168 : decode cX10_readsWorker 168 = .ok (.getfield 7, 3) := by decide +kernel
theorem dX10_readsWorker_171 : decode cX10_readsWorker 171 = .ok (.sipush 1422, 3) := by decide +kernel
theorem dX10_readsWorker_174 : decode cX10_readsWorker 174 = .ok (.dup2, 1) := by decide +kernel
theorem dX10_readsWorker_175 : decode cX10_readsWorker 175 = .ok (.iaload, 1) := by decide +kernel
theorem dX10_readsWorker_176 : decode cX10_readsWorker 176 = .ok (.iconst 1, 1) := by decide +kernel
theorem dX10_readsWorker_177 : decode cX10_readsWorker 177 = .ok (.iadd, 1) := by decide +kernel
theorem dX10_readsWorker_178 : decode cX10_readsWorker 178 = .ok (.iastore, 1) := by decide +kernel
theorem dX10_readsWorker_179 : decode cX10_readsWorker 179 = .ok (.return_, 1) := by decide +kernel
theorem dX10_readsLine_0 : decode cX10_readsLine 0 = .ok (.aload_n 0, 1) := by decide +kernel
theorem dX10_readsLine_1 : decode cX10_readsLine 1 = .ok (.getfield 198, 3) := by decide +kernel
theorem dX10_readsLine_4 : decode cX10_readsLine 4 = .ok (.istore_n 1, 1) := by decide +kernel
theorem dX10_readsLine_5 : decode cX10_readsLine 5 = .ok (.aload_n 0, 1) := by decide +kernel
theorem dX10_readsLine_6 : decode cX10_readsLine 6 = .ok (.ldc2_w 266, 3) := by decide +kernel
theorem dX10_readsLine_9 : decode cX10_readsLine 9 = .ok (.invokevirtual 268, 3) := by decide +kernel
theorem dX10_readsLine_12 : decode cX10_readsLine 12 = .ok (.ifCond .eq 21, 3) := by decide +kernel
theorem dX10_readsLine_15 : decode cX10_readsLine 15 = .ok (.aload_n 0, 1) := by decide +kernel
theorem dX10_readsLine_16 : decode cX10_readsLine 16 = .ok (.getfield 7, 3) := by decide +kernel
theorem dX10_readsLine_19 : decode cX10_readsLine 19 = .ok (.sipush 1423, 3) := by decide +kernel
theorem dX10_readsLine_22 : decode cX10_readsLine 22 = .ok (.aload_n 0, 1) := by decide +kernel
theorem dX10_readsLine_23 : decode cX10_readsLine 23 = .ok (.iconst 1, 1) := by decide +kernel
theorem dX10_readsLine_24 : decode cX10_readsLine 24 = .ok (.bipush 50, 2) := by decide +kernel
theorem dX10_readsLine_26 : decode cX10_readsLine 26 = .ok (.invokevirtual 248, 3) := by decide +kernel
theorem dX10_readsLine_29 : decode cX10_readsLine 29 = .ok (.iastore, 1) := by decide +kernel
theorem dX10_readsLine_30 : decode cX10_readsLine 30 = .ok (.goto 90, 3) := by decide +kernel
theorem dX10_readsLine_33 : decode cX10_readsLine 33 = .ok (.aload_n 0, 1) := by decide +kernel
theorem dX10_readsLine_34 : decode cX10_readsLine 34 = .ok (.ldc2_w 272, 3) := by decide +kernel
theorem dX10_readsLine_37 : decode cX10_readsLine 37 = .ok (.invokevirtual 268, 3) := by decide +kernel
theorem dX10_readsLine_40 : decode cX10_readsLine 40 = .ok (.ifCond .eq 21, 3) := by decide +kernel
theorem dX10_readsLine_43 : decode cX10_readsLine 43 = .ok (.aload_n 0, 1) := by decide +kernel
theorem dX10_readsLine_44 : decode cX10_readsLine 44 = .ok (.getfield 7, 3) := by decide +kernel
theorem dX10_readsLine_47 : decode cX10_readsLine 47 = .ok (.sipush 1424, 3) := by decide +kernel
theorem dX10_readsLine_50 : decode cX10_readsLine 50 = .ok (.aload_n 0, 1) := by decide +kernel
theorem dX10_readsLine_51 : decode cX10_readsLine 51 = .ok (.iconst 0, 1) := by decide +kernel
theorem dX10_readsLine_52 : decode cX10_readsLine 52 = .ok (.bipush 50, 2) := by decide +kernel
theorem dX10_readsLine_54 : decode cX10_readsLine 54 = .ok (.invokevirtual 248, 3) := by decide +kernel
theorem dX10_readsLine_57 : decode cX10_readsLine 57 = .ok (.iastore, 1) := by decide +kernel
theorem dX10_readsLine_58 : decode cX10_readsLine 58 = .ok (.goto 62, 3) := by decide +kernel
theorem dX10_readsLine_61 : decode cX10_readsLine 61 = .ok (.aload_n 0, 1) := by decide +kernel
theorem dX10_readsLine_62 : decode cX10_readsLine 62 = .ok (.ldc2_w 274, 3) := by decide +kernel
theorem dX10_readsLine_65 : decode cX10_readsLine 65 = .ok (.invokevirtual 268, 3) := by decide +kernel
theorem dX10_readsLine_68 : decode cX10_readsLine 68 = .ok (.ifCond .eq 30, 3) := by decide +kernel
theorem dX10_readsLine_71 : decode cX10_readsLine 71 = .ok (.aload_n 0, 1) := by decide +kernel
theorem dX10_readsLine_72 : decode cX10_readsLine 72 = .ok (.iconst 0, 1) := by decide +kernel
theorem dX10_readsLine_73 : decode cX10_readsLine 73 = .ok (.iconst 3, 1) := by decide +kernel
theorem dX10_readsLine_74 : decode cX10_readsLine 74 = .ok (.invokevirtual 248, 3) := by decide +kernel
theorem dX10_readsLine_77 : decode cX10_readsLine 77 = .ok (.istore_n 2, 1) := by decide +kernel
theorem dX10_readsLine_78 : decode cX10_readsLine 78 = .ok (.aload_n 0, 1) := by decide +kernel
theorem dX10_readsLine_79 : decode cX10_readsLine 79 = .ok (.getfield 7, 3) := by decide +kernel
theorem dX10_readsLine_82 : decode cX10_readsLine 82 = .ok (.sipush 1425, 3) := by decide +kernel
theorem dX10_readsLine_85 : decode cX10_readsLine 85 = .ok (.iload_n 2, 1) := by decide +kernel
theorem dX10_readsLine_86 : decode cX10_readsLine 86 = .ok (.iadd, 1) := by decide +kernel
theorem dX10_readsLine_87 : decode cX10_readsLine 87 = .ok (.aload_n 0, 1) := by decide +kernel
theorem dX10_readsLine_88 : decode cX10_readsLine 88 = .ok (.iconst 1, 1) := by decide +kernel
theorem dX10_readsLine_89 : decode cX10_readsLine 89 = .ok (.bipush 9, 2) := by decide +kernel
theorem dX10_readsLine_91 : decode cX10_readsLine 91 = .ok (.invokevirtual 248, 3) := by decide +kernel
theorem dX10_readsLine_94 : decode cX10_readsLine 94 = .ok (.iastore, 1) := by decide +kernel
theorem dX10_readsLine_95 : decode cX10_readsLine 95 = .ok (.goto 25, 3) := by decide +kernel
theorem dX10_readsLine_98 : decode cX10_readsLine 98 = .ok (.aload_n 0, 1) := by decide +kernel
theorem dX10_readsLine_99 : decode cX10_readsLine 99 = .ok (.ldc2_w 276, 3) := by decide +kernel
theorem dX10_readsLine_102 : decode cX10_readsLine 102 = .ok (.invokevirtual 268, 3) := by decide +kernel
theorem dX10_readsLine_105 : decode cX10_readsLine 105 = .ok (.ifCond .eq 11, 3) := by decide +kernel
theorem dX10_readsLine_108 : decode cX10_readsLine 108 = .ok (.aload_n 0, 1) := by decide +kernel
theorem dX10_readsLine_109 : decode cX10_readsLine 109 = .ok (.iload_n 1, 1) := by decide +kernel
theorem dX10_readsLine_110 : decode cX10_readsLine 110 = .ok (.invokevirtual 278, 3) := by decide +kernel
theorem dX10_readsLine_113 : decode cX10_readsLine 113 = .ok (.goto 7, 3) := by decide +kernel
theorem dX10_readsLine_116 : decode cX10_readsLine 116 = .ok (.aload_n 0, 1) := by decide +kernel
theorem dX10_readsLine_117 : decode cX10_readsLine 117 = .ok (.invokevirtual 237, 3) := by decide +kernel
theorem dX10_readsLine_120 : decode cX10_readsLine 120 = .ok (.aload_n 0, 1) := by decide +kernel
theorem dX10_readsLine_121 : decode cX10_readsLine 121 = .ok (.invokevirtual 230, 3) := by decide +kernel
theorem dX10_readsLine_124 : decode cX10_readsLine 124 = .ok (.ifCond .eq 16, 3) := by decide +kernel
theorem dX10_readsLine_127 : decode cX10_readsLine 127 = .ok (.aload_n 0, 1) := by decide +kernel
theorem dX10_readsLine_128 : decode cX10_readsLine 128 = .ok (.bipush 59, 2) := by decide +kernel
theorem dX10_readsLine_130 : decode cX10_readsLine 130 = .ok (.invokevirtual 263, 3) := by decide +kernel
theorem dX10_readsLine_133 : decode cX10_readsLine 133 = .ok (.ifCond .ne 7, 3) := by decide +kernel
theorem dX10_readsLine_136 : decode cX10_readsLine 136 = .ok (.aload_n 0, 1) := by decide +kernel
theorem dX10_readsLine_137 : decode cX10_readsLine 137 = .ok (.invokevirtual 237, 3) := by decide +kernel
theorem dX10_readsLine_140 : decode cX10_readsLine 140 = .ok (.return_, 1) := by decide +kernel
theorem dX10_judges_0 : decode cX10_judges 0 = .ok (.aload_n 0, 1) := by decide +kernel
theorem dX10_judges_1 : decode cX10_judges 1 = .ok (.invokevirtual 230, 3) := by decide +kernel
theorem dX10_judges_4 : decode cX10_judges 4 = .ok (.ifCond .ne 4, 3) := by decide +kernel
theorem dX10_judges_7 : decode cX10_judges 7 = .ok (.return_, 1) := by decide +kernel
theorem dX10_judges_8 : decode cX10_judges 8 = .ok (.iconst 0, 1) := by decide +kernel
theorem dX10_judges_9 : decode cX10_judges 9 = .ok (.istore_n 1, 1) := by decide +kernel
theorem dX10_judges_10 : decode cX10_judges 10 = .ok (.iload_n 1, 1) := by decide +kernel
theorem dX10_judges_11 : decode cX10_judges 11 = .ok (.aload_n 0, 1) := by decide +kernel
theorem dX10_judges_12 : decode cX10_judges 12 = .ok (.getfield 253, 3) := by decide +kernel
theorem dX10_judges_15 : decode cX10_judges 15 = .ok (.if_icmp .ge 59, 3) := by decide +kernel
theorem dX10_judges_18 : decode cX10_judges 18 = .ok (.aload_n 0, 1) := by decide +kernel
theorem dX10_judges_19 : decode cX10_judges 19 = .ok (.getfield 224, 3) := by decide +kernel
theorem dX10_judges_22 : decode cX10_judges 22 = .ok (.ifCond .ne 52, 3) := by decide +kernel
theorem dX10_judges_25 : decode cX10_judges 25 = .ok (.aload_n 0, 1) := by decide +kernel
theorem dX10_judges_26 : decode cX10_judges 26 = .ok (.getfield 27, 3) := by decide +kernel
theorem dX10_judges_29 : decode cX10_judges 29 = .ok (.iload_n 1, 1) := by decide +kernel
theorem dX10_judges_30 : decode cX10_judges 30 = .ok (.iaload, 1) := by decide +kernel
theorem dX10_judges_31 : decode cX10_judges 31 = .ok (.aload_n 0, 1) := by decide +kernel
theorem dX10_judges_32 : decode cX10_judges 32 = .ok (.getfield 7, 3) := by decide +kernel
theorem dX10_judges_35 : decode cX10_judges 35 = .ok (.sipush 1422, 3) := by decide +kernel
theorem dX10_judges_38 : decode cX10_judges 38 = .ok (.iaload, 1) := by decide +kernel
theorem dX10_judges_39 : decode cX10_judges 39 = .ok (.if_icmp .ge 18, 3) := by decide +kernel
theorem dX10_judges_42 : decode cX10_judges 42 = .ok (.aload_n 0, 1) := by decide +kernel
theorem dX10_judges_43 : decode cX10_judges 43 = .ok (.getfield 27, 3) := by decide +kernel
theorem dX10_judges_46 : decode cX10_judges 46 = .ok (.iload_n 1, 1) := by decide +kernel
theorem dX10_judges_47 : decode cX10_judges 47 = .ok (.iaload, 1) := by decide +kernel
theorem dX10_judges_48 : decode cX10_judges 48 = .ok (.aload_n 0, 1) := by decide +kernel
theorem dX10_judges_49 : decode cX10_judges 49 = .ok (.getfield 33, 3) := by decide +kernel
theorem dX10_judges_52 : decode cX10_judges 52 = .ok (.iload_n 1, 1) := by decide +kernel
theorem dX10_judges_53 : decode cX10_judges 53 = .ok (.iaload, 1) := by decide +kernel
theorem dX10_judges_54 : decode cX10_judges 54 = .ok (.if_icmp .ne 14, 3) := by decide +kernel
theorem dX10_judges_57 : decode cX10_judges 57 = .ok (.aload_n 0, 1) := by decide +kernel
theorem dX10_judges_58 : decode cX10_judges 58 = .ok (.iconst 5, 1) := by decide +kernel
theorem dX10_judges_59 : decode cX10_judges 59 = .ok (.aload_n 0, 1) := by decide +kernel
theorem dX10_judges_60 : decode cX10_judges 60 = .ok (.getfield 30, 3) := by decide +kernel
theorem dX10_judges_63 : decode cX10_judges 63 = .ok (.iload_n 1, 1) := by decide +kernel
theorem dX10_judges_64 : decode cX10_judges 64 = .ok (.iaload, 1) := by decide +kernel
theorem dX10_judges_65 : decode cX10_judges 65 = .ok (.invokevirtual 240, 3) := by decide +kernel
theorem dX10_judges_68 : decode cX10_judges 68 = .ok (.iinc 1 1, 3) := by decide +kernel
theorem dX10_judges_71 : decode cX10_judges 71 = .ok (.goto (-61), 3) := by decide +kernel
theorem dX10_judges_74 : decode cX10_judges 74 = .ok (.aload_n 0, 1) := by decide +kernel
theorem dX10_judges_75 : decode cX10_judges 75 = .ok (.aload_n 0, 1) := by decide +kernel
theorem dX10_judges_76 : decode cX10_judges 76 = .ok (.getfield 224, 3) := by decide +kernel
theorem dX10_judges_79 : decode cX10_judges 79 = .ok (.putfield 186, 3) := by decide +kernel
theorem dX10_judges_82 : decode cX10_judges 82 = .ok (.aload_n 0, 1) := by decide +kernel
theorem dX10_judges_83 : decode cX10_judges 83 = .ok (.aload_n 0, 1) := by decide +kernel
theorem dX10_judges_84 : decode cX10_judges 84 = .ok (.getfield 224, 3) := by decide +kernel
theorem dX10_judges_87 : decode cX10_judges 87 = .ok (.ifCond .ne 7, 3) := by decide +kernel
theorem dX10_judges_90 : decode cX10_judges 90 = .ok (.iconst (-1), 1) := by decide +kernel
theorem dX10_judges_91 : decode cX10_judges 91 = .ok (.goto 7, 3) := by decide +kernel
theorem dX10_judges_94 : decode cX10_judges 94 = .ok (.aload_n 0, 1) := by decide +kernel
theorem dX10_judges_95 : decode cX10_judges 95 = .ok (.getfield 227, 3) := by decide +kernel
theorem dX10_judges_98 : decode cX10_judges 98 = .ok (.putfield 20, 3) := by decide +kernel
theorem dX10_judges_101 : decode cX10_judges 101 = .ok (.return_, 1) := by decide +kernel
theorem dX10_text_0 : decode cX10_text 0 = .ok (.aload_n 0, 1) := by decide +kernel
theorem dX10_text_1 : decode cX10_text 1 = .ok (.aload_n 0, 1) := by decide +kernel
theorem dX10_text_2 : decode cX10_text 2 = .ok (.getfield 158, 3) := by decide +kernel
theorem dX10_text_5 : decode cX10_text 5 = .ok (.putfield 189, 3) := by decide +kernel
theorem dX10_text_8 : decode cX10_text 8 = .ok (.aload_n 0, 1) := by decide +kernel
theorem dX10_text_9 : decode cX10_text 9 = .ok (.iconst 0, 1) := by decide +kernel
theorem dX10_text_10 : decode cX10_text 10 = .ok (.putfield 158, 3) := by decide +kernel
theorem dX10_text_13 : decode cX10_text 13 = .ok (.aload_n 0, 1) := by decide +kernel
theorem dX10_text_14 : decode cX10_text 14 = .ok (.iconst 0, 1) := by decide +kernel
theorem dX10_text_15 : decode cX10_text 15 = .ok (.putfield 186, 3) := by decide +kernel
theorem dX10_text_18 : decode cX10_text 18 = .ok (.aload_n 0, 1) := by decide +kernel
theorem dX10_text_19 : decode cX10_text 19 = .ok (.iconst (-1), 1) := by decide +kernel
theorem dX10_text_20 : decode cX10_text 20 = .ok (.putfield 20, 3) := by decide +kernel
theorem dX10_text_23 : decode cX10_text 23 = .ok (.aload_n 0, 1) := by decide +kernel
theorem dX10_text_24 : decode cX10_text 24 = .ok (.iconst 0, 1) := by decide +kernel
theorem dX10_text_25 : decode cX10_text 25 = .ok (.putfield 224, 3) := by decide +kernel
theorem dX10_text_28 : decode cX10_text 28 = .ok (.aload_n 0, 1) := by decide +kernel
theorem dX10_text_29 : decode cX10_text 29 = .ok (.iconst 0, 1) := by decide +kernel
theorem dX10_text_30 : decode cX10_text 30 = .ok (.putfield 253, 3) := by decide +kernel
theorem dX10_text_33 : decode cX10_text 33 = .ok (.aload_n 0, 1) := by decide +kernel
theorem dX10_text_34 : decode cX10_text 34 = .ok (.iconst 0, 1) := by decide +kernel
theorem dX10_text_35 : decode cX10_text 35 = .ok (.putfield 192, 3) := by decide +kernel
theorem dX10_text_38 : decode cX10_text 38 = .ok (.aload_n 0, 1) := by decide +kernel
theorem dX10_text_39 : decode cX10_text 39 = .ok (.sipush 1422, 3) := by decide +kernel
theorem dX10_text_42 : decode cX10_text 42 = .ok (.invokevirtual 36, 3) := by decide +kernel
theorem dX10_text_45 : decode cX10_text 45 = .ok (.aload_n 0, 1) := by decide +kernel
theorem dX10_text_46 : decode cX10_text 46 = .ok (.invokevirtual 234, 3) := by decide +kernel
theorem dX10_text_49 : decode cX10_text 49 = .ok (.aload_n 0, 1) := by decide +kernel
theorem dX10_text_50 : decode cX10_text 50 = .ok (.invokevirtual 230, 3) := by decide +kernel
theorem dX10_text_53 : decode cX10_text 53 = .ok (.ifCond .eq 17, 3) := by decide +kernel
theorem dX10_text_56 : decode cX10_text 56 = .ok (.aload_n 0, 1) := by decide +kernel
theorem dX10_text_57 : decode cX10_text 57 = .ok (.getfield 205, 3) := by decide +kernel
theorem dX10_text_60 : decode cX10_text 60 = .ok (.ifCond .eq 10, 3) := by decide +kernel
theorem dX10_text_63 : decode cX10_text 63 = .ok (.aload_n 0, 1) := by decide +kernel
theorem dX10_text_64 : decode cX10_text 64 = .ok (.invokevirtual 281, 3) := by decide +kernel
theorem dX10_text_67 : decode cX10_text 67 = .ok (.goto (-18), 3) := by decide +kernel
theorem dX10_text_70 : decode cX10_text 70 = .ok (.aload_n 0, 1) := by decide +kernel
theorem dX10_text_71 : decode cX10_text 71 = .ok (.invokevirtual 284, 3) := by decide +kernel
theorem dX10_text_74 : decode cX10_text 74 = .ok (.aload_n 0, 1) := by decide +kernel
theorem dX10_text_75 : decode cX10_text 75 = .ok (.invokevirtual 230, 3) := by decide +kernel
theorem dX10_text_78 : decode cX10_text 78 = .ok (.ifCond .ne 5, 3) := by decide +kernel
theorem dX10_text_81 : decode cX10_text 81 = .ok (.iconst (-1), 1) := by decide +kernel
theorem dX10_text_82 : decode cX10_text 82 = .ok (.ireturn, 1) := by decide +kernel
theorem dX10_text_83 : decode cX10_text 83 = .ok (.aload_n 0, 1) := by decide +kernel
theorem dX10_text_84 : decode cX10_text 84 = .ok (.sipush 1422, 3) := by decide +kernel
theorem dX10_text_87 : decode cX10_text 87 = .ok (.iconst 0, 1) := by decide +kernel
theorem dX10_text_88 : decode cX10_text 88 = .ok (.sipush 474, 3) := by decide +kernel
theorem dX10_text_91 : decode cX10_text 91 = .ok (.invokevirtual 103, 3) := by decide +kernel
theorem dX10_text_94 : decode cX10_text 94 = .ok (.aload_n 0, 1) := by decide +kernel
theorem dX10_text_95 : decode cX10_text 95 = .ok (.iconst 0, 1) := by decide +kernel
theorem dX10_text_96 : decode cX10_text 96 = .ok (.putfield 143, 3) := by decide +kernel
theorem dX10_text_99 : decode cX10_text 99 = .ok (.aload_n 0, 1) := by decide +kernel
theorem dX10_text_100 : decode cX10_text 100 = .ok (.invokevirtual 43, 3) := by decide +kernel
theorem dX10_text_103 : decode cX10_text 103 = .ok (.ireturn, 1) := by decide +kernel
theorem dX10_image_0 : decode cX10_image 0 = .ok (.iload_n 1, 1) := by decide +kernel
theorem dX10_image_1 : decode cX10_image 1 = .ok (.iconst 0, 1) := by decide +kernel
theorem dX10_image_2 : decode cX10_image 2 = .ok (.iconst 2, 1) := by decide +kernel
theorem dX10_image_3 : decode cX10_image 3 = .ok (.invokestatic 47, 3) := by decide +kernel
theorem dX10_image_6 : decode cX10_image 6 = .ok (.ifCond .ne 5, 3) := by decide +kernel
theorem dX10_image_9 : decode cX10_image 9 = .ok (.iconst 0, 1) := by decide +kernel
theorem dX10_image_10 : decode cX10_image 10 = .ok (.ireturn, 1) := by decide +kernel
theorem dX10_image_11 : decode cX10_image 11 = .ok (.sipush 5688, 3) := by decide +kernel
theorem dX10_image_14 : decode cX10_image 14 = .ok (.sipush 1277, 3) := by decide +kernel
theorem dX10_image_17 : decode cX10_image 17 = .ok (.iload_n 1, 1) := by decide +kernel
theorem dX10_image_18 : decode cX10_image 18 = .ok (.imul, 1) := by decide +kernel
theorem dX10_image_19 : decode cX10_image 19 = .ok (.iadd, 1) := by decide +kernel
theorem dX10_image_20 : decode cX10_image 20 = .ok (.istore_n 2, 1) := by decide +kernel
theorem dX10_image_21 : decode cX10_image 21 = .ok (.aload_n 0, 1) := by decide +kernel
theorem dX10_image_22 : decode cX10_image 22 = .ok (.iconst 0, 1) := by decide +kernel
theorem dX10_image_23 : decode cX10_image 23 = .ok (.iload_n 2, 1) := by decide +kernel
theorem dX10_image_24 : decode cX10_image 24 = .ok (.sipush 474, 3) := by decide +kernel
theorem dX10_image_27 : decode cX10_image 27 = .ok (.invokevirtual 103, 3) := by decide +kernel
theorem dX10_image_30 : decode cX10_image 30 = .ok (.iconst 0, 1) := by decide +kernel
theorem dX10_image_31 : decode cX10_image 31 = .ok (.istore_n 3, 1) := by decide +kernel
theorem dX10_image_32 : decode cX10_image 32 = .ok (.iload_n 3, 1) := by decide +kernel
theorem dX10_image_33 : decode cX10_image 33 = .ok (.sipush 800, 3) := by decide +kernel
theorem dX10_image_36 : decode cX10_image 36 = .ok (.if_icmp .ge 27, 3) := by decide +kernel
theorem dX10_image_39 : decode cX10_image 39 = .ok (.aload_n 0, 1) := by decide +kernel
theorem dX10_image_40 : decode cX10_image 40 = .ok (.getfield 7, 3) := by decide +kernel
theorem dX10_image_43 : decode cX10_image 43 = .ok (.iload_n 2, 1) := by decide +kernel
theorem dX10_image_44 : decode cX10_image 44 = .ok (.sipush 474, 3) := by decide +kernel
theorem dX10_image_47 : decode cX10_image 47 = .ok (.iadd, 1) := by decide +kernel
theorem dX10_image_48 : decode cX10_image 48 = .ok (.iload_n 3, 1) := by decide +kernel
theorem dX10_image_49 : decode cX10_image 49 = .ok (.iadd, 1) := by decide +kernel
theorem dX10_image_50 : decode cX10_image 50 = .ok (.aload_n 0, 1) := by decide +kernel
theorem dX10_image_51 : decode cX10_image 51 = .ok (.getfield 13, 3) := by decide +kernel
theorem dX10_image_54 : decode cX10_image 54 = .ok (.iload_n 3, 1) := by decide +kernel
theorem dX10_image_55 : decode cX10_image 55 = .ok (.iaload, 1) := by decide +kernel
theorem dX10_image_56 : decode cX10_image 56 = .ok (.iastore, 1) := by decide +kernel
theorem dX10_image_57 : decode cX10_image 57 = .ok (.iinc 3 1, 3) := by decide +kernel
theorem dX10_image_60 : decode cX10_image 60 = .ok (.goto (-28), 3) := by decide +kernel
theorem dX10_image_63 : decode cX10_image 63 = .ok (.aload_n 0, 1) := by decide +kernel
theorem dX10_image_64 : decode cX10_image 64 = .ok (.getfield 7, 3) := by decide +kernel
theorem dX10_image_67 : decode cX10_image 67 = .ok (.iload_n 2, 1) := by decide +kernel
theorem dX10_image_68 : decode cX10_image 68 = .ok (.sipush 474, 3) := by decide +kernel
theorem dX10_image_71 : decode cX10_image 71 = .ok (.iadd, 1) := by decide +kernel
theorem dX10_image_72 : decode cX10_image 72 = .ok (.sipush 800, 3) := by decide +kernel
theorem dX10_image_75 : decode cX10_image 75 = .ok (.iadd, 1) := by decide +kernel
theorem dX10_image_76 : decode cX10_image 76 = .ok (.aload_n 0, 1) := by decide +kernel
theorem dX10_image_77 : decode cX10_image 77 = .ok (.getfield 158, 3) := by decide +kernel
theorem dX10_image_80 : decode cX10_image 80 = .ok (.iastore, 1) := by decide +kernel
theorem dX10_image_81 : decode cX10_image 81 = .ok (.aload_n 0, 1) := by decide +kernel
theorem dX10_image_82 : decode cX10_image 82 = .ok (.getfield 7, 3) := by decide +kernel
theorem dX10_image_85 : decode cX10_image 85 = .ok (.iload_n 2, 1) := by decide +kernel
theorem dX10_image_86 : decode cX10_image 86 = .ok (.sipush 474, 3) := by decide +kernel
theorem dX10_image_89 : decode cX10_image 89 = .ok (.iadd, 1) := by decide +kernel
theorem dX10_image_90 : decode cX10_image 90 = .ok (.sipush 800, 3) := by decide +kernel
theorem dX10_image_93 : decode cX10_image 93 = .ok (.iadd, 1) := by decide +kernel
theorem dX10_image_94 : decode cX10_image 94 = .ok (.iconst 1, 1) := by decide +kernel
theorem dX10_image_95 : decode cX10_image 95 = .ok (.iadd, 1) := by decide +kernel
theorem dX10_image_96 : decode cX10_image 96 = .ok (.aload_n 0, 1) := by decide +kernel
theorem dX10_image_97 : decode cX10_image 97 = .ok (.getfield 186, 3) := by decide +kernel
theorem dX10_image_100 : decode cX10_image 100 = .ok (.iastore, 1) := by decide +kernel
theorem dX10_image_101 : decode cX10_image 101 = .ok (.aload_n 0, 1) := by decide +kernel
theorem dX10_image_102 : decode cX10_image 102 = .ok (.getfield 7, 3) := by decide +kernel
theorem dX10_image_105 : decode cX10_image 105 = .ok (.iload_n 2, 1) := by decide +kernel
theorem dX10_image_106 : decode cX10_image 106 = .ok (.sipush 474, 3) := by decide +kernel
theorem dX10_image_109 : decode cX10_image 109 = .ok (.iadd, 1) := by decide +kernel
theorem dX10_image_110 : decode cX10_image 110 = .ok (.sipush 800, 3) := by decide +kernel
theorem dX10_image_113 : decode cX10_image 113 = .ok (.iadd, 1) := by decide +kernel
theorem dX10_image_114 : decode cX10_image 114 = .ok (.iconst 2, 1) := by decide +kernel
theorem dX10_image_115 : decode cX10_image 115 = .ok (.iadd, 1) := by decide +kernel
theorem dX10_image_116 : decode cX10_image 116 = .ok (.aload_n 0, 1) := by decide +kernel
theorem dX10_image_117 : decode cX10_image 117 = .ok (.getfield 20, 3) := by decide +kernel
theorem dX10_image_120 : decode cX10_image 120 = .ok (.iastore, 1) := by decide +kernel
theorem dX10_image_121 : decode cX10_image 121 = .ok (.aload_n 0, 1) := by decide +kernel
theorem dX10_image_122 : decode cX10_image 122 = .ok (.getfield 16, 3) := by decide +kernel
theorem dX10_image_125 : decode cX10_image 125 = .ok (.iload_n 1, 1) := by decide +kernel
theorem dX10_image_126 : decode cX10_image 126 = .ok (.iconst 1, 1) := by decide +kernel
theorem dX10_image_127 : decode cX10_image 127 = .ok (.bastore, 1) := by decide +kernel
theorem dX10_image_128 : decode cX10_image 128 = .ok (.iconst 1, 1) := by decide +kernel
theorem dX10_image_129 : decode cX10_image 129 = .ok (.ireturn, 1) := by decide +kernel
theorem dX10_again_0 : decode cX10_again 0 = .ok (.iload_n 1, 1) := by decide +kernel
theorem dX10_again_1 : decode cX10_again 1 = .ok (.iconst 0, 1) := by decide +kernel
theorem dX10_again_2 : decode cX10_again 2 = .ok (.iconst 2, 1) := by decide +kernel
theorem dX10_again_3 : decode cX10_again 3 = .ok (.invokestatic 47, 3) := by decide +kernel
theorem dX10_again_6 : decode cX10_again 6 = .ok (.ifCond .eq 12, 3) := by decide +kernel
theorem dX10_again_9 : decode cX10_again 9 = .ok (.aload_n 0, 1) := by decide +kernel
theorem dX10_again_10 : decode cX10_again 10 = .ok (.getfield 16, 3) := by decide +kernel
theorem dX10_again_13 : decode cX10_again 13 = .ok (.iload_n 1, 1) := by decide +kernel
theorem dX10_again_14 : decode cX10_again 14 = .ok (.baload, 1) := by decide +kernel
theorem dX10_again_15 : decode cX10_again 15 = .ok (.ifCond .ne 5, 3) := by decide +kernel
theorem dX10_again_18 : decode cX10_again 18 = .ok (.iconst 0, 1) := by decide +kernel
theorem dX10_again_19 : decode cX10_again 19 = .ok (.ireturn, 1) := by decide +kernel
theorem dX10_again_20 : decode cX10_again 20 = .ok (.sipush 5688, 3) := by decide +kernel
theorem dX10_again_23 : decode cX10_again 23 = .ok (.sipush 1277, 3) := by decide +kernel
theorem dX10_again_26 : decode cX10_again 26 = .ok (.iload_n 1, 1) := by decide +kernel
theorem dX10_again_27 : decode cX10_again 27 = .ok (.imul, 1) := by decide +kernel
theorem dX10_again_28 : decode cX10_again 28 = .ok (.iadd, 1) := by decide +kernel
theorem dX10_again_29 : decode cX10_again 29 = .ok (.istore_n 2, 1) := by decide +kernel
theorem dX10_again_30 : decode cX10_again 30 = .ok (.aload_n 0, 1) := by decide +kernel
theorem dX10_again_31 : decode cX10_again 31 = .ok (.iload_n 2, 1) := by decide +kernel
theorem dX10_again_32 : decode cX10_again 32 = .ok (.iconst 0, 1) := by decide +kernel
theorem dX10_again_33 : decode cX10_again 33 = .ok (.sipush 474, 3) := by decide +kernel
theorem dX10_again_36 : decode cX10_again 36 = .ok (.invokevirtual 103, 3) := by decide +kernel
theorem dX10_again_39 : decode cX10_again 39 = .ok (.iconst 0, 1) := by decide +kernel
theorem dX10_again_40 : decode cX10_again 40 = .ok (.istore_n 3, 1) := by decide +kernel
theorem dX10_again_41 : decode cX10_again 41 = .ok (.iload_n 3, 1) := by decide +kernel
theorem dX10_again_42 : decode cX10_again 42 = .ok (.sipush 800, 3) := by decide +kernel
theorem dX10_again_45 : decode cX10_again 45 = .ok (.if_icmp .ge 27, 3) := by decide +kernel
theorem dX10_again_48 : decode cX10_again 48 = .ok (.aload_n 0, 1) := by decide +kernel
theorem dX10_again_49 : decode cX10_again 49 = .ok (.getfield 13, 3) := by decide +kernel
theorem dX10_again_52 : decode cX10_again 52 = .ok (.iload_n 3, 1) := by decide +kernel
theorem dX10_again_53 : decode cX10_again 53 = .ok (.aload_n 0, 1) := by decide +kernel
theorem dX10_again_54 : decode cX10_again 54 = .ok (.getfield 7, 3) := by decide +kernel
theorem dX10_again_57 : decode cX10_again 57 = .ok (.iload_n 2, 1) := by decide +kernel
theorem dX10_again_58 : decode cX10_again 58 = .ok (.sipush 474, 3) := by decide +kernel
theorem dX10_again_61 : decode cX10_again 61 = .ok (.iadd, 1) := by decide +kernel
theorem dX10_again_62 : decode cX10_again 62 = .ok (.iload_n 3, 1) := by decide +kernel
theorem dX10_again_63 : decode cX10_again 63 = .ok (.iadd, 1) := by decide +kernel
theorem dX10_again_64 : decode cX10_again 64 = .ok (.iaload, 1) := by decide +kernel
theorem dX10_again_65 : decode cX10_again 65 = .ok (.iastore, 1) := by decide +kernel
theorem dX10_again_66 : decode cX10_again 66 = .ok (.iinc 3 1, 3) := by decide +kernel
theorem dX10_again_69 : decode cX10_again 69 = .ok (.goto (-28), 3) := by decide +kernel
theorem dX10_again_72 : decode cX10_again 72 = .ok (.aload_n 0, 1) := by decide +kernel
theorem dX10_again_73 : decode cX10_again 73 = .ok (.aload_n 0, 1) := by decide +kernel
theorem dX10_again_74 : decode cX10_again 74 = .ok (.getfield 7, 3) := by decide +kernel
theorem dX10_again_77 : decode cX10_again 77 = .ok (.iload_n 2, 1) := by decide +kernel
theorem dX10_again_78 : decode cX10_again 78 = .ok (.sipush 474, 3) := by decide +kernel
theorem dX10_again_81 : decode cX10_again 81 = .ok (.iadd, 1) := by decide +kernel
theorem dX10_again_82 : decode cX10_again 82 = .ok (.sipush 800, 3) := by decide +kernel
theorem dX10_again_85 : decode cX10_again 85 = .ok (.iadd, 1) := by decide +kernel
theorem dX10_again_86 : decode cX10_again 86 = .ok (.iaload, 1) := by decide +kernel
theorem dX10_again_87 : decode cX10_again 87 = .ok (.putfield 158, 3) := by decide +kernel
theorem dX10_again_90 : decode cX10_again 90 = .ok (.aload_n 0, 1) := by decide +kernel
theorem dX10_again_91 : decode cX10_again 91 = .ok (.aload_n 0, 1) := by decide +kernel
theorem dX10_again_92 : decode cX10_again 92 = .ok (.getfield 7, 3) := by decide +kernel
theorem dX10_again_95 : decode cX10_again 95 = .ok (.iload_n 2, 1) := by decide +kernel
theorem dX10_again_96 : decode cX10_again 96 = .ok (.sipush 474, 3) := by decide +kernel
theorem dX10_again_99 : decode cX10_again 99 = .ok (.iadd, 1) := by decide +kernel
theorem dX10_again_100 : decode cX10_again 100 = .ok (.sipush 800, 3) := by decide +kernel
theorem dX10_again_103 : decode cX10_again 103 = .ok (.iadd, 1) := by decide +kernel
theorem dX10_again_104 : decode cX10_again 104 = .ok (.iconst 1, 1) := by decide +kernel
theorem dX10_again_105 : decode cX10_again 105 = .ok (.iadd, 1) := by decide +kernel
theorem dX10_again_106 : decode cX10_again 106 = .ok (.iaload, 1) := by decide +kernel
theorem dX10_again_107 : decode cX10_again 107 = .ok (.putfield 186, 3) := by decide +kernel
theorem dX10_again_110 : decode cX10_again 110 = .ok (.aload_n 0, 1) := by decide +kernel
theorem dX10_again_111 : decode cX10_again 111 = .ok (.aload_n 0, 1) := by decide +kernel
theorem dX10_again_112 : decode cX10_again 112 = .ok (.getfield 7, 3) := by decide +kernel
theorem dX10_again_115 : decode cX10_again 115 = .ok (.iload_n 2, 1) := by decide +kernel
theorem dX10_again_116 : decode cX10_again 116 = .ok (.sipush 474, 3) := by decide +kernel
theorem dX10_again_119 : decode cX10_again 119 = .ok (.iadd, 1) := by decide +kernel
theorem dX10_again_120 : decode cX10_again 120 = .ok (.sipush 800, 3) := by decide +kernel
theorem dX10_again_123 : decode cX10_again 123 = .ok (.iadd, 1) := by decide +kernel
theorem dX10_again_124 : decode cX10_again 124 = .ok (.iconst 2, 1) := by decide +kernel
theorem dX10_again_125 : decode cX10_again 125 = .ok (.iadd, 1) := by decide +kernel
theorem dX10_again_126 : decode cX10_again 126 = .ok (.iaload, 1) := by decide +kernel
theorem dX10_again_127 : decode cX10_again 127 = .ok (.putfield 20, 3) := by decide +kernel
theorem dX10_again_130 : decode cX10_again 130 = .ok (.aload_n 0, 1) := by decide +kernel
theorem dX10_again_131 : decode cX10_again 131 = .ok (.iconst 0, 1) := by decide +kernel
theorem dX10_again_132 : decode cX10_again 132 = .ok (.putfield 143, 3) := by decide +kernel
theorem dX10_again_135 : decode cX10_again 135 = .ok (.iconst 1, 1) := by decide +kernel
theorem dX10_again_136 : decode cX10_again 136 = .ok (.ireturn, 1) := by decide +kernel
