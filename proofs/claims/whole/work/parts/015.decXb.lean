theorem dX3_canDo_82 : decode cX3_canDo 82 = .ok (.iload_n 3, 1) := by decide +kernel
theorem dX3_canDo_83 : decode cX3_canDo 83 = .ok (.invokestatic 74, 3) := by decide +kernel
theorem dX3_canDo_86 : decode cX3_canDo 86 = .ok (.aload_n 1, 1) := by decide +kernel
theorem dX3_canDo_87 : decode cX3_canDo 87 = .ok (.getfield 78, 3) := by decide +kernel
theorem dX3_canDo_90 : decode cX3_canDo 90 = .ok (.iload_n 3, 1) := by decide +kernel
theorem dX3_canDo_91 : decode cX3_canDo 91 = .ok (.invokestatic 74, 3) := by decide +kernel
theorem dX3_canDo_94 : decode cX3_canDo 94 = .ok (.if_icmp .ge 7, 3) := by decide +kernel
theorem dX3_canDo_97 : decode cX3_canDo 97 = .ok (.iconst 1, 1) := by decide +kernel
theorem dX3_canDo_98 : decode cX3_canDo 98 = .ok (.goto 4, 3) := by decide +kernel
theorem dX3_canDo_101 : decode cX3_canDo 101 = .ok (.iconst 0, 1) := by decide +kernel
theorem dX3_canDo_102 : decode cX3_canDo 102 = .ok (.ireturn, 1) := by decide +kernel
theorem dX3_canDo_103 : decode cX3_canDo 103 = .ok (.aload_n 0, 1) := by decide +kernel
theorem dX3_canDo_104 : decode cX3_canDo 104 = .ok (.getfield 40, 3) := by decide +kernel
theorem dX3_canDo_107 : decode cX3_canDo 107 = .ok (.iload_n 3, 1) := by decide +kernel
theorem dX3_canDo_108 : decode cX3_canDo 108 = .ok (.invokestatic 74, 3) := by decide +kernel
theorem dX3_canDo_111 : decode cX3_canDo 111 = .ok (.ifCond .le 7, 3) := by decide +kernel
theorem dX3_canDo_114 : decode cX3_canDo 114 = .ok (.iconst 1, 1) := by decide +kernel
theorem dX3_canDo_115 : decode cX3_canDo 115 = .ok (.goto 4, 3) := by decide +kernel
theorem dX3_canDo_118 : decode cX3_canDo 118 = .ok (.iconst 0, 1) := by decide +kernel
theorem dX3_canDo_119 : decode cX3_canDo 119 = .ok (.ireturn, 1) := by decide +kernel
theorem dX3_canDo_120 : decode cX3_canDo 120 = .ok (.aload_n 0, 1) := by decide +kernel
theorem dX3_canDo_121 : decode cX3_canDo 121 = .ok (.getfield 43, 3) := by decide +kernel
theorem dX3_canDo_124 : decode cX3_canDo 124 = .ok (.iload_n 2, 1) := by decide +kernel
theorem dX3_canDo_125 : decode cX3_canDo 125 = .ok (.bipush 8, 2) := by decide +kernel
theorem dX3_canDo_127 : decode cX3_canDo 127 = .ok (.imul, 1) := by decide +kernel
theorem dX3_canDo_128 : decode cX3_canDo 128 = .ok (.iload_n 3, 1) := by decide +kernel
theorem dX3_canDo_129 : decode cX3_canDo 129 = .ok (.iadd, 1) := by decide +kernel
theorem dX3_canDo_130 : decode cX3_canDo 130 = .ok (.invokestatic 74, 3) := by decide +kernel
theorem dX3_canDo_133 : decode cX3_canDo 133 = .ok (.ifCond .le 7, 3) := by decide +kernel
theorem dX3_canDo_136 : decode cX3_canDo 136 = .ok (.iconst 1, 1) := by decide +kernel
theorem dX3_canDo_137 : decode cX3_canDo 137 = .ok (.goto 4, 3) := by decide +kernel
theorem dX3_canDo_140 : decode cX3_canDo 140 = .ok (.iconst 0, 1) := by decide +kernel
theorem dX3_canDo_141 : decode cX3_canDo 141 = .ok (.ireturn, 1) := by decide +kernel
theorem dX3_canDo_142 : decode cX3_canDo 142 = .ok (.iconst 1, 1) := by decide +kernel
theorem dX3_canDo_143 : decode cX3_canDo 143 = .ok (.ireturn, 1) := by decide +kernel
theorem dX3_pass_0 : decode cX3_pass 0 = .ok (.aload_n 0, 1) := by decide +kernel
theorem dX3_pass_1 : decode cX3_pass 1 = .ok (.dup, 1) := by decide +kernel
theorem dX3_pass_2 : decode cX3_pass 2 = .ok (.getfield 9, 3) := by decide +kernel
theorem dX3_pass_5 : decode cX3_pass 5 = .ok (.iconst 1, 1) := by decide +kernel
theorem dX3_pass_6 : decode cX3_pass 6 = .ok (.iadd, 1) := by decide +kernel
theorem dX3_pass_7 : decode cX3_pass 7 = .ok (.putfield 9, 3) := by decide +kernel
theorem dX3_pass_10 : decode cX3_pass 10 = .ok (.iconst 0, 1) := by decide +kernel
theorem dX3_pass_11 : decode cX3_pass 11 = .ok (.istore_n 2, 1) := by decide +kernel
theorem dX3_pass_12 : decode cX3_pass 12 = .ok (.iload_n 2, 1) := by decide +kernel
theorem dX3_pass_13 : decode cX3_pass 13 = .ok (.aload_n 1, 1) := by decide +kernel
theorem dX3_pass_14 : decode cX3_pass 14 = .ok (.getfield 60, 3) := by decide +kernel
theorem dX3_pass_17 : decode cX3_pass 17 = .ok (.if_icmp .ge 34, 3) := by decide +kernel
theorem dX3_pass_20 : decode cX3_pass 20 = .ok (.aload_n 0, 1) := by decide +kernel
theorem dX3_pass_21 : decode cX3_pass 21 = .ok (.getfield 21, 3) := by decide +kernel
theorem dX3_pass_24 : decode cX3_pass 24 = .ok (.iload_n 2, 1) := by decide +kernel
theorem dX3_pass_25 : decode cX3_pass 25 = .ok (.iaload, 1) := by decide +kernel
theorem dX3_pass_26 : decode cX3_pass 26 = .ok (.iconst (-1), 1) := by decide +kernel
theorem dX3_pass_27 : decode cX3_pass 27 = .ok (.if_icmp .eq 18, 3) := by decide +kernel
theorem dX3_pass_30 : decode cX3_pass 30 = .ok (.aload_n 0, 1) := by decide +kernel
theorem dX3_pass_31 : decode cX3_pass 31 = .ok (.aload_n 1, 1) := by decide +kernel
theorem dX3_pass_32 : decode cX3_pass 32 = .ok (.iload_n 2, 1) := by decide +kernel
theorem dX3_pass_33 : decode cX3_pass 33 = .ok (.invokevirtual 81, 3) := by decide +kernel
theorem dX3_pass_36 : decode cX3_pass 36 = .ok (.ifCond .eq 9, 3) := by decide +kernel
theorem dX3_pass_39 : decode cX3_pass 39 = .ok (.aload_n 0, 1) := by decide +kernel
theorem dX3_pass_40 : decode cX3_pass 40 = .ok (.aload_n 1, 1) := by decide +kernel
theorem dX3_pass_41 : decode cX3_pass 41 = .ok (.iload_n 2, 1) := by decide +kernel
theorem dX3_pass_42 : decode cX3_pass 42 = .ok (.invokevirtual 85, 3) := by decide +kernel
theorem dX3_pass_45 : decode cX3_pass 45 = .ok (.iinc 2 1, 3) := by decide +kernel
theorem dX3_pass_48 : decode cX3_pass 48 = .ok (.goto (-36), 3) := by decide +kernel
theorem dX3_pass_51 : decode cX3_pass 51 = .ok (.return_, 1) := by decide +kernel
theorem dX3_act_0 : decode cX3_act 0 = .ok (.aload_n 1, 1) := by decide +kernel
theorem dX3_act_1 : decode cX3_act 1 = .ok (.iload_n 2, 1) := by decide +kernel
theorem dX3_act_2 : decode cX3_act 2 = .ok (.aload_n 0, 1) := by decide +kernel
theorem dX3_act_3 : decode cX3_act 3 = .ok (.getfield 21, 3) := by decide +kernel
theorem dX3_act_6 : decode cX3_act 6 = .ok (.iload_n 2, 1) := by decide +kernel
theorem dX3_act_7 : decode cX3_act 7 = .ok (.iaload, 1) := by decide +kernel
theorem dX3_act_8 : decode cX3_act 8 = .ok (.invokevirtual 67, 3) := by decide +kernel
theorem dX3_act_11 : decode cX3_act 11 = .ok (.istore_n 3, 1) := by decide +kernel
theorem dX3_act_12 : decode cX3_act 12 = .ok (.aload_n 1, 1) := by decide +kernel
theorem dX3_act_13 : decode cX3_act 13 = .ok (.iload_n 2, 1) := by decide +kernel
theorem dX3_act_14 : decode cX3_act 14 = .ok (.aload_n 0, 1) := by decide +kernel
theorem dX3_act_15 : decode cX3_act 15 = .ok (.getfield 21, 3) := by decide +kernel
theorem dX3_act_18 : decode cX3_act 18 = .ok (.iload_n 2, 1) := by decide +kernel
theorem dX3_act_19 : decode cX3_act 19 = .ok (.iaload, 1) := by decide +kernel
theorem dX3_act_20 : decode cX3_act 20 = .ok (.invokevirtual 71, 3) := by decide +kernel
theorem dX3_act_23 : decode cX3_act 23 = .ok (.istore 4, 2) := by decide +kernel
theorem dX3_act_25 : decode cX3_act 25 = .ok (.iload 4, 2) := by decide +kernel
theorem dX3_act_27 : decode cX3_act 27 = .ok (.tableswitch 149 0 7 #[45, 55, 67, 91, 103, 115, 132, 45], 45) := by decide +kernel
theorem dX3_act_72 : decode cX3_act 72 = .ok (.aload_n 0, 1) := by decide +kernel
theorem dX3_act_73 : decode cX3_act 73 = .ok (.aload_n 1, 1) := by decide +kernel
theorem dX3_act_74 : decode cX3_act 74 = .ok (.iload_n 2, 1) := by decide +kernel
theorem dX3_act_75 : decode cX3_act 75 = .ok (.iload 4, 2) := by decide +kernel
theorem dX3_act_77 : decode cX3_act 77 = .ok (.iload_n 3, 1) := by decide +kernel
theorem dX3_act_78 : decode cX3_act 78 = .ok (.invokevirtual 89, 3) := by decide +kernel
theorem dX3_act_81 : decode cX3_act 81 = .ok (.return_, 1) := by decide +kernel
theorem dX3_act_82 : decode cX3_act 82 = .ok (.aload_n 0, 1) := by decide +kernel
theorem dX3_act_83 : decode cX3_act 83 = .ok (.getfield 37, 3) := by decide +kernel
theorem dX3_act_86 : decode cX3_act 86 = .ok (.iload_n 3, 1) := by decide +kernel
theorem dX3_act_87 : decode cX3_act 87 = .ok (.iload_n 2, 1) := by decide +kernel
theorem dX3_act_88 : decode cX3_act 88 = .ok (.invokestatic 93, 3) := by decide +kernel
theorem dX3_act_91 : decode cX3_act 91 = .ok (.goto 85, 3) := by decide +kernel
theorem dX3_act_94 : decode cX3_act 94 = .ok (.aload_n 0, 1) := by decide +kernel
theorem dX3_act_95 : decode cX3_act 95 = .ok (.getfield 37, 3) := by decide +kernel
theorem dX3_act_98 : decode cX3_act 98 = .ok (.iload_n 3, 1) := by decide +kernel
theorem dX3_act_99 : decode cX3_act 99 = .ok (.invokestatic 74, 3) := by decide +kernel
theorem dX3_act_102 : decode cX3_act 102 = .ok (.iload_n 2, 1) := by decide +kernel
theorem dX3_act_103 : decode cX3_act 103 = .ok (.if_icmp .ne 73, 3) := by decide +kernel
theorem dX3_act_106 : decode cX3_act 106 = .ok (.aload_n 0, 1) := by decide +kernel
theorem dX3_act_107 : decode cX3_act 107 = .ok (.getfield 37, 3) := by decide +kernel
theorem dX3_act_110 : decode cX3_act 110 = .ok (.iload_n 3, 1) := by decide +kernel
theorem dX3_act_111 : decode cX3_act 111 = .ok (.iconst (-1), 1) := by decide +kernel
theorem dX3_act_112 : decode cX3_act 112 = .ok (.invokestatic 93, 3) := by decide +kernel
theorem dX3_act_115 : decode cX3_act 115 = .ok (.goto 61, 3) := by decide +kernel
theorem dX3_act_118 : decode cX3_act 118 = .ok (.aload_n 0, 1) := by decide +kernel
theorem dX3_act_119 : decode cX3_act 119 = .ok (.getfield 40, 3) := by decide +kernel
theorem dX3_act_122 : decode cX3_act 122 = .ok (.iload_n 3, 1) := by decide +kernel
theorem dX3_act_123 : decode cX3_act 123 = .ok (.iconst 1, 1) := by decide +kernel
theorem dX3_act_124 : decode cX3_act 124 = .ok (.invokestatic 97, 3) := by decide +kernel
theorem dX3_act_127 : decode cX3_act 127 = .ok (.goto 49, 3) := by decide +kernel
theorem dX3_act_130 : decode cX3_act 130 = .ok (.aload_n 0, 1) := by decide +kernel
theorem dX3_act_131 : decode cX3_act 131 = .ok (.getfield 40, 3) := by decide +kernel
theorem dX3_act_134 : decode cX3_act 134 = .ok (.iload_n 3, 1) := by decide +kernel
theorem dX3_act_135 : decode cX3_act 135 = .ok (.iconst (-1), 1) := by decide +kernel
theorem dX3_act_136 : decode cX3_act 136 = .ok (.invokestatic 97, 3) := by decide +kernel
theorem dX3_act_139 : decode cX3_act 139 = .ok (.goto 37, 3) := by decide +kernel
theorem dX3_act_142 : decode cX3_act 142 = .ok (.aload_n 0, 1) := by decide +kernel
theorem dX3_act_143 : decode cX3_act 143 = .ok (.getfield 43, 3) := by decide +kernel
theorem dX3_act_146 : decode cX3_act 146 = .ok (.iload_n 3, 1) := by decide +kernel
theorem dX3_act_147 : decode cX3_act 147 = .ok (.bipush 8, 2) := by decide +kernel
theorem dX3_act_149 : decode cX3_act 149 = .ok (.imul, 1) := by decide +kernel
theorem dX3_act_150 : decode cX3_act 150 = .ok (.iload_n 2, 1) := by decide +kernel
theorem dX3_act_151 : decode cX3_act 151 = .ok (.iadd, 1) := by decide +kernel
theorem dX3_act_152 : decode cX3_act 152 = .ok (.iconst 1, 1) := by decide +kernel
theorem dX3_act_153 : decode cX3_act 153 = .ok (.invokestatic 97, 3) := by decide +kernel
theorem dX3_act_156 : decode cX3_act 156 = .ok (.goto 20, 3) := by decide +kernel
theorem dX3_act_159 : decode cX3_act 159 = .ok (.aload_n 0, 1) := by decide +kernel
theorem dX3_act_160 : decode cX3_act 160 = .ok (.getfield 43, 3) := by decide +kernel
theorem dX3_act_163 : decode cX3_act 163 = .ok (.iload_n 2, 1) := by decide +kernel
theorem dX3_act_164 : decode cX3_act 164 = .ok (.bipush 8, 2) := by decide +kernel
theorem dX3_act_166 : decode cX3_act 166 = .ok (.imul, 1) := by decide +kernel
theorem dX3_act_167 : decode cX3_act 167 = .ok (.iload_n 3, 1) := by decide +kernel
theorem dX3_act_168 : decode cX3_act 168 = .ok (.iadd, 1) := by decide +kernel
theorem dX3_act_169 : decode cX3_act 169 = .ok (.iconst (-1), 1) := by decide +kernel
theorem dX3_act_170 : decode cX3_act 170 = .ok (.invokestatic 97, 3) := by decide +kernel
theorem dX3_act_173 : decode cX3_act 173 = .ok (.goto 3, 3) := by decide +kernel
theorem dX3_act_176 : decode cX3_act 176 = .ok (.aload_n 0, 1) := by decide +kernel
theorem dX3_act_177 : decode cX3_act 177 = .ok (.aload_n 1, 1) := by decide +kernel
theorem dX3_act_178 : decode cX3_act 178 = .ok (.iload_n 2, 1) := by decide +kernel
theorem dX3_act_179 : decode cX3_act 179 = .ok (.iload 4, 2) := by decide +kernel
theorem dX3_act_181 : decode cX3_act 181 = .ok (.invokevirtual 100, 3) := by decide +kernel
theorem dX3_act_184 : decode cX3_act 184 = .ok (.return_, 1) := by decide +kernel
theorem dX3_spend_0 : decode cX3_spend 0 = .ok (.aload_n 0, 1) := by decide +kernel
theorem dX3_spend_1 : decode cX3_spend 1 = .ok (.getfield 25, 3) := by decide +kernel
theorem dX3_spend_4 : decode cX3_spend 4 = .ok (.iload_n 2, 1) := by decide +kernel
theorem dX3_spend_5 : decode cX3_spend 5 = .ok (.dup2, 1) := by decide +kernel
theorem dX3_spend_6 : decode cX3_spend 6 = .ok (.iaload, 1) := by decide +kernel
theorem dX3_spend_7 : decode cX3_spend 7 = .ok (.iconst 1, 1) := by decide +kernel
theorem dX3_spend_8 : decode cX3_spend 8 = .ok (.iadd, 1) := by decide +kernel
theorem dX3_spend_9 : decode cX3_spend 9 = .ok (.iastore, 1) := by decide +kernel
theorem dX3_spend_10 : decode cX3_spend 10 = .ok (.aload_n 0, 1) := by decide +kernel
theorem dX3_spend_11 : decode cX3_spend 11 = .ok (.getfield 25, 3) := by decide +kernel
theorem dX3_spend_14 : decode cX3_spend 14 = .ok (.iload_n 2, 1) := by decide +kernel
theorem dX3_spend_15 : decode cX3_spend 15 = .ok (.iaload, 1) := by decide +kernel
theorem dX3_spend_16 : decode cX3_spend 16 = .ok (.iload 4, 2) := by decide +kernel
theorem dX3_spend_18 : decode cX3_spend 18 = .ok (.if_icmp .lt 13, 3) := by decide +kernel
theorem dX3_spend_21 : decode cX3_spend 21 = .ok (.aload_n 0, 1) := by decide +kernel
theorem dX3_spend_22 : decode cX3_spend 22 = .ok (.aload_n 1, 1) := by decide +kernel
theorem dX3_spend_23 : decode cX3_spend 23 = .ok (.iload_n 2, 1) := by decide +kernel
theorem dX3_spend_24 : decode cX3_spend 24 = .ok (.iload_n 3, 1) := by decide +kernel
theorem dX3_spend_25 : decode cX3_spend 25 = .ok (.invokevirtual 100, 3) := by decide +kernel
theorem dX3_spend_28 : decode cX3_spend 28 = .ok (.goto 12, 3) := by decide +kernel
theorem dX3_spend_31 : decode cX3_spend 31 = .ok (.iload_n 3, 1) := by decide +kernel
theorem dX3_spend_32 : decode cX3_spend 32 = .ok (.ifCond .ne 8, 3) := by decide +kernel
theorem dX3_spend_35 : decode cX3_spend 35 = .ok (.aload_n 0, 1) := by decide +kernel
theorem dX3_spend_36 : decode cX3_spend 36 = .ok (.iload_n 2, 1) := by decide +kernel
theorem dX3_spend_37 : decode cX3_spend 37 = .ok (.invokevirtual 104, 3) := by decide +kernel
theorem dX3_spend_40 : decode cX3_spend 40 = .ok (.return_, 1) := by decide +kernel
theorem dX3_finish_0 : decode cX3_finish 0 = .ok (.aload_n 0, 1) := by decide +kernel
theorem dX3_finish_1 : decode cX3_finish 1 = .ok (.getfield 31, 3) := by decide +kernel
theorem dX3_finish_4 : decode cX3_finish 4 = .ok (.iload_n 2, 1) := by decide +kernel
theorem dX3_finish_5 : decode cX3_finish 5 = .ok (.dup2, 1) := by decide +kernel
theorem dX3_finish_6 : decode cX3_finish 6 = .ok (.iaload, 1) := by decide +kernel
theorem dX3_finish_7 : decode cX3_finish 7 = .ok (.iconst 1, 1) := by decide +kernel
theorem dX3_finish_8 : decode cX3_finish 8 = .ok (.iadd, 1) := by decide +kernel
theorem dX3_finish_9 : decode cX3_finish 9 = .ok (.iastore, 1) := by decide +kernel
theorem dX3_finish_10 : decode cX3_finish 10 = .ok (.aload_n 0, 1) := by decide +kernel
theorem dX3_finish_11 : decode cX3_finish 11 = .ok (.getfield 25, 3) := by decide +kernel
theorem dX3_finish_14 : decode cX3_finish 14 = .ok (.iload_n 2, 1) := by decide +kernel
theorem dX3_finish_15 : decode cX3_finish 15 = .ok (.iconst 0, 1) := by decide +kernel
theorem dX3_finish_16 : decode cX3_finish 16 = .ok (.iastore, 1) := by decide +kernel
theorem dX3_finish_17 : decode cX3_finish 17 = .ok (.aload_n 0, 1) := by decide +kernel
theorem dX3_finish_18 : decode cX3_finish 18 = .ok (.iload_n 2, 1) := by decide +kernel
theorem dX3_finish_19 : decode cX3_finish 19 = .ok (.invokevirtual 104, 3) := by decide +kernel
theorem dX3_finish_22 : decode cX3_finish 22 = .ok (.iload_n 3, 1) := by decide +kernel
theorem dX3_finish_23 : decode cX3_finish 23 = .ok (.bipush 8, 2) := by decide +kernel
theorem dX3_finish_25 : decode cX3_finish 25 = .ok (.if_icmp .ne 13, 3) := by decide +kernel
theorem dX3_finish_28 : decode cX3_finish 28 = .ok (.aload_n 0, 1) := by decide +kernel
theorem dX3_finish_29 : decode cX3_finish 29 = .ok (.getfield 21, 3) := by decide +kernel
theorem dX3_finish_32 : decode cX3_finish 32 = .ok (.iload_n 2, 1) := by decide +kernel
theorem dX3_finish_33 : decode cX3_finish 33 = .ok (.iconst 0, 1) := by decide +kernel
theorem dX3_finish_34 : decode cX3_finish 34 = .ok (.iastore, 1) := by decide +kernel
theorem dX3_finish_35 : decode cX3_finish 35 = .ok (.goto 46, 3) := by decide +kernel
theorem dX3_finish_38 : decode cX3_finish 38 = .ok (.iload_n 3, 1) := by decide +kernel
theorem dX3_finish_39 : decode cX3_finish 39 = .ok (.bipush 9, 2) := by decide +kernel
theorem dX3_finish_41 : decode cX3_finish 41 = .ok (.if_icmp .eq 20, 3) := by decide +kernel
theorem dX3_finish_44 : decode cX3_finish 44 = .ok (.aload_n 0, 1) := by decide +kernel
theorem dX3_finish_45 : decode cX3_finish 45 = .ok (.getfield 21, 3) := by decide +kernel
theorem dX3_finish_48 : decode cX3_finish 48 = .ok (.iload_n 2, 1) := by decide +kernel
theorem dX3_finish_49 : decode cX3_finish 49 = .ok (.iaload, 1) := by decide +kernel
theorem dX3_finish_50 : decode cX3_finish 50 = .ok (.iconst 1, 1) := by decide +kernel
theorem dX3_finish_51 : decode cX3_finish 51 = .ok (.iadd, 1) := by decide +kernel
theorem dX3_finish_52 : decode cX3_finish 52 = .ok (.aload_n 1, 1) := by decide +kernel
theorem dX3_finish_53 : decode cX3_finish 53 = .ok (.getfield 108, 3) := by decide +kernel
theorem dX3_finish_56 : decode cX3_finish 56 = .ok (.iload_n 2, 1) := by decide +kernel
theorem dX3_finish_57 : decode cX3_finish 57 = .ok (.iaload, 1) := by decide +kernel
theorem dX3_finish_58 : decode cX3_finish 58 = .ok (.if_icmp .lt 13, 3) := by decide +kernel
theorem dX3_finish_61 : decode cX3_finish 61 = .ok (.aload_n 0, 1) := by decide +kernel
theorem dX3_finish_62 : decode cX3_finish 62 = .ok (.getfield 21, 3) := by decide +kernel
theorem dX3_finish_65 : decode cX3_finish 65 = .ok (.iload_n 2, 1) := by decide +kernel
theorem dX3_finish_66 : decode cX3_finish 66 = .ok (.iconst (-1), 1) := by decide +kernel
theorem dX3_finish_67 : decode cX3_finish 67 = .ok (.iastore, 1) := by decide +kernel
theorem dX3_finish_68 : decode cX3_finish 68 = .ok (.goto 13, 3) := by decide +kernel
theorem dX3_finish_71 : decode cX3_finish 71 = .ok (.aload_n 0, 1) := by decide +kernel
theorem dX3_finish_72 : decode cX3_finish 72 = .ok (.getfield 21, 3) := by decide +kernel
theorem dX3_finish_75 : decode cX3_finish 75 = .ok (.iload_n 2, 1) := by decide +kernel
theorem dX3_finish_76 : decode cX3_finish 76 = .ok (.dup2, 1) := by decide +kernel
theorem dX3_finish_77 : decode cX3_finish 77 = .ok (.iaload, 1) := by decide +kernel
theorem dX3_finish_78 : decode cX3_finish 78 = .ok (.iconst 1, 1) := by decide +kernel
theorem dX3_finish_79 : decode cX3_finish 79 = .ok (.iadd, 1) := by decide +kernel
theorem dX3_finish_80 : decode cX3_finish 80 = .ok (.iastore, 1) := by decide +kernel
theorem dX3_finish_81 : decode cX3_finish 81 = .ok (.return_, 1) := by decide +kernel
theorem dX3_beatNow_0 : decode cX3_beatNow 0 = .ok (.aload_n 0, 1) := by decide +kernel
theorem dX3_beatNow_1 : decode cX3_beatNow 1 = .ok (.getfield 28, 3) := by decide +kernel
theorem dX3_beatNow_4 : decode cX3_beatNow 4 = .ok (.iload_n 1, 1) := by decide +kernel
theorem dX3_beatNow_5 : decode cX3_beatNow 5 = .ok (.aload_n 0, 1) := by decide +kernel
theorem dX3_beatNow_6 : decode cX3_beatNow 6 = .ok (.getfield 9, 3) := by decide +kernel
theorem dX3_beatNow_9 : decode cX3_beatNow 9 = .ok (.iastore, 1) := by decide +kernel
theorem dX3_beatNow_10 : decode cX3_beatNow 10 = .ok (.aload_n 0, 1) := by decide +kernel
theorem dX3_beatNow_11 : decode cX3_beatNow 11 = .ok (.getfield 34, 3) := by decide +kernel
theorem dX3_beatNow_14 : decode cX3_beatNow 14 = .ok (.iload_n 1, 1) := by decide +kernel
theorem dX3_beatNow_15 : decode cX3_beatNow 15 = .ok (.iconst 0, 1) := by decide +kernel
theorem dX3_beatNow_16 : decode cX3_beatNow 16 = .ok (.iastore, 1) := by decide +kernel
theorem dX3_beatNow_17 : decode cX3_beatNow 17 = .ok (.return_, 1) := by decide +kernel
theorem dX3_letGo_0 : decode cX3_letGo 0 = .ok (.aload_n 1, 1) := by decide +kernel
theorem dX3_letGo_1 : decode cX3_letGo 1 = .ok (.iload_n 2, 1) := by decide +kernel
theorem dX3_letGo_2 : decode cX3_letGo 2 = .ok (.aload_n 0, 1) := by decide +kernel
theorem dX3_letGo_3 : decode cX3_letGo 3 = .ok (.getfield 21, 3) := by decide +kernel
theorem dX3_letGo_6 : decode cX3_letGo 6 = .ok (.iload_n 2, 1) := by decide +kernel
theorem dX3_letGo_7 : decode cX3_letGo 7 = .ok (.iaload, 1) := by decide +kernel
theorem dX3_letGo_8 : decode cX3_letGo 8 = .ok (.invokevirtual 71, 3) := by decide +kernel
theorem dX3_letGo_11 : decode cX3_letGo 11 = .ok (.istore_n 3, 1) := by decide +kernel
theorem dX3_letGo_12 : decode cX3_letGo 12 = .ok (.iload_n 3, 1) := by decide +kernel
theorem dX3_letGo_13 : decode cX3_letGo 13 = .ok (.iconst 1, 1) := by decide +kernel
theorem dX3_letGo_14 : decode cX3_letGo 14 = .ok (.if_icmp .ne 22, 3) := by decide +kernel
theorem dX3_letGo_17 : decode cX3_letGo 17 = .ok (.aload_n 0, 1) := by decide +kernel
theorem dX3_letGo_18 : decode cX3_letGo 18 = .ok (.getfield 37, 3) := by decide +kernel
theorem dX3_letGo_21 : decode cX3_letGo 21 = .ok (.aload_n 1, 1) := by decide +kernel
theorem dX3_letGo_22 : decode cX3_letGo 22 = .ok (.iload_n 2, 1) := by decide +kernel
theorem dX3_letGo_23 : decode cX3_letGo 23 = .ok (.aload_n 0, 1) := by decide +kernel
theorem dX3_letGo_24 : decode cX3_letGo 24 = .ok (.getfield 21, 3) := by decide +kernel
theorem dX3_letGo_27 : decode cX3_letGo 27 = .ok (.iload_n 2, 1) := by decide +kernel
theorem dX3_letGo_28 : decode cX3_letGo 28 = .ok (.iaload, 1) := by decide +kernel
theorem dX3_letGo_29 : decode cX3_letGo 29 = .ok (.invokevirtual 67, 3) := by decide +kernel
theorem dX3_letGo_32 : decode cX3_letGo 32 = .ok (.iload_n 2, 1) := by decide +kernel
theorem dX3_letGo_33 : decode cX3_letGo 33 = .ok (.invokestatic 93, 3) := by decide +kernel
theorem dX3_letGo_36 : decode cX3_letGo 36 = .ok (.aload_n 0, 1) := by decide +kernel
theorem dX3_letGo_37 : decode cX3_letGo 37 = .ok (.aload_n 1, 1) := by decide +kernel
theorem dX3_letGo_38 : decode cX3_letGo 38 = .ok (.iload_n 2, 1) := by decide +kernel
theorem dX3_letGo_39 : decode cX3_letGo 39 = .ok (.iload_n 3, 1) := by decide +kernel
theorem dX3_letGo_40 : decode cX3_letGo 40 = .ok (.invokevirtual 100, 3) := by decide +kernel
theorem dX3_letGo_43 : decode cX3_letGo 43 = .ok (.return_, 1) := by decide +kernel
theorem dX3_mark_0 : decode cX3_mark 0 = .ok (.aload_n 0, 1) := by decide +kernel
theorem dX3_mark_1 : decode cX3_mark 1 = .ok (.getfield 34, 3) := by decide +kernel
theorem dX3_mark_4 : decode cX3_mark 4 = .ok (.iload_n 1, 1) := by decide +kernel
theorem dX3_mark_5 : decode cX3_mark 5 = .ok (.iaload, 1) := by decide +kernel
theorem dX3_mark_6 : decode cX3_mark 6 = .ok (.iload_n 2, 1) := by decide +kernel
theorem dX3_mark_7 : decode cX3_mark 7 = .ok (.ishr, 1) := by decide +kernel
theorem dX3_mark_8 : decode cX3_mark 8 = .ok (.iconst 1, 1) := by decide +kernel
theorem dX3_mark_9 : decode cX3_mark 9 = .ok (.iand, 1) := by decide +kernel
theorem dX3_mark_10 : decode cX3_mark 10 = .ok (.iconst 1, 1) := by decide +kernel
theorem dX3_mark_11 : decode cX3_mark 11 = .ok (.if_icmp .ne 5, 3) := by decide +kernel
theorem dX3_mark_14 : decode cX3_mark 14 = .ok (.iconst 0, 1) := by decide +kernel
theorem dX3_mark_15 : decode cX3_mark 15 = .ok (.ireturn, 1) := by decide +kernel
theorem dX3_mark_16 : decode cX3_mark 16 = .ok (.aload_n 0, 1) := by decide +kernel
theorem dX3_mark_17 : decode cX3_mark 17 = .ok (.getfield 34, 3) := by decide +kernel
theorem dX3_mark_20 : decode cX3_mark 20 = .ok (.iload_n 1, 1) := by decide +kernel
theorem dX3_mark_21 : decode cX3_mark 21 = .ok (.dup2, 1) := by decide +kernel
theorem dX3_mark_22 : decode cX3_mark 22 = .ok (.iaload, 1) := by decide +kernel
theorem dX3_mark_23 : decode cX3_mark 23 = .ok (.iconst 1, 1) := by decide +kernel
theorem dX3_mark_24 : decode cX3_mark 24 = .ok (.iload_n 2, 1) := by decide +kernel
theorem dX3_mark_25 : decode cX3_mark 25 = .ok (.ishl, 1) := by decide +kernel
theorem dX3_mark_26 : decode cX3_mark 26 = .ok (.ior, 1) := by decide +kernel
theorem dX3_mark_27 : decode cX3_mark 27 = .ok (.iastore, 1) := by decide +kernel
theorem dX3_mark_28 : decode cX3_mark 28 = .ok (.iconst 1, 1) := by decide +kernel
theorem dX3_mark_29 : decode cX3_mark 29 = .ok (.ireturn, 1) := by decide +kernel
theorem dX4_init_0 : decode cX4_init 0 = .ok (.aload_n 0, 1) := by decide +kernel
theorem dX4_init_1 : decode cX4_init 1 = .ok (.invokespecial 3, 3) := by decide +kernel
theorem dX4_init_4 : decode cX4_init 4 = .ok (.aload_n 0, 1) := by decide +kernel
theorem dX4_init_5 : decode cX4_init 5 = .ok (.sipush 150, 3) := by decide +kernel
theorem dX4_init_8 : decode cX4_init 8 = .ok (.newarray .int, 2) := by decide +kernel
theorem dX4_init_10 : decode cX4_init 10 = .ok (.putfield 9, 3) := by decide +kernel
theorem dX4_init_13 : decode cX4_init 13 = .ok (.aload_n 0, 1) := by decide +kernel
theorem dX4_init_14 : decode cX4_init 14 = .ok (.iconst 0, 1) := by decide +kernel
theorem dX4_init_15 : decode cX4_init 15 = .ok (.putfield 15, 3) := by decide +kernel
theorem dX4_init_18 : decode cX4_init 18 = .ok (.aload_n 0, 1) := by decide +kernel
theorem dX4_init_19 : decode cX4_init 19 = .ok (.iconst 0, 1) := by decide +kernel
theorem dX4_init_20 : decode cX4_init 20 = .ok (.putfield 19, 3) := by decide +kernel
theorem dX4_init_23 : decode cX4_init 23 = .ok (.aload_n 0, 1) := by decide +kernel
theorem dX4_init_24 : decode cX4_init 24 = .ok (.iconst 0, 1) := by decide +kernel
theorem dX4_init_25 : decode cX4_init 25 = .ok (.putfield 22, 3) := by decide +kernel
theorem dX4_init_28 : decode cX4_init 28 = .ok (.return_, 1) := by decide +kernel
theorem dX4_clear_0 : decode cX4_clear 0 = .ok (.aload_n 0, 1) := by decide +kernel
theorem dX4_clear_1 : decode cX4_clear 1 = .ok (.iconst 0, 1) := by decide +kernel
theorem dX4_clear_2 : decode cX4_clear 2 = .ok (.putfield 15, 3) := by decide +kernel
theorem dX4_clear_5 : decode cX4_clear 5 = .ok (.aload_n 0, 1) := by decide +kernel
theorem dX4_clear_6 : decode cX4_clear 6 = .ok (.iconst 0, 1) := by decide +kernel
theorem dX4_clear_7 : decode cX4_clear 7 = .ok (.putfield 19, 3) := by decide +kernel
theorem dX4_clear_10 : decode cX4_clear 10 = .ok (.aload_n 0, 1) := by decide +kernel
theorem dX4_clear_11 : decode cX4_clear 11 = .ok (.iconst 0, 1) := by decide +kernel
theorem dX4_clear_12 : decode cX4_clear 12 = .ok (.putfield 22, 3) := by decide +kernel
theorem dX4_clear_15 : decode cX4_clear 15 = .ok (.return_, 1) := by decide +kernel
theorem dX4_take_0 : decode cX4_take 0 = .ok (.aload_n 1, 1) := by decide +kernel
theorem dX4_take_1 : decode cX4_take 1 = .ok (.getfield 9, 3) := by decide +kernel
theorem dX4_take_4 : decode cX4_take 4 = .ok (.aload_n 0, 1) := by decide +kernel
theorem dX4_take_5 : decode cX4_take 5 = .ok (.getfield 9, 3) := by decide +kernel
theorem dX4_take_8 : decode cX4_take 8 = .ok (.invokestatic 25, 3) := by decide +kernel
theorem dX4_take_11 : decode cX4_take 11 = .ok (.aload_n 0, 1) := by decide +kernel
theorem dX4_take_12 : decode cX4_take 12 = .ok (.aload_n 1, 1) := by decide +kernel
theorem dX4_take_13 : decode cX4_take 13 = .ok (.getfield 15, 3) := by decide +kernel
theorem dX4_take_16 : decode cX4_take 16 = .ok (.putfield 15, 3) := by decide +kernel
theorem dX4_take_19 : decode cX4_take 19 = .ok (.aload_n 0, 1) := by decide +kernel
theorem dX4_take_20 : decode cX4_take 20 = .ok (.aload_n 1, 1) := by decide +kernel
theorem dX4_take_21 : decode cX4_take 21 = .ok (.getfield 19, 3) := by decide +kernel
theorem dX4_take_24 : decode cX4_take 24 = .ok (.putfield 19, 3) := by decide +kernel
theorem dX4_take_27 : decode cX4_take 27 = .ok (.aload_n 0, 1) := by decide +kernel
theorem dX4_take_28 : decode cX4_take 28 = .ok (.aload_n 1, 1) := by decide +kernel
theorem dX4_take_29 : decode cX4_take 29 = .ok (.getfield 22, 3) := by decide +kernel
theorem dX4_take_32 : decode cX4_take 32 = .ok (.putfield 22, 3) := by decide +kernel
theorem dX4_take_35 : decode cX4_take 35 = .ok (.return_, 1) := by decide +kernel
theorem dX4_keep_0 : decode cX4_keep 0 = .ok (.aload_n 0, 1) := by decide +kernel
theorem dX4_keep_1 : decode cX4_keep 1 = .ok (.getfield 15, 3) := by decide +kernel
theorem dX4_keep_4 : decode cX4_keep 4 = .ok (.aload_n 0, 1) := by decide +kernel
theorem dX4_keep_5 : decode cX4_keep 5 = .ok (.getfield 19, 3) := by decide +kernel
theorem dX4_keep_8 : decode cX4_keep 8 = .ok (.iadd, 1) := by decide +kernel
theorem dX4_keep_9 : decode cX4_keep 9 = .ok (.bipush 30, 2) := by decide +kernel
theorem dX4_keep_11 : decode cX4_keep 11 = .ok (.irem, 1) := by decide +kernel
theorem dX4_keep_12 : decode cX4_keep 12 = .ok (.iconst 5, 1) := by decide +kernel
theorem dX4_keep_13 : decode cX4_keep 13 = .ok (.imul, 1) := by decide +kernel
theorem dX4_keep_14 : decode cX4_keep 14 = .ok (.istore 6, 2) := by decide +kernel
theorem dX4_keep_16 : decode cX4_keep 16 = .ok (.aload_n 0, 1) := by decide +kernel
theorem dX4_keep_17 : decode cX4_keep 17 = .ok (.getfield 19, 3) := by decide +kernel
theorem dX4_keep_20 : decode cX4_keep 20 = .ok (.bipush 30, 2) := by decide +kernel
theorem dX4_keep_22 : decode cX4_keep 22 = .ok (.if_icmp .ge 16, 3) := by decide +kernel
theorem dX4_keep_25 : decode cX4_keep 25 = .ok (.aload_n 0, 1) := by decide +kernel
theorem dX4_keep_26 : decode cX4_keep 26 = .ok (.dup, 1) := by decide +kernel
theorem dX4_keep_27 : decode cX4_keep 27 = .ok (.getfield 19, 3) := by decide +kernel
theorem dX4_keep_30 : decode cX4_keep 30 = .ok (.iconst 1, 1) := by decide +kernel
theorem dX4_keep_31 : decode cX4_keep 31 = .ok (.iadd, 1) := by decide +kernel
theorem dX4_keep_32 : decode cX4_keep 32 = .ok (.putfield 19, 3) := by decide +kernel
theorem dX4_keep_35 : decode cX4_keep 35 = .ok (.goto 16, 3) := by decide +kernel
theorem dX4_keep_38 : decode cX4_keep 38 = .ok (.aload_n 0, 1) := by decide +kernel
theorem dX4_keep_39 : decode cX4_keep 39 = .ok (.aload_n 0, 1) := by decide +kernel
theorem dX4_keep_40 : decode cX4_keep 40 = .ok (.getfield 15, 3) := by decide +kernel
theorem dX4_keep_43 : decode cX4_keep 43 = .ok (.iconst 1, 1) := by decide +kernel
theorem dX4_keep_44 : decode cX4_keep 44 = .ok (.iadd, 1) := by decide +kernel
theorem dX4_keep_45 : decode cX4_keep 45 = .ok (.bipush 30, 2) := by decide +kernel
theorem dX4_keep_47 : decode cX4_keep 47 = .ok (.irem, 1) := by decide +kernel
theorem dX4_keep_48 : decode cX4_keep 48 = .ok (.putfield 15, 3) := by decide +kernel
theorem dX4_keep_51 : decode cX4_keep 51 = .ok (.aload_n 0, 1) := by decide +kernel
theorem dX4_keep_52 : decode cX4_keep 52 = .ok (.dup, 1) := by decide +kernel
theorem dX4_keep_53 : decode cX4_keep 53 = .ok (.getfield 22, 3) := by decide +kernel
theorem dX4_keep_56 : decode cX4_keep 56 = .ok (.iconst 1, 1) := by decide +kernel
theorem dX4_keep_57 : decode cX4_keep 57 = .ok (.iadd, 1) := by decide +kernel
theorem dX4_keep_58 : decode cX4_keep 58 = .ok (.putfield 22, 3) := by decide +kernel
theorem dX4_keep_61 : decode cX4_keep 61 = .ok (.aload_n 0, 1) := by decide +kernel
theorem dX4_keep_62 : decode cX4_keep 62 = .ok (.getfield 9, 3) := by decide +kernel
theorem dX4_keep_65 : decode cX4_keep 65 = .ok (.iload 6, 2) := by decide +kernel
theorem dX4_keep_67 : decode cX4_keep 67 = .ok (.iload_n 1, 1) := by decide +kernel
theorem dX4_keep_68 : decode cX4_keep 68 = .ok (.invokestatic 29, 3) := by decide +kernel
theorem dX4_keep_71 : decode cX4_keep 71 = .ok (.aload_n 0, 1) := by decide +kernel
theorem dX4_keep_72 : decode cX4_keep 72 = .ok (.getfield 9, 3) := by decide +kernel
theorem dX4_keep_75 : decode cX4_keep 75 = .ok (.iload 6, 2) := by decide +kernel
theorem dX4_keep_77 : decode cX4_keep 77 = .ok (.iconst 1, 1) := by decide +kernel
theorem dX4_keep_78 : decode cX4_keep 78 = .ok (.iadd, 1) := by decide +kernel
theorem dX4_keep_79 : decode cX4_keep 79 = .ok (.iload_n 2, 1) := by decide +kernel
theorem dX4_keep_80 : decode cX4_keep 80 = .ok (.invokestatic 29, 3) := by decide +kernel
theorem dX4_keep_83 : decode cX4_keep 83 = .ok (.aload_n 0, 1) := by decide +kernel
theorem dX4_keep_84 : decode cX4_keep 84 = .ok (.getfield 9, 3) := by decide +kernel
theorem dX4_keep_87 : decode cX4_keep 87 = .ok (.iload 6, 2) := by decide +kernel
theorem dX4_keep_89 : decode cX4_keep 89 = .ok (.iconst 2, 1) := by decide +kernel
theorem dX4_keep_90 : decode cX4_keep 90 = .ok (.iadd, 1) := by decide +kernel
theorem dX4_keep_91 : decode cX4_keep 91 = .ok (.iload_n 3, 1) := by decide +kernel
theorem dX4_keep_92 : decode cX4_keep 92 = .ok (.invokestatic 29, 3) := by decide +kernel
theorem dX4_keep_95 : decode cX4_keep 95 = .ok (.aload_n 0, 1) := by decide +kernel
theorem dX4_keep_96 : decode cX4_keep 96 = .ok (.getfield 9, 3) := by decide +kernel
theorem dX4_keep_99 : decode cX4_keep 99 = .ok (.iload 6, 2) := by decide +kernel
theorem dX4_keep_101 : decode cX4_keep 101 = .ok (.iconst 3, 1) := by decide +kernel
theorem dX4_keep_102 : decode cX4_keep 102 = .ok (.iadd, 1) := by decide +kernel
theorem dX4_keep_103 : decode cX4_keep 103 = .ok (.iload 4, 2) := by decide +kernel
theorem dX4_keep_105 : decode cX4_keep 105 = .ok (.invokestatic 29, 3) := by decide +kernel
theorem dX4_keep_108 : decode cX4_keep 108 = .ok (.aload_n 0, 1) := by decide +kernel
theorem dX4_keep_109 : decode cX4_keep 109 = .ok (.getfield 9, 3) := by decide +kernel
theorem dX4_keep_112 : decode cX4_keep 112 = .ok (.iload 6, 2) := by decide +kernel
theorem dX4_keep_114 : decode cX4_keep 114 = .ok (.iconst 4, 1) := by decide +kernel
theorem dX4_keep_115 : decode cX4_keep 115 = .ok (.iadd, 1) := by decide +kernel
theorem dX4_keep_116 : decode cX4_keep 116 = .ok (.iload 5, 2) := by decide +kernel
theorem dX4_keep_118 : decode cX4_keep 118 = .ok (.invokestatic 29, 3) := by decide +kernel
theorem dX4_keep_121 : decode cX4_keep 121 = .ok (.return_, 1) := by decide +kernel
theorem dX4_part_0 : decode cX4_part 0 = .ok (.iload_n 1, 1) := by decide +kernel
theorem dX4_part_1 : decode cX4_part 1 = .ok (.ifCond .lt 20, 3) := by decide +kernel
theorem dX4_part_4 : decode cX4_part 4 = .ok (.iload_n 1, 1) := by decide +kernel
theorem dX4_part_5 : decode cX4_part 5 = .ok (.aload_n 0, 1) := by decide +kernel
theorem dX4_part_6 : decode cX4_part 6 = .ok (.getfield 19, 3) := by decide +kernel
theorem dX4_part_9 : decode cX4_part 9 = .ok (.if_icmp .ge 12, 3) := by decide +kernel
theorem dX4_part_12 : decode cX4_part 12 = .ok (.iload_n 2, 1) := by decide +kernel
theorem dX4_part_13 : decode cX4_part 13 = .ok (.ifCond .lt 8, 3) := by decide +kernel
theorem dX4_part_16 : decode cX4_part 16 = .ok (.iload_n 2, 1) := by decide +kernel
theorem dX4_part_17 : decode cX4_part 17 = .ok (.iconst 5, 1) := by decide +kernel
theorem dX4_part_18 : decode cX4_part 18 = .ok (.if_icmp .lt 5, 3) := by decide +kernel
theorem dX4_part_21 : decode cX4_part 21 = .ok (.iconst (-1), 1) := by decide +kernel
theorem dX4_part_22 : decode cX4_part 22 = .ok (.ireturn, 1) := by decide +kernel
theorem dX4_part_23 : decode cX4_part 23 = .ok (.aload_n 0, 1) := by decide +kernel
theorem dX4_part_24 : decode cX4_part 24 = .ok (.getfield 9, 3) := by decide +kernel
theorem dX4_part_27 : decode cX4_part 27 = .ok (.aload_n 0, 1) := by decide +kernel
theorem dX4_part_28 : decode cX4_part 28 = .ok (.getfield 15, 3) := by decide +kernel
theorem dX4_part_31 : decode cX4_part 31 = .ok (.iload_n 1, 1) := by decide +kernel
theorem dX4_part_32 : decode cX4_part 32 = .ok (.iadd, 1) := by decide +kernel
theorem dX4_part_33 : decode cX4_part 33 = .ok (.bipush 30, 2) := by decide +kernel
theorem dX4_part_35 : decode cX4_part 35 = .ok (.irem, 1) := by decide +kernel
theorem dX4_part_36 : decode cX4_part 36 = .ok (.iconst 5, 1) := by decide +kernel
theorem dX4_part_37 : decode cX4_part 37 = .ok (.imul, 1) := by decide +kernel
theorem dX4_part_38 : decode cX4_part 38 = .ok (.iload_n 2, 1) := by decide +kernel
theorem dX4_part_39 : decode cX4_part 39 = .ok (.iadd, 1) := by decide +kernel
theorem dX4_part_40 : decode cX4_part 40 = .ok (.invokestatic 33, 3) := by decide +kernel
theorem dX4_part_43 : decode cX4_part 43 = .ok (.ireturn, 1) := by decide +kernel
theorem dX5_init_0 : decode cX5_init 0 = .ok (.aload_n 0, 1) := by decide +kernel
theorem dX5_init_1 : decode cX5_init 1 = .ok (.invokespecial 3, 3) := by decide +kernel
theorem dX5_init_4 : decode cX5_init 4 = .ok (.aload_n 0, 1) := by decide +kernel
theorem dX5_init_5 : decode cX5_init 5 = .ok (.sipush 800, 3) := by decide +kernel
theorem dX5_init_8 : decode cX5_init 8 = .ok (.newarray .byte, 2) := by decide +kernel
theorem dX5_init_10 : decode cX5_init 10 = .ok (.putfield 9, 3) := by decide +kernel
theorem dX5_init_13 : decode cX5_init 13 = .ok (.aload_n 0, 1) := by decide +kernel
theorem dX5_init_14 : decode cX5_init 14 = .ok (.iconst 0, 1) := by decide +kernel
theorem dX5_init_15 : decode cX5_init 15 = .ok (.putfield 15, 3) := by decide +kernel
theorem dX5_init_18 : decode cX5_init 18 = .ok (.return_, 1) := by decide +kernel
theorem dX5_put_0 : decode cX5_put 0 = .ok (.bipush 24, 2) := by decide +kernel
theorem dX5_put_2 : decode cX5_put 2 = .ok (.istore_n 2, 1) := by decide +kernel
theorem dX5_put_3 : decode cX5_put 3 = .ok (.iload_n 2, 1) := by decide +kernel
theorem dX5_put_4 : decode cX5_put 4 = .ok (.ifCond .lt 42, 3) := by decide +kernel
theorem dX5_put_7 : decode cX5_put 7 = .ok (.aload_n 0, 1) := by decide +kernel
theorem dX5_put_8 : decode cX5_put 8 = .ok (.getfield 15, 3) := by decide +kernel
theorem dX5_put_11 : decode cX5_put 11 = .ok (.sipush 800, 3) := by decide +kernel
theorem dX5_put_14 : decode cX5_put 14 = .ok (.if_icmp .ge 26, 3) := by decide +kernel
theorem dX5_put_17 : decode cX5_put 17 = .ok (.aload_n 0, 1) := by decide +kernel
theorem dX5_put_18 : decode cX5_put 18 = .ok (.getfield 9, 3) := by decide +kernel
theorem dX5_put_21 : decode cX5_put 21 = .ok (.aload_n 0, 1) := by decide +kernel
theorem dX5_put_22 : decode cX5_put 22 = .ok (.getfield 15, 3) := by decide +kernel
theorem dX5_put_25 : decode cX5_put 25 = .ok (.iload_n 1, 1) := by decide +kernel
theorem dX5_put_26 : decode cX5_put 26 = .ok (.iload_n 2, 1) := by decide +kernel
theorem dX5_put_27 : decode cX5_put 27 = .ok (.ishr, 1) := by decide +kernel
theorem dX5_put_28 : decode cX5_put 28 = .ok (.i2b, 1) := by decide +kernel
theorem dX5_put_29 : decode cX5_put 29 = .ok (.bastore, 1) := by decide +kernel
theorem dX5_put_30 : decode cX5_put 30 = .ok (.aload_n 0, 1) := by decide +kernel
theorem dX5_put_31 : decode cX5_put 31 = .ok (.dup, 1) := by decide +kernel
theorem dX5_put_32 : decode cX5_put 32 = .ok (.getfield 15, 3) := by decide +kernel
theorem dX5_put_35 : decode cX5_put 35 = .ok (.iconst 1, 1) := by decide +kernel
theorem dX5_put_36 : decode cX5_put 36 = .ok (.iadd, 1) := by decide +kernel
theorem dX5_put_37 : decode cX5_put 37 = .ok (.putfield 15, 3) := by decide +kernel
theorem dX5_put_40 : decode cX5_put 40 = .ok (.iinc 2 (-8), 3) := by decide +kernel
theorem dX5_put_43 : decode cX5_put 43 = .ok (.goto (-40), 3) := by decide +kernel
theorem dX5_put_46 : decode cX5_put 46 = .ok (.return_, 1) := by decide +kernel
theorem dX5_byteAt_0 : decode cX5_byteAt 0 = .ok (.iload_n 1, 1) := by decide +kernel
theorem dX5_byteAt_1 : decode cX5_byteAt 1 = .ok (.ifCond .lt 20, 3) := by decide +kernel
theorem dX5_byteAt_4 : decode cX5_byteAt 4 = .ok (.iload_n 1, 1) := by decide +kernel
theorem dX5_byteAt_5 : decode cX5_byteAt 5 = .ok (.aload_n 0, 1) := by decide +kernel
theorem dX5_byteAt_6 : decode cX5_byteAt 6 = .ok (.getfield 15, 3) := by decide +kernel
theorem dX5_byteAt_9 : decode cX5_byteAt 9 = .ok (.if_icmp .ge 12, 3) := by decide +kernel
theorem dX5_byteAt_12 : decode cX5_byteAt 12 = .ok (.aload_n 0, 1) := by decide +kernel
theorem dX5_byteAt_13 : decode cX5_byteAt 13 = .ok (.getfield 9, 3) := by decide +kernel
theorem dX5_byteAt_16 : decode cX5_byteAt 16 = .ok (.iload_n 1, 1) := by decide +kernel
theorem dX5_byteAt_17 : decode cX5_byteAt 17 = .ok (.baload, 1) := by decide +kernel
theorem dX5_byteAt_18 : decode cX5_byteAt 18 = .ok (.goto 4, 3) := by decide +kernel
theorem dX5_byteAt_21 : decode cX5_byteAt 21 = .ok (.iconst 0, 1) := by decide +kernel
theorem dX5_byteAt_22 : decode cX5_byteAt 22 = .ok (.ireturn, 1) := by decide +kernel
theorem dX5_take_0 : decode cX5_take 0 = .ok (.aload_n 1, 1) := by decide +kernel
theorem dX5_take_1 : decode cX5_take 1 = .ok (.getfield 9, 3) := by decide +kernel
theorem dX5_take_4 : decode cX5_take 4 = .ok (.iconst 0, 1) := by decide +kernel
theorem dX5_take_5 : decode cX5_take 5 = .ok (.aload_n 0, 1) := by decide +kernel
theorem dX5_take_6 : decode cX5_take 6 = .ok (.getfield 9, 3) := by decide +kernel
theorem dX5_take_9 : decode cX5_take 9 = .ok (.iconst 0, 1) := by decide +kernel
theorem dX5_take_10 : decode cX5_take 10 = .ok (.aload_n 1, 1) := by decide +kernel
theorem dX5_take_11 : decode cX5_take 11 = .ok (.getfield 15, 3) := by decide +kernel
theorem dX5_take_14 : decode cX5_take 14 = .ok (.invokestatic 19, 3) := by decide +kernel
theorem dX5_take_17 : decode cX5_take 17 = .ok (.aload_n 0, 1) := by decide +kernel
theorem dX5_take_18 : decode cX5_take 18 = .ok (.aload_n 1, 1) := by decide +kernel
theorem dX5_take_19 : decode cX5_take 19 = .ok (.getfield 15, 3) := by decide +kernel
theorem dX5_take_22 : decode cX5_take 22 = .ok (.putfield 15, 3) := by decide +kernel
theorem dX5_take_25 : decode cX5_take 25 = .ok (.return_, 1) := by decide +kernel
theorem dX6_init_0 : decode cX6_init 0 = .ok (.aload_n 0, 1) := by decide +kernel
theorem dX6_init_1 : decode cX6_init 1 = .ok (.invokespecial 3, 3) := by decide +kernel
theorem dX6_init_4 : decode cX6_init 4 = .ok (.aload_n 0, 1) := by decide +kernel
theorem dX6_init_5 : decode cX6_init 5 = .ok (.new 9, 3) := by decide +kernel
theorem dX6_init_8 : decode cX6_init 8 = .ok (.dup, 1) := by decide +kernel
theorem dX6_init_9 : decode cX6_init 9 = .ok (.invokespecial 11, 3) := by decide +kernel
theorem dX6_init_12 : decode cX6_init 12 = .ok (.putfield 12, 3) := by decide +kernel
theorem dX6_init_15 : decode cX6_init 15 = .ok (.aload_n 0, 1) := by decide +kernel
theorem dX6_init_16 : decode cX6_init 16 = .ok (.new 18, 3) := by decide +kernel
theorem dX6_init_19 : decode cX6_init 19 = .ok (.dup, 1) := by decide +kernel
theorem dX6_init_20 : decode cX6_init 20 = .ok (.invokespecial 20, 3) := by decide +kernel
theorem dX6_init_23 : decode cX6_init 23 = .ok (.putfield 21, 3) := by decide +kernel
theorem dX6_init_26 : decode cX6_init 26 = .ok (.aload_n 0, 1) := by decide +kernel
theorem dX6_init_27 : decode cX6_init 27 = .ok (.bipush 8, 2) := by decide +kernel
theorem dX6_init_29 : decode cX6_init 29 = .ok (.newarray .int, 2) := by decide +kernel
theorem dX6_init_31 : decode cX6_init 31 = .ok (.putfield 25, 3) := by decide +kernel
theorem dX6_init_34 : decode cX6_init 34 = .ok (.return_, 1) := by decide +kernel
theorem dX6_weigh_0 : decode cX6_weigh 0 = .ok (.iconst 0, 1) := by decide +kernel
theorem dX6_weigh_1 : decode cX6_weigh 1 = .ok (.istore 4, 2) := by decide +kernel
theorem dX6_weigh_3 : decode cX6_weigh 3 = .ok (.iload 4, 2) := by decide +kernel
theorem dX6_weigh_5 : decode cX6_weigh 5 = .ok (.aload_n 1, 1) := by decide +kernel
theorem dX6_weigh_6 : decode cX6_weigh 6 = .ok (.getfield 29, 3) := by decide +kernel
theorem dX6_weigh_9 : decode cX6_weigh 9 = .ok (.if_icmp .ge 90, 3) := by decide +kernel
theorem dX6_weigh_12 : decode cX6_weigh 12 = .ok (.aload_n 0, 1) := by decide +kernel
theorem dX6_weigh_13 : decode cX6_weigh 13 = .ok (.getfield 25, 3) := by decide +kernel
theorem dX6_weigh_16 : decode cX6_weigh 16 = .ok (.iload 4, 2) := by decide +kernel
theorem dX6_weigh_18 : decode cX6_weigh 18 = .ok (.iconst 0, 1) := by decide +kernel
theorem dX6_weigh_19 : decode cX6_weigh 19 = .ok (.iastore, 1) := by decide +kernel
theorem dX6_weigh_20 : decode cX6_weigh 20 = .ok (.aload_n 3, 1) := by decide +kernel
theorem dX6_weigh_21 : decode cX6_weigh 21 = .ok (.getfield 35, 3) := by decide +kernel
theorem dX6_weigh_24 : decode cX6_weigh 24 = .ok (.ifCond .eq 69, 3) := by decide +kernel
theorem dX6_weigh_27 : decode cX6_weigh 27 = .ok (.aload_n 3, 1) := by decide +kernel
theorem dX6_weigh_28 : decode cX6_weigh 28 = .ok (.getfield 38, 3) := by decide +kernel
theorem dX6_weigh_31 : decode cX6_weigh 31 = .ok (.iload 4, 2) := by decide +kernel
theorem dX6_weigh_33 : decode cX6_weigh 33 = .ok (.invokestatic 41, 3) := by decide +kernel
theorem dX6_weigh_36 : decode cX6_weigh 36 = .ok (.ifCond .eq 57, 3) := by decide +kernel
theorem dX6_weigh_39 : decode cX6_weigh 39 = .ok (.aload_n 0, 1) := by decide +kernel
theorem dX6_weigh_40 : decode cX6_weigh 40 = .ok (.getfield 12, 3) := by decide +kernel
theorem dX6_weigh_43 : decode cX6_weigh 43 = .ok (.aload_n 2, 1) := by decide +kernel
theorem dX6_weigh_44 : decode cX6_weigh 44 = .ok (.invokevirtual 45, 3) := by decide +kernel
theorem dX6_weigh_47 : decode cX6_weigh 47 = .ok (.aload_n 0, 1) := by decide +kernel
theorem dX6_weigh_48 : decode cX6_weigh 48 = .ok (.getfield 12, 3) := by decide +kernel
theorem dX6_weigh_51 : decode cX6_weigh 51 = .ok (.aload_n 1, 1) := by decide +kernel
theorem dX6_weigh_52 : decode cX6_weigh 52 = .ok (.iload 4, 2) := by decide +kernel
theorem dX6_weigh_54 : decode cX6_weigh 54 = .ok (.invokevirtual 49, 3) := by decide +kernel
theorem dX6_weigh_57 : decode cX6_weigh 57 = .ok (.aload_n 0, 1) := by decide +kernel
theorem dX6_weigh_58 : decode cX6_weigh 58 = .ok (.getfield 21, 3) := by decide +kernel
theorem dX6_weigh_61 : decode cX6_weigh 61 = .ok (.aload_n 1, 1) := by decide +kernel
theorem dX6_weigh_62 : decode cX6_weigh 62 = .ok (.aload_n 0, 1) := by decide +kernel
theorem dX6_weigh_63 : decode cX6_weigh 63 = .ok (.getfield 12, 3) := by decide +kernel
theorem dX6_weigh_66 : decode cX6_weigh 66 = .ok (.invokevirtual 53, 3) := by decide +kernel
theorem dX6_weigh_69 : decode cX6_weigh 69 = .ok (.aload_n 0, 1) := by decide +kernel
theorem dX6_weigh_70 : decode cX6_weigh 70 = .ok (.getfield 25, 3) := by decide +kernel
theorem dX6_weigh_73 : decode cX6_weigh 73 = .ok (.iload 4, 2) := by decide +kernel
theorem dX6_weigh_75 : decode cX6_weigh 75 = .ok (.aload_n 3, 1) := by decide +kernel
theorem dX6_weigh_76 : decode cX6_weigh 76 = .ok (.getfield 35, 3) := by decide +kernel
theorem dX6_weigh_79 : decode cX6_weigh 79 = .ok (.aload_n 0, 1) := by decide +kernel
theorem dX6_weigh_80 : decode cX6_weigh 80 = .ok (.getfield 21, 3) := by decide +kernel
theorem dX6_weigh_83 : decode cX6_weigh 83 = .ok (.getfield 35, 3) := by decide +kernel
theorem dX6_weigh_86 : decode cX6_weigh 86 = .ok (.iconst (-1), 1) := by decide +kernel
theorem dX6_weigh_87 : decode cX6_weigh 87 = .ok (.ixor, 1) := by decide +kernel
theorem dX6_weigh_88 : decode cX6_weigh 88 = .ok (.iand, 1) := by decide +kernel
theorem dX6_weigh_89 : decode cX6_weigh 89 = .ok (.invokestatic 57, 3) := by decide +kernel
theorem dX6_weigh_92 : decode cX6_weigh 92 = .ok (.iastore, 1) := by decide +kernel
theorem dX6_weigh_93 : decode cX6_weigh 93 = .ok (.iinc 4 1, 3) := by decide +kernel
theorem dX6_weigh_96 : decode cX6_weigh 96 = .ok (.goto (-93), 3) := by decide +kernel
theorem dX6_weigh_99 : decode cX6_weigh 99 = .ok (.return_, 1) := by decide +kernel
theorem dX6_blocker_0 : decode cX6_blocker 0 = .ok (.aload_n 2, 1) := by decide +kernel
theorem dX6_blocker_1 : decode cX6_blocker 1 = .ok (.getfield 38, 3) := by decide +kernel
theorem dX6_blocker_4 : decode cX6_blocker 4 = .ok (.iload_n 3, 1) := by decide +kernel
theorem dX6_blocker_5 : decode cX6_blocker 5 = .ok (.invokestatic 41, 3) := by decide +kernel
theorem dX6_blocker_8 : decode cX6_blocker 8 = .ok (.ifCond .ne 5, 3) := by decide +kernel
theorem dX6_blocker_11 : decode cX6_blocker 11 = .ok (.iconst (-1), 1) := by decide +kernel
theorem dX6_blocker_12 : decode cX6_blocker 12 = .ok (.ireturn, 1) := by decide +kernel
theorem dX6_blocker_13 : decode cX6_blocker 13 = .ok (.aload_n 2, 1) := by decide +kernel
theorem dX6_blocker_14 : decode cX6_blocker 14 = .ok (.getfield 35, 3) := by decide +kernel
theorem dX6_blocker_17 : decode cX6_blocker 17 = .ok (.iload_n 3, 1) := by decide +kernel
theorem dX6_blocker_18 : decode cX6_blocker 18 = .ok (.invokestatic 41, 3) := by decide +kernel
theorem dX6_blocker_21 : decode cX6_blocker 21 = .ok (.ifCond .eq 10, 3) := by decide +kernel
theorem dX6_blocker_24 : decode cX6_blocker 24 = .ok (.aload_n 2, 1) := by decide +kernel
theorem dX6_blocker_25 : decode cX6_blocker 25 = .ok (.getfield 35, 3) := by decide +kernel
theorem dX6_blocker_28 : decode cX6_blocker 28 = .ok (.goto 7, 3) := by decide +kernel
theorem dX6_blocker_31 : decode cX6_blocker 31 = .ok (.aload_n 2, 1) := by decide +kernel
theorem dX6_blocker_32 : decode cX6_blocker 32 = .ok (.getfield 38, 3) := by decide +kernel
theorem dX6_blocker_35 : decode cX6_blocker 35 = .ok (.istore 4, 2) := by decide +kernel
theorem dX6_blocker_37 : decode cX6_blocker 37 = .ok (.iconst (-1), 1) := by decide +kernel
theorem dX6_blocker_38 : decode cX6_blocker 38 = .ok (.istore 5, 2) := by decide +kernel
theorem dX6_blocker_40 : decode cX6_blocker 40 = .ok (.iconst 0, 1) := by decide +kernel
theorem dX6_blocker_41 : decode cX6_blocker 41 = .ok (.istore 6, 2) := by decide +kernel
theorem dX6_blocker_43 : decode cX6_blocker 43 = .ok (.iload 6, 2) := by decide +kernel
theorem dX6_blocker_45 : decode cX6_blocker 45 = .ok (.aload_n 2, 1) := by decide +kernel
theorem dX6_blocker_46 : decode cX6_blocker 46 = .ok (.getfield 63, 3) := by decide +kernel
theorem dX6_blocker_49 : decode cX6_blocker 49 = .ok (.if_icmp .ge 41, 3) := by decide +kernel
theorem dX6_blocker_52 : decode cX6_blocker 52 = .ok (.iload 4, 2) := by decide +kernel
theorem dX6_blocker_54 : decode cX6_blocker 54 = .ok (.iload 6, 2) := by decide +kernel
theorem dX6_blocker_56 : decode cX6_blocker 56 = .ok (.invokestatic 41, 3) := by decide +kernel
theorem dX6_blocker_59 : decode cX6_blocker 59 = .ok (.ifCond .eq 25, 3) := by decide +kernel
theorem dX6_blocker_62 : decode cX6_blocker 62 = .ok (.iload 5, 2) := by decide +kernel
theorem dX6_blocker_64 : decode cX6_blocker 64 = .ok (.iconst (-1), 1) := by decide +kernel
theorem dX6_blocker_65 : decode cX6_blocker 65 = .ok (.if_icmp .eq 15, 3) := by decide +kernel
theorem dX6_blocker_68 : decode cX6_blocker 68 = .ok (.aload_n 0, 1) := by decide +kernel
theorem dX6_blocker_69 : decode cX6_blocker 69 = .ok (.aload_n 1, 1) := by decide +kernel
theorem dX6_blocker_70 : decode cX6_blocker 70 = .ok (.iload 6, 2) := by decide +kernel
theorem dX6_blocker_72 : decode cX6_blocker 72 = .ok (.iload 5, 2) := by decide +kernel
theorem dX6_blocker_74 : decode cX6_blocker 74 = .ok (.invokevirtual 64, 3) := by decide +kernel
theorem dX6_blocker_77 : decode cX6_blocker 77 = .ok (.ifCond .eq 7, 3) := by decide +kernel
theorem dX6_blocker_80 : decode cX6_blocker 80 = .ok (.iload 6, 2) := by decide +kernel
theorem dX6_blocker_82 : decode cX6_blocker 82 = .ok (.istore 5, 2) := by decide +kernel
theorem dX6_blocker_84 : decode cX6_blocker 84 = .ok (.iinc 6 1, 3) := by decide +kernel
theorem dX6_blocker_87 : decode cX6_blocker 87 = .ok (.goto (-44), 3) := by decide +kernel
theorem dX6_blocker_90 : decode cX6_blocker 90 = .ok (.iload 5, 2) := by decide +kernel
theorem dX6_blocker_92 : decode cX6_blocker 92 = .ok (.ireturn, 1) := by decide +kernel
theorem dX6_isBetter_0 : decode cX6_isBetter 0 = .ok (.aload_n 0, 1) := by decide +kernel
theorem dX6_isBetter_1 : decode cX6_isBetter 1 = .ok (.getfield 25, 3) := by decide +kernel
theorem dX6_isBetter_4 : decode cX6_isBetter 4 = .ok (.iload_n 2, 1) := by decide +kernel
theorem dX6_isBetter_5 : decode cX6_isBetter 5 = .ok (.iaload, 1) := by decide +kernel
theorem dX6_isBetter_6 : decode cX6_isBetter 6 = .ok (.aload_n 0, 1) := by decide +kernel
theorem dX6_isBetter_7 : decode cX6_isBetter 7 = .ok (.getfield 25, 3) := by decide +kernel
theorem dX6_isBetter_10 : decode cX6_isBetter 10 = .ok (.iload_n 3, 1) := by decide +kernel
theorem dX6_isBetter_11 : decode cX6_isBetter 11 = .ok (.iaload, 1) := by decide +kernel
theorem dX6_isBetter_12 : decode cX6_isBetter 12 = .ok (.if_icmp .eq 24, 3) := by decide +kernel
theorem dX6_isBetter_15 : decode cX6_isBetter 15 = .ok (.aload_n 0, 1) := by decide +kernel
theorem dX6_isBetter_16 : decode cX6_isBetter 16 = .ok (.getfield 25, 3) := by decide +kernel
theorem dX6_isBetter_19 : decode cX6_isBetter 19 = .ok (.iload_n 2, 1) := by decide +kernel
theorem dX6_isBetter_20 : decode cX6_isBetter 20 = .ok (.iaload, 1) := by decide +kernel
theorem dX6_isBetter_21 : decode cX6_isBetter 21 = .ok (.aload_n 0, 1) := by decide +kernel
theorem dX6_isBetter_22 : decode cX6_isBetter 22 = .ok (.getfield 25, 3) := by decide +kernel
theorem dX6_isBetter_25 : decode cX6_isBetter 25 = .ok (.iload_n 3, 1) := by decide +kernel
theorem dX6_isBetter_26 : decode cX6_isBetter 26 = .ok (.iaload, 1) := by decide +kernel
theorem dX6_isBetter_27 : decode cX6_isBetter 27 = .ok (.if_icmp .le 7, 3) := by decide +kernel
theorem dX6_isBetter_30 : decode cX6_isBetter 30 = .ok (.iconst 1, 1) := by decide +kernel
theorem dX6_isBetter_31 : decode cX6_isBetter 31 = .ok (.goto 4, 3) := by decide +kernel
theorem dX6_isBetter_34 : decode cX6_isBetter 34 = .ok (.iconst 0, 1) := by decide +kernel
theorem dX6_isBetter_35 : decode cX6_isBetter 35 = .ok (.ireturn, 1) := by decide +kernel
theorem dX6_isBetter_36 : decode cX6_isBetter 36 = .ok (.aload_n 1, 1) := by decide +kernel
theorem dX6_isBetter_37 : decode cX6_isBetter 37 = .ok (.iload_n 2, 1) := by decide +kernel
theorem dX6_isBetter_38 : decode cX6_isBetter 38 = .ok (.invokevirtual 68, 3) := by decide +kernel
theorem dX6_isBetter_41 : decode cX6_isBetter 41 = .ok (.aload_n 1, 1) := by decide +kernel
theorem dX6_isBetter_42 : decode cX6_isBetter 42 = .ok (.iload_n 3, 1) := by decide +kernel
theorem dX6_isBetter_43 : decode cX6_isBetter 43 = .ok (.invokevirtual 68, 3) := by decide +kernel
theorem dX6_isBetter_46 : decode cX6_isBetter 46 = .ok (.if_icmp .le 7, 3) := by decide +kernel
theorem dX6_isBetter_49 : decode cX6_isBetter 49 = .ok (.iconst 1, 1) := by decide +kernel
theorem dX6_isBetter_50 : decode cX6_isBetter 50 = .ok (.goto 4, 3) := by decide +kernel
theorem dX6_isBetter_53 : decode cX6_isBetter 53 = .ok (.iconst 0, 1) := by decide +kernel
theorem dX6_isBetter_54 : decode cX6_isBetter 54 = .ok (.ireturn, 1) := by decide +kernel
theorem dX6_fewestOf_0 : decode cX6_fewestOf 0 = .ok (.iconst (-1), 1) := by decide +kernel
theorem dX6_fewestOf_1 : decode cX6_fewestOf 1 = .ok (.istore 4, 2) := by decide +kernel
theorem dX6_fewestOf_3 : decode cX6_fewestOf 3 = .ok (.bipush 9, 2) := by decide +kernel
theorem dX6_fewestOf_5 : decode cX6_fewestOf 5 = .ok (.istore 5, 2) := by decide +kernel
theorem dX6_fewestOf_7 : decode cX6_fewestOf 7 = .ok (.iconst 0, 1) := by decide +kernel
theorem dX6_fewestOf_8 : decode cX6_fewestOf 8 = .ok (.istore 6, 2) := by decide +kernel
theorem dX6_fewestOf_10 : decode cX6_fewestOf 10 = .ok (.iload 6, 2) := by decide +kernel
theorem dX6_fewestOf_12 : decode cX6_fewestOf 12 = .ok (.sipush 256, 3) := by decide +kernel
theorem dX6_fewestOf_15 : decode cX6_fewestOf 15 = .ok (.if_icmp .ge 62, 3) := by decide +kernel
theorem dX6_fewestOf_18 : decode cX6_fewestOf 18 = .ok (.iload 6, 2) := by decide +kernel
theorem dX6_fewestOf_20 : decode cX6_fewestOf 20 = .ok (.invokestatic 57, 3) := by decide +kernel
theorem dX6_fewestOf_23 : decode cX6_fewestOf 23 = .ok (.iload 5, 2) := by decide +kernel
theorem dX6_fewestOf_25 : decode cX6_fewestOf 25 = .ok (.if_icmp .ge 7, 3) := by decide +kernel
theorem dX6_fewestOf_28 : decode cX6_fewestOf 28 = .ok (.iconst 1, 1) := by decide +kernel
theorem dX6_fewestOf_29 : decode cX6_fewestOf 29 = .ok (.goto 4, 3) := by decide +kernel
theorem dX6_fewestOf_32 : decode cX6_fewestOf 32 = .ok (.iconst 0, 1) := by decide +kernel
theorem dX6_fewestOf_33 : decode cX6_fewestOf 33 = .ok (.istore 7, 2) := by decide +kernel
theorem dX6_fewestOf_35 : decode cX6_fewestOf 35 = .ok (.iload 6, 2) := by decide +kernel
theorem dX6_fewestOf_37 : decode cX6_fewestOf 37 = .ok (.iload_n 3, 1) := by decide +kernel
theorem dX6_fewestOf_38 : decode cX6_fewestOf 38 = .ok (.iconst (-1), 1) := by decide +kernel
theorem dX6_fewestOf_39 : decode cX6_fewestOf 39 = .ok (.ixor, 1) := by decide +kernel
theorem dX6_fewestOf_40 : decode cX6_fewestOf 40 = .ok (.iand, 1) := by decide +kernel
theorem dX6_fewestOf_41 : decode cX6_fewestOf 41 = .ok (.ifCond .ne 30, 3) := by decide +kernel
theorem dX6_fewestOf_44 : decode cX6_fewestOf 44 = .ok (.iload 7, 2) := by decide +kernel
theorem dX6_fewestOf_46 : decode cX6_fewestOf 46 = .ok (.ifCond .eq 25, 3) := by decide +kernel
theorem dX6_fewestOf_49 : decode cX6_fewestOf 49 = .ok (.aload_n 0, 1) := by decide +kernel
theorem dX6_fewestOf_50 : decode cX6_fewestOf 50 = .ok (.aload_n 1, 1) := by decide +kernel
theorem dX6_fewestOf_51 : decode cX6_fewestOf 51 = .ok (.aload_n 2, 1) := by decide +kernel
theorem dX6_fewestOf_52 : decode cX6_fewestOf 52 = .ok (.iload 6, 2) := by decide +kernel
theorem dX6_fewestOf_54 : decode cX6_fewestOf 54 = .ok (.invokevirtual 71, 3) := by decide +kernel
theorem dX6_fewestOf_57 : decode cX6_fewestOf 57 = .ok (.ifCond .eq 14, 3) := by decide +kernel
theorem dX6_fewestOf_60 : decode cX6_fewestOf 60 = .ok (.iload 6, 2) := by decide +kernel
theorem dX6_fewestOf_62 : decode cX6_fewestOf 62 = .ok (.istore 4, 2) := by decide +kernel
theorem dX6_fewestOf_64 : decode cX6_fewestOf 64 = .ok (.iload 6, 2) := by decide +kernel
theorem dX6_fewestOf_66 : decode cX6_fewestOf 66 = .ok (.invokestatic 57, 3) := by decide +kernel
theorem dX6_fewestOf_69 : decode cX6_fewestOf 69 = .ok (.istore 5, 2) := by decide +kernel
theorem dX6_fewestOf_71 : decode cX6_fewestOf 71 = .ok (.iinc 6 1, 3) := by decide +kernel
theorem dX6_fewestOf_74 : decode cX6_fewestOf 74 = .ok (.goto (-64), 3) := by decide +kernel
theorem dX6_fewestOf_77 : decode cX6_fewestOf 77 = .ok (.iload 4, 2) := by decide +kernel
theorem dX6_fewestOf_79 : decode cX6_fewestOf 79 = .ok (.ireturn, 1) := by decide +kernel
theorem dX6_leavesNoneHard_0 : decode cX6_leavesNoneHard 0 = .ok (.aload_n 0, 1) := by decide +kernel
theorem dX6_leavesNoneHard_1 : decode cX6_leavesNoneHard 1 = .ok (.getfield 12, 3) := by decide +kernel
theorem dX6_leavesNoneHard_4 : decode cX6_leavesNoneHard 4 = .ok (.aload_n 2, 1) := by decide +kernel
theorem dX6_leavesNoneHard_5 : decode cX6_leavesNoneHard 5 = .ok (.invokevirtual 45, 3) := by decide +kernel
theorem dX6_leavesNoneHard_8 : decode cX6_leavesNoneHard 8 = .ok (.iconst 0, 1) := by decide +kernel
theorem dX6_leavesNoneHard_9 : decode cX6_leavesNoneHard 9 = .ok (.istore 4, 2) := by decide +kernel
theorem dX6_leavesNoneHard_11 : decode cX6_leavesNoneHard 11 = .ok (.iload 4, 2) := by decide +kernel
theorem dX6_leavesNoneHard_13 : decode cX6_leavesNoneHard 13 = .ok (.aload_n 1, 1) := by decide +kernel
theorem dX6_leavesNoneHard_14 : decode cX6_leavesNoneHard 14 = .ok (.getfield 29, 3) := by decide +kernel
theorem dX6_leavesNoneHard_17 : decode cX6_leavesNoneHard 17 = .ok (.if_icmp .ge 28, 3) := by decide +kernel
theorem dX6_leavesNoneHard_20 : decode cX6_leavesNoneHard 20 = .ok (.iload_n 3, 1) := by decide +kernel
theorem dX6_leavesNoneHard_21 : decode cX6_leavesNoneHard 21 = .ok (.iload 4, 2) := by decide +kernel
theorem dX6_leavesNoneHard_23 : decode cX6_leavesNoneHard 23 = .ok (.invokestatic 41, 3) := by decide +kernel
theorem dX6_leavesNoneHard_26 : decode cX6_leavesNoneHard 26 = .ok (.ifCond .eq 13, 3) := by decide +kernel
theorem dX6_leavesNoneHard_29 : decode cX6_leavesNoneHard 29 = .ok (.aload_n 0, 1) := by decide +kernel
theorem dX6_leavesNoneHard_30 : decode cX6_leavesNoneHard 30 = .ok (.getfield 12, 3) := by decide +kernel
theorem dX6_leavesNoneHard_33 : decode cX6_leavesNoneHard 33 = .ok (.aload_n 1, 1) := by decide +kernel
theorem dX6_leavesNoneHard_34 : decode cX6_leavesNoneHard 34 = .ok (.iload 4, 2) := by decide +kernel
theorem dX6_leavesNoneHard_36 : decode cX6_leavesNoneHard 36 = .ok (.invokevirtual 49, 3) := by decide +kernel
theorem dX6_leavesNoneHard_39 : decode cX6_leavesNoneHard 39 = .ok (.iinc 4 1, 3) := by decide +kernel
theorem dX6_leavesNoneHard_42 : decode cX6_leavesNoneHard 42 = .ok (.goto (-31), 3) := by decide +kernel
theorem dX6_leavesNoneHard_45 : decode cX6_leavesNoneHard 45 = .ok (.aload_n 0, 1) := by decide +kernel
theorem dX6_leavesNoneHard_46 : decode cX6_leavesNoneHard 46 = .ok (.getfield 21, 3) := by decide +kernel
theorem dX6_leavesNoneHard_49 : decode cX6_leavesNoneHard 49 = .ok (.aload_n 1, 1) := by decide +kernel
theorem dX6_leavesNoneHard_50 : decode cX6_leavesNoneHard 50 = .ok (.aload_n 0, 1) := by decide +kernel
theorem dX6_leavesNoneHard_51 : decode cX6_leavesNoneHard 51 = .ok (.getfield 12, 3) := by decide +kernel
theorem dX6_leavesNoneHard_54 : decode cX6_leavesNoneHard 54 = .ok (.invokevirtual 53, 3) := by decide +kernel
theorem dX6_leavesNoneHard_57 : decode cX6_leavesNoneHard 57 = .ok (.aload_n 0, 1) := by decide +kernel
theorem dX6_leavesNoneHard_58 : decode cX6_leavesNoneHard 58 = .ok (.getfield 21, 3) := by decide +kernel
theorem dX6_leavesNoneHard_61 : decode cX6_leavesNoneHard 61 = .ok (.getfield 35, 3) := by decide +kernel
theorem dX6_leavesNoneHard_64 : decode cX6_leavesNoneHard 64 = .ok (.ifCond .ne 7, 3) := by decide +kernel
theorem dX6_leavesNoneHard_67 : decode cX6_leavesNoneHard 67 = .ok (.iconst 1, 1) := by decide +kernel
theorem dX6_leavesNoneHard_68 : decode cX6_leavesNoneHard 68 = .ok (.goto 4, 3) := by decide +kernel
theorem dX6_leavesNoneHard_71 : decode cX6_leavesNoneHard 71 = .ok (.iconst 0, 1) := by decide +kernel
theorem dX6_leavesNoneHard_72 : decode cX6_leavesNoneHard 72 = .ok (.ireturn, 1) := by decide +kernel
theorem dX7_init_0 : decode cX7_init 0 = .ok (.aload_n 0, 1) := by decide +kernel
theorem dX7_init_1 : decode cX7_init 1 = .ok (.invokespecial 3, 3) := by decide +kernel
theorem dX7_init_4 : decode cX7_init 4 = .ok (.aload_n 0, 1) := by decide +kernel
theorem dX7_init_5 : decode cX7_init 5 = .ok (.iconst 0, 1) := by decide +kernel
theorem dX7_init_6 : decode cX7_init 6 = .ok (.putfield 9, 3) := by decide +kernel
theorem dX7_init_9 : decode cX7_init 9 = .ok (.aload_n 0, 1) := by decide +kernel
theorem dX7_init_10 : decode cX7_init 10 = .ok (.iconst 0, 1) := by decide +kernel
theorem dX7_init_11 : decode cX7_init 11 = .ok (.putfield 15, 3) := by decide +kernel
theorem dX7_init_14 : decode cX7_init 14 = .ok (.aload_n 0, 1) := by decide +kernel
theorem dX7_init_15 : decode cX7_init 15 = .ok (.iconst 0, 1) := by decide +kernel
theorem dX7_init_16 : decode cX7_init 16 = .ok (.putfield 18, 3) := by decide +kernel
theorem dX7_init_19 : decode cX7_init 19 = .ok (.aload_n 0, 1) := by decide +kernel
theorem dX7_init_20 : decode cX7_init 20 = .ok (.iconst 0, 1) := by decide +kernel
theorem dX7_init_21 : decode cX7_init 21 = .ok (.putfield 21, 3) := by decide +kernel
theorem dX7_init_24 : decode cX7_init 24 = .ok (.aload_n 0, 1) := by decide +kernel
theorem dX7_init_25 : decode cX7_init 25 = .ok (.iconst 0, 1) := by decide +kernel
theorem dX7_init_26 : decode cX7_init 26 = .ok (.putfield 24, 3) := by decide +kernel
theorem dX7_init_29 : decode cX7_init 29 = .ok (.aload_n 0, 1) := by decide +kernel
theorem dX7_init_30 : decode cX7_init 30 = .ok (.iconst 0, 1) := by decide +kernel
theorem dX7_init_31 : decode cX7_init 31 = .ok (.putfield 27, 3) := by decide +kernel
theorem dX7_init_34 : decode cX7_init 34 = .ok (.aload_n 0, 1) := by decide +kernel
theorem dX7_init_35 : decode cX7_init 35 = .ok (.iconst 0, 1) := by decide +kernel
theorem dX7_init_36 : decode cX7_init 36 = .ok (.putfield 30, 3) := by decide +kernel
theorem dX7_init_39 : decode cX7_init 39 = .ok (.aload_n 0, 1) := by decide +kernel
theorem dX7_init_40 : decode cX7_init 40 = .ok (.iconst 0, 1) := by decide +kernel
theorem dX7_init_41 : decode cX7_init 41 = .ok (.putfield 33, 3) := by decide +kernel
theorem dX7_init_44 : decode cX7_init 44 = .ok (.aload_n 0, 1) := by decide +kernel
theorem dX7_init_45 : decode cX7_init 45 = .ok (.bipush 8, 2) := by decide +kernel
theorem dX7_init_47 : decode cX7_init 47 = .ok (.newarray .int, 2) := by decide +kernel
theorem dX7_init_49 : decode cX7_init 49 = .ok (.putfield 36, 3) := by decide +kernel
theorem dX7_init_52 : decode cX7_init 52 = .ok (.aload_n 0, 1) := by decide +kernel
theorem dX7_init_53 : decode cX7_init 53 = .ok (.bipush 8, 2) := by decide +kernel
theorem dX7_init_55 : decode cX7_init 55 = .ok (.newarray .int, 2) := by decide +kernel
theorem dX7_init_57 : decode cX7_init 57 = .ok (.putfield 40, 3) := by decide +kernel
theorem dX7_init_60 : decode cX7_init 60 = .ok (.aload_n 0, 1) := by decide +kernel
theorem dX7_init_61 : decode cX7_init 61 = .ok (.bipush 8, 2) := by decide +kernel
theorem dX7_init_63 : decode cX7_init 63 = .ok (.newarray .int, 2) := by decide +kernel
theorem dX7_init_65 : decode cX7_init 65 = .ok (.putfield 43, 3) := by decide +kernel
theorem dX7_init_68 : decode cX7_init 68 = .ok (.aload_n 0, 1) := by decide +kernel
theorem dX7_init_69 : decode cX7_init 69 = .ok (.iconst 0, 1) := by decide +kernel
theorem dX7_init_70 : decode cX7_init 70 = .ok (.putfield 46, 3) := by decide +kernel
theorem dX7_init_73 : decode cX7_init 73 = .ok (.aload_n 0, 1) := by decide +kernel
theorem dX7_init_74 : decode cX7_init 74 = .ok (.iconst 0, 1) := by decide +kernel
theorem dX7_init_75 : decode cX7_init 75 = .ok (.putfield 49, 3) := by decide +kernel
theorem dX7_init_78 : decode cX7_init 78 = .ok (.return_, 1) := by decide +kernel
theorem dX7_look_0 : decode cX7_look 0 = .ok (.aload_n 0, 1) := by decide +kernel
theorem dX7_look_1 : decode cX7_look 1 = .ok (.aload_n 1, 1) := by decide +kernel
theorem dX7_look_2 : decode cX7_look 2 = .ok (.getfield 52, 3) := by decide +kernel
theorem dX7_look_5 : decode cX7_look 5 = .ok (.putfield 9, 3) := by decide +kernel
theorem dX7_look_8 : decode cX7_look 8 = .ok (.aload_n 0, 1) := by decide +kernel
theorem dX7_look_9 : decode cX7_look 9 = .ok (.iconst 0, 1) := by decide +kernel
theorem dX7_look_10 : decode cX7_look 10 = .ok (.putfield 15, 3) := by decide +kernel
theorem dX7_look_13 : decode cX7_look 13 = .ok (.aload_n 0, 1) := by decide +kernel
theorem dX7_look_14 : decode cX7_look 14 = .ok (.iconst 0, 1) := by decide +kernel
theorem dX7_look_15 : decode cX7_look 15 = .ok (.putfield 18, 3) := by decide +kernel
theorem dX7_look_18 : decode cX7_look 18 = .ok (.aload_n 0, 1) := by decide +kernel
theorem dX7_look_19 : decode cX7_look 19 = .ok (.iconst 0, 1) := by decide +kernel
theorem dX7_look_20 : decode cX7_look 20 = .ok (.putfield 21, 3) := by decide +kernel
theorem dX7_look_23 : decode cX7_look 23 = .ok (.iconst 0, 1) := by decide +kernel
theorem dX7_look_24 : decode cX7_look 24 = .ok (.istore_n 3, 1) := by decide +kernel
theorem dX7_look_25 : decode cX7_look 25 = .ok (.iload_n 3, 1) := by decide +kernel
theorem dX7_look_26 : decode cX7_look 26 = .ok (.aload_n 0, 1) := by decide +kernel
theorem dX7_look_27 : decode cX7_look 27 = .ok (.getfield 9, 3) := by decide +kernel
theorem dX7_look_30 : decode cX7_look 30 = .ok (.if_icmp .ge 26, 3) := by decide +kernel
theorem dX7_look_33 : decode cX7_look 33 = .ok (.aload_n 0, 1) := by decide +kernel
theorem dX7_look_34 : decode cX7_look 34 = .ok (.getfield 36, 3) := by decide +kernel
theorem dX7_look_37 : decode cX7_look 37 = .ok (.iload_n 3, 1) := by decide +kernel
theorem dX7_look_38 : decode cX7_look 38 = .ok (.aload_n 1, 1) := by decide +kernel
theorem dX7_look_39 : decode cX7_look 39 = .ok (.iload_n 3, 1) := by decide +kernel
theorem dX7_look_40 : decode cX7_look 40 = .ok (.aload_n 2, 1) := by decide +kernel
theorem dX7_look_41 : decode cX7_look 41 = .ok (.getfield 55, 3) := by decide +kernel
theorem dX7_look_44 : decode cX7_look 44 = .ok (.iload_n 3, 1) := by decide +kernel
theorem dX7_look_45 : decode cX7_look 45 = .ok (.iaload, 1) := by decide +kernel
theorem dX7_look_46 : decode cX7_look 46 = .ok (.invokevirtual 60, 3) := by decide +kernel
theorem dX7_look_49 : decode cX7_look 49 = .ok (.iastore, 1) := by decide +kernel
theorem dX7_look_50 : decode cX7_look 50 = .ok (.iinc 3 1, 3) := by decide +kernel
theorem dX7_look_53 : decode cX7_look 53 = .ok (.goto (-28), 3) := by decide +kernel
theorem dX7_look_56 : decode cX7_look 56 = .ok (.iconst 0, 1) := by decide +kernel
theorem dX7_look_57 : decode cX7_look 57 = .ok (.istore_n 3, 1) := by decide +kernel
theorem dX7_look_58 : decode cX7_look 58 = .ok (.iload_n 3, 1) := by decide +kernel
theorem dX7_look_59 : decode cX7_look 59 = .ok (.aload_n 0, 1) := by decide +kernel
theorem dX7_look_60 : decode cX7_look 60 = .ok (.getfield 9, 3) := by decide +kernel
theorem dX7_look_63 : decode cX7_look 63 = .ok (.if_icmp .ge 90, 3) := by decide +kernel
theorem dX7_look_66 : decode cX7_look 66 = .ok (.aload_n 0, 1) := by decide +kernel
theorem dX7_look_67 : decode cX7_look 67 = .ok (.getfield 40, 3) := by decide +kernel
theorem dX7_look_70 : decode cX7_look 70 = .ok (.iload_n 3, 1) := by decide +kernel
theorem dX7_look_71 : decode cX7_look 71 = .ok (.iconst 0, 1) := by decide +kernel
theorem dX7_look_72 : decode cX7_look 72 = .ok (.iastore, 1) := by decide +kernel
theorem dX7_look_73 : decode cX7_look 73 = .ok (.aload_n 2, 1) := by decide +kernel
theorem dX7_look_74 : decode cX7_look 74 = .ok (.getfield 55, 3) := by decide +kernel
theorem dX7_look_77 : decode cX7_look 77 = .ok (.iload_n 3, 1) := by decide +kernel
theorem dX7_look_78 : decode cX7_look 78 = .ok (.iaload, 1) := by decide +kernel
theorem dX7_look_79 : decode cX7_look 79 = .ok (.iconst (-1), 1) := by decide +kernel
theorem dX7_look_80 : decode cX7_look 80 = .ok (.if_icmp .ne 18, 3) := by decide +kernel
theorem dX7_look_83 : decode cX7_look 83 = .ok (.aload_n 0, 1) := by decide +kernel
theorem dX7_look_84 : decode cX7_look 84 = .ok (.dup, 1) := by decide +kernel
theorem dX7_look_85 : decode cX7_look 85 = .ok (.getfield 15, 3) := by decide +kernel
theorem dX7_look_88 : decode cX7_look 88 = .ok (.iconst 1, 1) := by decide +kernel
theorem dX7_look_89 : decode cX7_look 89 = .ok (.iload_n 3, 1) := by decide +kernel
theorem dX7_look_90 : decode cX7_look 90 = .ok (.ishl, 1) := by decide +kernel
theorem dX7_look_91 : decode cX7_look 91 = .ok (.ior, 1) := by decide +kernel
theorem dX7_look_92 : decode cX7_look 92 = .ok (.putfield 15, 3) := by decide +kernel
theorem dX7_look_95 : decode cX7_look 95 = .ok (.goto 52, 3) := by decide +kernel
theorem dX7_look_98 : decode cX7_look 98 = .ok (.aload_n 2, 1) := by decide +kernel
theorem dX7_look_99 : decode cX7_look 99 = .ok (.aload_n 1, 1) := by decide +kernel
theorem dX7_look_100 : decode cX7_look 100 = .ok (.iload_n 3, 1) := by decide +kernel
theorem dX7_look_101 : decode cX7_look 101 = .ok (.invokevirtual 64, 3) := by decide +kernel
theorem dX7_look_104 : decode cX7_look 104 = .ok (.ifCond .eq 18, 3) := by decide +kernel
theorem dX7_look_107 : decode cX7_look 107 = .ok (.aload_n 0, 1) := by decide +kernel
theorem dX7_look_108 : decode cX7_look 108 = .ok (.dup, 1) := by decide +kernel
theorem dX7_look_109 : decode cX7_look 109 = .ok (.getfield 21, 3) := by decide +kernel
theorem dX7_look_112 : decode cX7_look 112 = .ok (.iconst 1, 1) := by decide +kernel
theorem dX7_look_113 : decode cX7_look 113 = .ok (.iload_n 3, 1) := by decide +kernel
theorem dX7_look_114 : decode cX7_look 114 = .ok (.ishl, 1) := by decide +kernel
theorem dX7_look_115 : decode cX7_look 115 = .ok (.ior, 1) := by decide +kernel
theorem dX7_look_116 : decode cX7_look 116 = .ok (.putfield 21, 3) := by decide +kernel
theorem dX7_look_119 : decode cX7_look 119 = .ok (.goto 28, 3) := by decide +kernel
theorem dX7_look_122 : decode cX7_look 122 = .ok (.aload_n 0, 1) := by decide +kernel
theorem dX7_look_123 : decode cX7_look 123 = .ok (.dup, 1) := by decide +kernel
theorem dX7_look_124 : decode cX7_look 124 = .ok (.getfield 18, 3) := by decide +kernel
theorem dX7_look_127 : decode cX7_look 127 = .ok (.iconst 1, 1) := by decide +kernel
theorem dX7_look_128 : decode cX7_look 128 = .ok (.iload_n 3, 1) := by decide +kernel
theorem dX7_look_129 : decode cX7_look 129 = .ok (.ishl, 1) := by decide +kernel
theorem dX7_look_130 : decode cX7_look 130 = .ok (.ior, 1) := by decide +kernel
theorem dX7_look_131 : decode cX7_look 131 = .ok (.putfield 18, 3) := by decide +kernel
theorem dX7_look_134 : decode cX7_look 134 = .ok (.aload_n 0, 1) := by decide +kernel
theorem dX7_look_135 : decode cX7_look 135 = .ok (.getfield 40, 3) := by decide +kernel
theorem dX7_look_138 : decode cX7_look 138 = .ok (.iload_n 3, 1) := by decide +kernel
theorem dX7_look_139 : decode cX7_look 139 = .ok (.aload_n 0, 1) := by decide +kernel
theorem dX7_look_140 : decode cX7_look 140 = .ok (.aload_n 1, 1) := by decide +kernel
theorem dX7_look_141 : decode cX7_look 141 = .ok (.aload_n 2, 1) := by decide +kernel
theorem dX7_look_142 : decode cX7_look 142 = .ok (.iload_n 3, 1) := by decide +kernel
theorem dX7_look_143 : decode cX7_look 143 = .ok (.invokevirtual 68, 3) := by decide +kernel
theorem dX7_look_146 : decode cX7_look 146 = .ok (.iastore, 1) := by decide +kernel
theorem dX7_look_147 : decode cX7_look 147 = .ok (.iinc 3 1, 3) := by decide +kernel
theorem dX7_look_150 : decode cX7_look 150 = .ok (.goto (-92), 3) := by decide +kernel
theorem dX7_look_153 : decode cX7_look 153 = .ok (.aload_n 0, 1) := by decide +kernel
theorem dX7_look_154 : decode cX7_look 154 = .ok (.invokevirtual 72, 3) := by decide +kernel
theorem dX7_look_157 : decode cX7_look 157 = .ok (.aload_n 0, 1) := by decide +kernel
theorem dX7_look_158 : decode cX7_look 158 = .ok (.aload_n 0, 1) := by decide +kernel
theorem dX7_look_159 : decode cX7_look 159 = .ok (.getfield 18, 3) := by decide +kernel
theorem dX7_look_162 : decode cX7_look 162 = .ok (.aload_n 0, 1) := by decide +kernel
theorem dX7_look_163 : decode cX7_look 163 = .ok (.getfield 21, 3) := by decide +kernel
theorem dX7_look_166 : decode cX7_look 166 = .ok (.iconst (-1), 1) := by decide +kernel
theorem dX7_look_167 : decode cX7_look 167 = .ok (.ixor, 1) := by decide +kernel
theorem dX7_look_168 : decode cX7_look 168 = .ok (.iand, 1) := by decide +kernel
theorem dX7_look_169 : decode cX7_look 169 = .ok (.putfield 24, 3) := by decide +kernel
theorem dX7_look_172 : decode cX7_look 172 = .ok (.aload_n 0, 1) := by decide +kernel
theorem dX7_look_173 : decode cX7_look 173 = .ok (.aload_n 1, 1) := by decide +kernel
theorem dX7_look_174 : decode cX7_look 174 = .ok (.aload_n 2, 1) := by decide +kernel
theorem dX7_look_175 : decode cX7_look 175 = .ok (.invokevirtual 75, 3) := by decide +kernel
theorem dX7_look_178 : decode cX7_look 178 = .ok (.return_, 1) := by decide +kernel
theorem dX7_waitsOf_0 : decode cX7_waitsOf 0 = .ok (.aload_n 1, 1) := by decide +kernel
theorem dX7_waitsOf_1 : decode cX7_waitsOf 1 = .ok (.iload_n 3, 1) := by decide +kernel
theorem dX7_waitsOf_2 : decode cX7_waitsOf 2 = .ok (.aload_n 2, 1) := by decide +kernel
theorem dX7_waitsOf_3 : decode cX7_waitsOf 3 = .ok (.getfield 55, 3) := by decide +kernel
theorem dX7_waitsOf_6 : decode cX7_waitsOf 6 = .ok (.iload_n 3, 1) := by decide +kernel
theorem dX7_waitsOf_7 : decode cX7_waitsOf 7 = .ok (.iaload, 1) := by decide +kernel
theorem dX7_waitsOf_8 : decode cX7_waitsOf 8 = .ok (.invokevirtual 79, 3) := by decide +kernel
theorem dX7_waitsOf_11 : decode cX7_waitsOf 11 = .ok (.istore 4, 2) := by decide +kernel
theorem dX7_waitsOf_13 : decode cX7_waitsOf 13 = .ok (.aload_n 1, 1) := by decide +kernel
theorem dX7_waitsOf_14 : decode cX7_waitsOf 14 = .ok (.iload_n 3, 1) := by decide +kernel
theorem dX7_waitsOf_15 : decode cX7_waitsOf 15 = .ok (.aload_n 2, 1) := by decide +kernel
theorem dX7_waitsOf_16 : decode cX7_waitsOf 16 = .ok (.getfield 55, 3) := by decide +kernel
theorem dX7_waitsOf_19 : decode cX7_waitsOf 19 = .ok (.iload_n 3, 1) := by decide +kernel
theorem dX7_waitsOf_20 : decode cX7_waitsOf 20 = .ok (.iaload, 1) := by decide +kernel
theorem dX7_waitsOf_21 : decode cX7_waitsOf 21 = .ok (.invokevirtual 82, 3) := by decide +kernel
theorem dX7_waitsOf_24 : decode cX7_waitsOf 24 = .ok (.tableswitch 92 1 6 #[40, 92, 52, 64, 92, 76], 40) := by decide +kernel
theorem dX7_waitsOf_64 : decode cX7_waitsOf 64 = .ok (.iconst 1, 1) := by decide +kernel
theorem dX7_waitsOf_65 : decode cX7_waitsOf 65 = .ok (.aload_n 2, 1) := by decide +kernel
theorem dX7_waitsOf_66 : decode cX7_waitsOf 66 = .ok (.getfield 85, 3) := by decide +kernel
theorem dX7_waitsOf_69 : decode cX7_waitsOf 69 = .ok (.iload 4, 2) := by decide +kernel
theorem dX7_waitsOf_71 : decode cX7_waitsOf 71 = .ok (.invokestatic 88, 3) := by decide +kernel
theorem dX7_waitsOf_74 : decode cX7_waitsOf 74 = .ok (.ishl, 1) := by decide +kernel
theorem dX7_waitsOf_75 : decode cX7_waitsOf 75 = .ok (.ireturn, 1) := by decide +kernel
theorem dX7_waitsOf_76 : decode cX7_waitsOf 76 = .ok (.aload_n 0, 1) := by decide +kernel
theorem dX7_waitsOf_77 : decode cX7_waitsOf 77 = .ok (.iload_n 3, 1) := by decide +kernel
theorem dX7_waitsOf_78 : decode cX7_waitsOf 78 = .ok (.iconst 4, 1) := by decide +kernel
theorem dX7_waitsOf_79 : decode cX7_waitsOf 79 = .ok (.iload 4, 2) := by decide +kernel
theorem dX7_waitsOf_81 : decode cX7_waitsOf 81 = .ok (.invokestatic 92, 3) := by decide +kernel
theorem dX7_waitsOf_84 : decode cX7_waitsOf 84 = .ok (.invokevirtual 95, 3) := by decide +kernel
theorem dX7_waitsOf_87 : decode cX7_waitsOf 87 = .ok (.ireturn, 1) := by decide +kernel
theorem dX7_waitsOf_88 : decode cX7_waitsOf 88 = .ok (.aload_n 0, 1) := by decide +kernel
theorem dX7_waitsOf_89 : decode cX7_waitsOf 89 = .ok (.iload_n 3, 1) := by decide +kernel
theorem dX7_waitsOf_90 : decode cX7_waitsOf 90 = .ok (.iconst 3, 1) := by decide +kernel
theorem dX7_waitsOf_91 : decode cX7_waitsOf 91 = .ok (.iload 4, 2) := by decide +kernel
theorem dX7_waitsOf_93 : decode cX7_waitsOf 93 = .ok (.invokestatic 92, 3) := by decide +kernel
theorem dX7_waitsOf_96 : decode cX7_waitsOf 96 = .ok (.invokevirtual 95, 3) := by decide +kernel
theorem dX7_waitsOf_99 : decode cX7_waitsOf 99 = .ok (.ireturn, 1) := by decide +kernel
theorem dX7_waitsOf_100 : decode cX7_waitsOf 100 = .ok (.aload_n 0, 1) := by decide +kernel
theorem dX7_waitsOf_101 : decode cX7_waitsOf 101 = .ok (.iload_n 3, 1) := by decide +kernel
theorem dX7_waitsOf_102 : decode cX7_waitsOf 102 = .ok (.iconst 5, 1) := by decide +kernel
theorem dX7_waitsOf_103 : decode cX7_waitsOf 103 = .ok (.iload_n 3, 1) := by decide +kernel
theorem dX7_waitsOf_104 : decode cX7_waitsOf 104 = .ok (.invokestatic 92, 3) := by decide +kernel
theorem dX7_waitsOf_107 : decode cX7_waitsOf 107 = .ok (.invokevirtual 95, 3) := by decide +kernel
theorem dX7_waitsOf_110 : decode cX7_waitsOf 110 = .ok (.iconst 1, 1) := by decide +kernel
theorem dX7_waitsOf_111 : decode cX7_waitsOf 111 = .ok (.iload 4, 2) := by decide +kernel
theorem dX7_waitsOf_113 : decode cX7_waitsOf 113 = .ok (.ishl, 1) := by decide +kernel
theorem dX7_waitsOf_114 : decode cX7_waitsOf 114 = .ok (.iand, 1) := by decide +kernel
theorem dX7_waitsOf_115 : decode cX7_waitsOf 115 = .ok (.ireturn, 1) := by decide +kernel
theorem dX7_waitsOf_116 : decode cX7_waitsOf 116 = .ok (.iconst 0, 1) := by decide +kernel
theorem dX7_waitsOf_117 : decode cX7_waitsOf 117 = .ok (.ireturn, 1) := by decide +kernel
theorem dX7_whoCan_0 : decode cX7_whoCan 0 = .ok (.iconst 0, 1) := by decide +kernel
theorem dX7_whoCan_1 : decode cX7_whoCan 1 = .ok (.istore_n 3, 1) := by decide +kernel
theorem dX7_whoCan_2 : decode cX7_whoCan 2 = .ok (.iconst 0, 1) := by decide +kernel
theorem dX7_whoCan_3 : decode cX7_whoCan 3 = .ok (.istore 4, 2) := by decide +kernel
theorem dX7_whoCan_5 : decode cX7_whoCan 5 = .ok (.iload 4, 2) := by decide +kernel
theorem dX7_whoCan_7 : decode cX7_whoCan 7 = .ok (.aload_n 0, 1) := by decide +kernel
theorem dX7_whoCan_8 : decode cX7_whoCan 8 = .ok (.getfield 9, 3) := by decide +kernel
theorem dX7_whoCan_11 : decode cX7_whoCan 11 = .ok (.if_icmp .ge 34, 3) := by decide +kernel
theorem dX7_whoCan_14 : decode cX7_whoCan 14 = .ok (.iload 4, 2) := by decide +kernel
theorem dX7_whoCan_16 : decode cX7_whoCan 16 = .ok (.iload_n 1, 1) := by decide +kernel
theorem dX7_whoCan_17 : decode cX7_whoCan 17 = .ok (.if_icmp .eq 22, 3) := by decide +kernel
theorem dX7_whoCan_20 : decode cX7_whoCan 20 = .ok (.aload_n 0, 1) := by decide +kernel
theorem dX7_whoCan_21 : decode cX7_whoCan 21 = .ok (.getfield 36, 3) := by decide +kernel
theorem dX7_whoCan_24 : decode cX7_whoCan 24 = .ok (.iload 4, 2) := by decide +kernel
theorem dX7_whoCan_26 : decode cX7_whoCan 26 = .ok (.iaload, 1) := by decide +kernel
theorem dX7_whoCan_27 : decode cX7_whoCan 27 = .ok (.iload_n 2, 1) := by decide +kernel
theorem dX7_whoCan_28 : decode cX7_whoCan 28 = .ok (.iand, 1) := by decide +kernel
theorem dX7_whoCan_29 : decode cX7_whoCan 29 = .ok (.ifCond .eq 10, 3) := by decide +kernel
theorem dX7_whoCan_32 : decode cX7_whoCan 32 = .ok (.iload_n 3, 1) := by decide +kernel
theorem dX7_whoCan_33 : decode cX7_whoCan 33 = .ok (.iconst 1, 1) := by decide +kernel
theorem dX7_whoCan_34 : decode cX7_whoCan 34 = .ok (.iload 4, 2) := by decide +kernel
theorem dX7_whoCan_36 : decode cX7_whoCan 36 = .ok (.ishl, 1) := by decide +kernel
theorem dX7_whoCan_37 : decode cX7_whoCan 37 = .ok (.ior, 1) := by decide +kernel
theorem dX7_whoCan_38 : decode cX7_whoCan 38 = .ok (.istore_n 3, 1) := by decide +kernel
theorem dX7_whoCan_39 : decode cX7_whoCan 39 = .ok (.iinc 4 1, 3) := by decide +kernel
theorem dX7_whoCan_42 : decode cX7_whoCan 42 = .ok (.goto (-37), 3) := by decide +kernel
theorem dX7_whoCan_45 : decode cX7_whoCan 45 = .ok (.iload_n 3, 1) := by decide +kernel
theorem dX7_whoCan_46 : decode cX7_whoCan 46 = .ok (.ireturn, 1) := by decide +kernel
theorem dX7_spreadFreedom_0 : decode cX7_spreadFreedom 0 = .ok (.iconst 1, 1) := by decide +kernel
theorem dX7_spreadFreedom_1 : decode cX7_spreadFreedom 1 = .ok (.istore_n 1, 1) := by decide +kernel
theorem dX7_spreadFreedom_2 : decode cX7_spreadFreedom 2 = .ok (.iconst 0, 1) := by decide +kernel
theorem dX7_spreadFreedom_3 : decode cX7_spreadFreedom 3 = .ok (.istore_n 2, 1) := by decide +kernel
theorem dX7_spreadFreedom_4 : decode cX7_spreadFreedom 4 = .ok (.iload_n 2, 1) := by decide +kernel
theorem dX7_spreadFreedom_5 : decode cX7_spreadFreedom 5 = .ok (.aload_n 0, 1) := by decide +kernel
theorem dX7_spreadFreedom_6 : decode cX7_spreadFreedom 6 = .ok (.getfield 9, 3) := by decide +kernel
theorem dX7_spreadFreedom_9 : decode cX7_spreadFreedom 9 = .ok (.if_icmp .ge 70, 3) := by decide +kernel
theorem dX7_spreadFreedom_12 : decode cX7_spreadFreedom 12 = .ok (.iload_n 1, 1) := by decide +kernel
theorem dX7_spreadFreedom_13 : decode cX7_spreadFreedom 13 = .ok (.ifCond .eq 66, 3) := by decide +kernel
theorem dX7_spreadFreedom_16 : decode cX7_spreadFreedom 16 = .ok (.iconst 0, 1) := by decide +kernel
theorem dX7_spreadFreedom_17 : decode cX7_spreadFreedom 17 = .ok (.istore_n 1, 1) := by decide +kernel
theorem dX7_spreadFreedom_18 : decode cX7_spreadFreedom 18 = .ok (.iconst 0, 1) := by decide +kernel
theorem dX7_spreadFreedom_19 : decode cX7_spreadFreedom 19 = .ok (.istore_n 3, 1) := by decide +kernel
theorem dX7_spreadFreedom_20 : decode cX7_spreadFreedom 20 = .ok (.iload_n 3, 1) := by decide +kernel
theorem dX7_spreadFreedom_21 : decode cX7_spreadFreedom 21 = .ok (.aload_n 0, 1) := by decide +kernel
theorem dX7_spreadFreedom_22 : decode cX7_spreadFreedom 22 = .ok (.getfield 9, 3) := by decide +kernel
theorem dX7_spreadFreedom_25 : decode cX7_spreadFreedom 25 = .ok (.if_icmp .ge 48, 3) := by decide +kernel
theorem dX7_spreadFreedom_28 : decode cX7_spreadFreedom 28 = .ok (.aload_n 0, 1) := by decide +kernel
theorem dX7_spreadFreedom_29 : decode cX7_spreadFreedom 29 = .ok (.getfield 21, 3) := by decide +kernel
theorem dX7_spreadFreedom_32 : decode cX7_spreadFreedom 32 = .ok (.iload_n 3, 1) := by decide +kernel
theorem dX7_spreadFreedom_33 : decode cX7_spreadFreedom 33 = .ok (.invokestatic 98, 3) := by decide +kernel
theorem dX7_spreadFreedom_36 : decode cX7_spreadFreedom 36 = .ok (.ifCond .ne 31, 3) := by decide +kernel
theorem dX7_spreadFreedom_39 : decode cX7_spreadFreedom 39 = .ok (.aload_n 0, 1) := by decide +kernel
theorem dX7_spreadFreedom_40 : decode cX7_spreadFreedom 40 = .ok (.getfield 40, 3) := by decide +kernel
theorem dX7_spreadFreedom_43 : decode cX7_spreadFreedom 43 = .ok (.iload_n 3, 1) := by decide +kernel
theorem dX7_spreadFreedom_44 : decode cX7_spreadFreedom 44 = .ok (.iaload, 1) := by decide +kernel
theorem dX7_spreadFreedom_45 : decode cX7_spreadFreedom 45 = .ok (.aload_n 0, 1) := by decide +kernel
theorem dX7_spreadFreedom_46 : decode cX7_spreadFreedom 46 = .ok (.getfield 21, 3) := by decide +kernel
theorem dX7_spreadFreedom_49 : decode cX7_spreadFreedom 49 = .ok (.iand, 1) := by decide +kernel
theorem dX7_spreadFreedom_50 : decode cX7_spreadFreedom 50 = .ok (.ifCond .eq 17, 3) := by decide +kernel
theorem dX7_spreadFreedom_53 : decode cX7_spreadFreedom 53 = .ok (.aload_n 0, 1) := by decide +kernel
theorem dX7_spreadFreedom_54 : decode cX7_spreadFreedom 54 = .ok (.dup, 1) := by decide +kernel
theorem dX7_spreadFreedom_55 : decode cX7_spreadFreedom 55 = .ok (.getfield 21, 3) := by decide +kernel
theorem dX7_spreadFreedom_58 : decode cX7_spreadFreedom 58 = .ok (.iconst 1, 1) := by decide +kernel
theorem dX7_spreadFreedom_59 : decode cX7_spreadFreedom 59 = .ok (.iload_n 3, 1) := by decide +kernel
theorem dX7_spreadFreedom_60 : decode cX7_spreadFreedom 60 = .ok (.ishl, 1) := by decide +kernel
theorem dX7_spreadFreedom_61 : decode cX7_spreadFreedom 61 = .ok (.ior, 1) := by decide +kernel
theorem dX7_spreadFreedom_62 : decode cX7_spreadFreedom 62 = .ok (.putfield 21, 3) := by decide +kernel
theorem dX7_spreadFreedom_65 : decode cX7_spreadFreedom 65 = .ok (.iconst 1, 1) := by decide +kernel
theorem dX7_spreadFreedom_66 : decode cX7_spreadFreedom 66 = .ok (.istore_n 1, 1) := by decide +kernel
theorem dX7_spreadFreedom_67 : decode cX7_spreadFreedom 67 = .ok (.iinc 3 1, 3) := by decide +kernel
theorem dX7_spreadFreedom_70 : decode cX7_spreadFreedom 70 = .ok (.goto (-50), 3) := by decide +kernel
theorem dX7_spreadFreedom_73 : decode cX7_spreadFreedom 73 = .ok (.iinc 2 1, 3) := by decide +kernel
theorem dX7_spreadFreedom_76 : decode cX7_spreadFreedom 76 = .ok (.goto (-72), 3) := by decide +kernel
theorem dX7_spreadFreedom_79 : decode cX7_spreadFreedom 79 = .ok (.return_, 1) := by decide +kernel
theorem dX7_findLate_0 : decode cX7_findLate 0 = .ok (.iconst 0, 1) := by decide +kernel
theorem dX7_findLate_1 : decode cX7_findLate 1 = .ok (.istore_n 3, 1) := by decide +kernel
theorem dX7_findLate_2 : decode cX7_findLate 2 = .ok (.aload_n 0, 1) := by decide +kernel
theorem dX7_findLate_3 : decode cX7_findLate 3 = .ok (.iconst 0, 1) := by decide +kernel
theorem dX7_findLate_4 : decode cX7_findLate 4 = .ok (.putfield 30, 3) := by decide +kernel
theorem dX7_findLate_7 : decode cX7_findLate 7 = .ok (.iconst 0, 1) := by decide +kernel
theorem dX7_findLate_8 : decode cX7_findLate 8 = .ok (.istore 4, 2) := by decide +kernel
theorem dX7_findLate_10 : decode cX7_findLate 10 = .ok (.iload 4, 2) := by decide +kernel
theorem dX7_findLate_12 : decode cX7_findLate 12 = .ok (.aload_n 0, 1) := by decide +kernel
theorem dX7_findLate_13 : decode cX7_findLate 13 = .ok (.getfield 9, 3) := by decide +kernel
theorem dX7_findLate_16 : decode cX7_findLate 16 = .ok (.if_icmp .ge 90, 3) := by decide +kernel
theorem dX7_findLate_19 : decode cX7_findLate 19 = .ok (.aload_n 2, 1) := by decide +kernel
theorem dX7_findLate_20 : decode cX7_findLate 20 = .ok (.iload 4, 2) := by decide +kernel
theorem dX7_findLate_22 : decode cX7_findLate 22 = .ok (.invokevirtual 102, 3) := by decide +kernel
theorem dX7_findLate_25 : decode cX7_findLate 25 = .ok (.aload_n 2, 1) := by decide +kernel
theorem dX7_findLate_26 : decode cX7_findLate 26 = .ok (.getfield 106, 3) := by decide +kernel
theorem dX7_findLate_29 : decode cX7_findLate 29 = .ok (.if_icmp .lt 10, 3) := by decide +kernel
theorem dX7_findLate_32 : decode cX7_findLate 32 = .ok (.iload_n 3, 1) := by decide +kernel
theorem dX7_findLate_33 : decode cX7_findLate 33 = .ok (.iconst 1, 1) := by decide +kernel
theorem dX7_findLate_34 : decode cX7_findLate 34 = .ok (.iload 4, 2) := by decide +kernel
theorem dX7_findLate_36 : decode cX7_findLate 36 = .ok (.ishl, 1) := by decide +kernel
theorem dX7_findLate_37 : decode cX7_findLate 37 = .ok (.ior, 1) := by decide +kernel
theorem dX7_findLate_38 : decode cX7_findLate 38 = .ok (.istore_n 3, 1) := by decide +kernel
theorem dX7_findLate_39 : decode cX7_findLate 39 = .ok (.aload_n 1, 1) := by decide +kernel
theorem dX7_findLate_40 : decode cX7_findLate 40 = .ok (.iload 4, 2) := by decide +kernel
theorem dX7_findLate_42 : decode cX7_findLate 42 = .ok (.aload_n 2, 1) := by decide +kernel
theorem dX7_findLate_43 : decode cX7_findLate 43 = .ok (.getfield 55, 3) := by decide +kernel
theorem dX7_findLate_46 : decode cX7_findLate 46 = .ok (.iload 4, 2) := by decide +kernel
theorem dX7_findLate_48 : decode cX7_findLate 48 = .ok (.iaload, 1) := by decide +kernel
theorem dX7_findLate_49 : decode cX7_findLate 49 = .ok (.invokevirtual 82, 3) := by decide +kernel
theorem dX7_findLate_52 : decode cX7_findLate 52 = .ok (.bipush 7, 2) := by decide +kernel
theorem dX7_findLate_54 : decode cX7_findLate 54 = .ok (.if_icmp .ne 7, 3) := by decide +kernel
theorem dX7_findLate_57 : decode cX7_findLate 57 = .ok (.iconst 1, 1) := by decide +kernel
theorem dX7_findLate_58 : decode cX7_findLate 58 = .ok (.goto 4, 3) := by decide +kernel
theorem dX7_findLate_61 : decode cX7_findLate 61 = .ok (.iconst 0, 1) := by decide +kernel
theorem dX7_findLate_62 : decode cX7_findLate 62 = .ok (.istore 5, 2) := by decide +kernel
theorem dX7_findLate_64 : decode cX7_findLate 64 = .ok (.iload 5, 2) := by decide +kernel
theorem dX7_findLate_66 : decode cX7_findLate 66 = .ok (.ifCond .eq 34, 3) := by decide +kernel
theorem dX7_findLate_69 : decode cX7_findLate 69 = .ok (.aload_n 2, 1) := by decide +kernel
theorem dX7_findLate_70 : decode cX7_findLate 70 = .ok (.iload 4, 2) := by decide +kernel
theorem dX7_findLate_72 : decode cX7_findLate 72 = .ok (.invokevirtual 102, 3) := by decide +kernel
theorem dX7_findLate_75 : decode cX7_findLate 75 = .ok (.aload_n 2, 1) := by decide +kernel
theorem dX7_findLate_76 : decode cX7_findLate 76 = .ok (.getfield 106, 3) := by decide +kernel
theorem dX7_findLate_79 : decode cX7_findLate 79 = .ok (.aload_n 2, 1) := by decide +kernel
theorem dX7_findLate_80 : decode cX7_findLate 80 = .ok (.getfield 109, 3) := by decide +kernel
theorem dX7_findLate_83 : decode cX7_findLate 83 = .ok (.iadd, 1) := by decide +kernel
theorem dX7_findLate_84 : decode cX7_findLate 84 = .ok (.if_icmp .lt 16, 3) := by decide +kernel
theorem dX7_findLate_87 : decode cX7_findLate 87 = .ok (.aload_n 0, 1) := by decide +kernel
theorem dX7_findLate_88 : decode cX7_findLate 88 = .ok (.dup, 1) := by decide +kernel
theorem dX7_findLate_89 : decode cX7_findLate 89 = .ok (.getfield 30, 3) := by decide +kernel
theorem dX7_findLate_92 : decode cX7_findLate 92 = .ok (.iconst 1, 1) := by decide +kernel
theorem dX7_findLate_93 : decode cX7_findLate 93 = .ok (.iload 4, 2) := by decide +kernel
theorem dX7_findLate_95 : decode cX7_findLate 95 = .ok (.ishl, 1) := by decide +kernel
theorem dX7_findLate_96 : decode cX7_findLate 96 = .ok (.ior, 1) := by decide +kernel
theorem dX7_findLate_97 : decode cX7_findLate 97 = .ok (.putfield 30, 3) := by decide +kernel
theorem dX7_findLate_100 : decode cX7_findLate 100 = .ok (.iinc 4 1, 3) := by decide +kernel
theorem dX7_findLate_103 : decode cX7_findLate 103 = .ok (.goto (-93), 3) := by decide +kernel
theorem dX7_findLate_106 : decode cX7_findLate 106 = .ok (.aload_n 0, 1) := by decide +kernel
theorem dX7_findLate_107 : decode cX7_findLate 107 = .ok (.aload_n 0, 1) := by decide +kernel
theorem dX7_findLate_108 : decode cX7_findLate 108 = .ok (.getfield 18, 3) := by decide +kernel
theorem dX7_findLate_111 : decode cX7_findLate 111 = .ok (.aload_n 0, 1) := by decide +kernel
theorem dX7_findLate_112 : decode cX7_findLate 112 = .ok (.getfield 24, 3) := by decide +kernel
theorem dX7_findLate_115 : decode cX7_findLate 115 = .ok (.iconst (-1), 1) := by decide +kernel
theorem dX7_findLate_116 : decode cX7_findLate 116 = .ok (.ixor, 1) := by decide +kernel
theorem dX7_findLate_117 : decode cX7_findLate 117 = .ok (.iand, 1) := by decide +kernel
theorem dX7_findLate_118 : decode cX7_findLate 118 = .ok (.iload_n 3, 1) := by decide +kernel
theorem dX7_findLate_119 : decode cX7_findLate 119 = .ok (.iand, 1) := by decide +kernel
theorem dX7_findLate_120 : decode cX7_findLate 120 = .ok (.putfield 27, 3) := by decide +kernel
theorem dX7_findLate_123 : decode cX7_findLate 123 = .ok (.aload_n 0, 1) := by decide +kernel
theorem dX7_findLate_124 : decode cX7_findLate 124 = .ok (.aload_n 0, 1) := by decide +kernel
theorem dX7_findLate_125 : decode cX7_findLate 125 = .ok (.getfield 24, 3) := by decide +kernel
theorem dX7_findLate_128 : decode cX7_findLate 128 = .ok (.iload_n 3, 1) := by decide +kernel
theorem dX7_findLate_129 : decode cX7_findLate 129 = .ok (.iand, 1) := by decide +kernel
theorem dX7_findLate_130 : decode cX7_findLate 130 = .ok (.putfield 33, 3) := by decide +kernel
theorem dX7_findLate_133 : decode cX7_findLate 133 = .ok (.return_, 1) := by decide +kernel
theorem dX7_stallKind_0 : decode cX7_stallKind 0 = .ok (.aload_n 0, 1) := by decide +kernel
theorem dX7_stallKind_1 : decode cX7_stallKind 1 = .ok (.getfield 33, 3) := by decide +kernel
theorem dX7_stallKind_4 : decode cX7_stallKind 4 = .ok (.iload_n 1, 1) := by decide +kernel
theorem dX7_stallKind_5 : decode cX7_stallKind 5 = .ok (.invokestatic 98, 3) := by decide +kernel
theorem dX7_stallKind_8 : decode cX7_stallKind 8 = .ok (.ifCond .eq 5, 3) := by decide +kernel
theorem dX7_stallKind_11 : decode cX7_stallKind 11 = .ok (.iconst 0, 1) := by decide +kernel
theorem dX7_stallKind_12 : decode cX7_stallKind 12 = .ok (.ireturn, 1) := by decide +kernel
theorem dX7_stallKind_13 : decode cX7_stallKind 13 = .ok (.aload_n 0, 1) := by decide +kernel
theorem dX7_stallKind_14 : decode cX7_stallKind 14 = .ok (.getfield 27, 3) := by decide +kernel
theorem dX7_stallKind_17 : decode cX7_stallKind 17 = .ok (.iload_n 1, 1) := by decide +kernel
theorem dX7_stallKind_18 : decode cX7_stallKind 18 = .ok (.invokestatic 98, 3) := by decide +kernel
theorem dX7_stallKind_21 : decode cX7_stallKind 21 = .ok (.ifCond .eq 5, 3) := by decide +kernel
theorem dX7_stallKind_24 : decode cX7_stallKind 24 = .ok (.iconst 1, 1) := by decide +kernel
theorem dX7_stallKind_25 : decode cX7_stallKind 25 = .ok (.ireturn, 1) := by decide +kernel
theorem dX7_stallKind_26 : decode cX7_stallKind 26 = .ok (.aload_n 0, 1) := by decide +kernel
theorem dX7_stallKind_27 : decode cX7_stallKind 27 = .ok (.getfield 30, 3) := by decide +kernel
theorem dX7_stallKind_30 : decode cX7_stallKind 30 = .ok (.iload_n 1, 1) := by decide +kernel
theorem dX7_stallKind_31 : decode cX7_stallKind 31 = .ok (.invokestatic 98, 3) := by decide +kernel
theorem dX7_stallKind_34 : decode cX7_stallKind 34 = .ok (.ifCond .eq 7, 3) := by decide +kernel
theorem dX7_stallKind_37 : decode cX7_stallKind 37 = .ok (.iconst 2, 1) := by decide +kernel
theorem dX7_stallKind_38 : decode cX7_stallKind 38 = .ok (.goto 4, 3) := by decide +kernel
theorem dX7_stallKind_41 : decode cX7_stallKind 41 = .ok (.iconst (-1), 1) := by decide +kernel
theorem dX7_stallKind_42 : decode cX7_stallKind 42 = .ok (.ireturn, 1) := by decide +kernel
theorem dX7_tally_0 : decode cX7_tally 0 = .ok (.iload_n 1, 1) := by decide +kernel
theorem dX7_tally_1 : decode cX7_tally 1 = .ok (.tableswitch 99 1 9 #[51, 99, 99, 99, 59, 67, 75, 83, 91], 51) := by decide +kernel
theorem dX7_tally_52 : decode cX7_tally 52 = .ok (.aload_n 0, 1) := by decide +kernel
theorem dX7_tally_53 : decode cX7_tally 53 = .ok (.getfield 15, 3) := by decide +kernel
theorem dX7_tally_56 : decode cX7_tally 56 = .ok (.invokestatic 112, 3) := by decide +kernel
theorem dX7_tally_59 : decode cX7_tally 59 = .ok (.ireturn, 1) := by decide +kernel
theorem dX7_tally_60 : decode cX7_tally 60 = .ok (.aload_n 0, 1) := by decide +kernel
theorem dX7_tally_61 : decode cX7_tally 61 = .ok (.getfield 18, 3) := by decide +kernel
theorem dX7_tally_64 : decode cX7_tally 64 = .ok (.invokestatic 112, 3) := by decide +kernel
theorem dX7_tally_67 : decode cX7_tally 67 = .ok (.ireturn, 1) := by decide +kernel
theorem dX7_tally_68 : decode cX7_tally 68 = .ok (.aload_n 0, 1) := by decide +kernel
theorem dX7_tally_69 : decode cX7_tally 69 = .ok (.getfield 21, 3) := by decide +kernel
theorem dX7_tally_72 : decode cX7_tally 72 = .ok (.invokestatic 112, 3) := by decide +kernel
theorem dX7_tally_75 : decode cX7_tally 75 = .ok (.ireturn, 1) := by decide +kernel
theorem dX7_tally_76 : decode cX7_tally 76 = .ok (.aload_n 0, 1) := by decide +kernel
theorem dX7_tally_77 : decode cX7_tally 77 = .ok (.getfield 24, 3) := by decide +kernel
theorem dX7_tally_80 : decode cX7_tally 80 = .ok (.invokestatic 112, 3) := by decide +kernel
theorem dX7_tally_83 : decode cX7_tally 83 = .ok (.ireturn, 1) := by decide +kernel
theorem dX7_tally_84 : decode cX7_tally 84 = .ok (.aload_n 0, 1) := by decide +kernel
theorem dX7_tally_85 : decode cX7_tally 85 = .ok (.getfield 27, 3) := by decide +kernel
theorem dX7_tally_88 : decode cX7_tally 88 = .ok (.invokestatic 112, 3) := by decide +kernel
theorem dX7_tally_91 : decode cX7_tally 91 = .ok (.ireturn, 1) := by decide +kernel
theorem dX7_tally_92 : decode cX7_tally 92 = .ok (.aload_n 0, 1) := by decide +kernel
theorem dX7_tally_93 : decode cX7_tally 93 = .ok (.getfield 30, 3) := by decide +kernel
theorem dX7_tally_96 : decode cX7_tally 96 = .ok (.invokestatic 112, 3) := by decide +kernel
theorem dX7_tally_99 : decode cX7_tally 99 = .ok (.ireturn, 1) := by decide +kernel
theorem dX7_tally_100 : decode cX7_tally 100 = .ok (.iconst (-1), 1) := by decide +kernel
theorem dX7_tally_101 : decode cX7_tally 101 = .ok (.ireturn, 1) := by decide +kernel
theorem dX7_neighbour_0 : decode cX7_neighbour 0 = .ok (.iconst 1, 1) := by decide +kernel
theorem dX7_neighbour_1 : decode cX7_neighbour 1 = .ok (.istore_n 2, 1) := by decide +kernel
theorem dX7_neighbour_2 : decode cX7_neighbour 2 = .ok (.iload_n 2, 1) := by decide +kernel
theorem dX7_neighbour_3 : decode cX7_neighbour 3 = .ok (.aload_n 0, 1) := by decide +kernel
theorem dX7_neighbour_4 : decode cX7_neighbour 4 = .ok (.getfield 9, 3) := by decide +kernel
theorem dX7_neighbour_7 : decode cX7_neighbour 7 = .ok (.if_icmp .ge 58, 3) := by decide +kernel
theorem dX7_neighbour_10 : decode cX7_neighbour 10 = .ok (.iload_n 1, 1) := by decide +kernel
theorem dX7_neighbour_11 : decode cX7_neighbour 11 = .ok (.iload_n 2, 1) := by decide +kernel
theorem dX7_neighbour_12 : decode cX7_neighbour 12 = .ok (.iadd, 1) := by decide +kernel
theorem dX7_neighbour_13 : decode cX7_neighbour 13 = .ok (.aload_n 0, 1) := by decide +kernel
theorem dX7_neighbour_14 : decode cX7_neighbour 14 = .ok (.getfield 9, 3) := by decide +kernel
theorem dX7_neighbour_17 : decode cX7_neighbour 17 = .ok (.if_icmp .ge 9, 3) := by decide +kernel
theorem dX7_neighbour_20 : decode cX7_neighbour 20 = .ok (.iload_n 1, 1) := by decide +kernel
theorem dX7_neighbour_21 : decode cX7_neighbour 21 = .ok (.iload_n 2, 1) := by decide +kernel
theorem dX7_neighbour_22 : decode cX7_neighbour 22 = .ok (.iadd, 1) := by decide +kernel
theorem dX7_neighbour_23 : decode cX7_neighbour 23 = .ok (.goto 11, 3) := by decide +kernel
theorem dX7_neighbour_26 : decode cX7_neighbour 26 = .ok (.iload_n 1, 1) := by decide +kernel
theorem dX7_neighbour_27 : decode cX7_neighbour 27 = .ok (.iload_n 2, 1) := by decide +kernel
theorem dX7_neighbour_28 : decode cX7_neighbour 28 = .ok (.iadd, 1) := by decide +kernel
theorem dX7_neighbour_29 : decode cX7_neighbour 29 = .ok (.aload_n 0, 1) := by decide +kernel
theorem dX7_neighbour_30 : decode cX7_neighbour 30 = .ok (.getfield 9, 3) := by decide +kernel
theorem dX7_neighbour_33 : decode cX7_neighbour 33 = .ok (.isub, 1) := by decide +kernel
theorem dX7_neighbour_34 : decode cX7_neighbour 34 = .ok (.istore_n 3, 1) := by decide +kernel
theorem dX7_neighbour_35 : decode cX7_neighbour 35 = .ok (.aload_n 0, 1) := by decide +kernel
theorem dX7_neighbour_36 : decode cX7_neighbour 36 = .ok (.getfield 15, 3) := by decide +kernel
theorem dX7_neighbour_39 : decode cX7_neighbour 39 = .ok (.iload_n 3, 1) := by decide +kernel
theorem dX7_neighbour_40 : decode cX7_neighbour 40 = .ok (.invokestatic 98, 3) := by decide +kernel
theorem dX7_neighbour_43 : decode cX7_neighbour 43 = .ok (.ifCond .ne 16, 3) := by decide +kernel
theorem dX7_neighbour_46 : decode cX7_neighbour 46 = .ok (.aload_n 0, 1) := by decide +kernel
theorem dX7_neighbour_47 : decode cX7_neighbour 47 = .ok (.getfield 24, 3) := by decide +kernel
theorem dX7_neighbour_50 : decode cX7_neighbour 50 = .ok (.iload_n 3, 1) := by decide +kernel
theorem dX7_neighbour_51 : decode cX7_neighbour 51 = .ok (.invokestatic 98, 3) := by decide +kernel
theorem dX7_neighbour_54 : decode cX7_neighbour 54 = .ok (.ifCond .ne 5, 3) := by decide +kernel
theorem dX7_neighbour_57 : decode cX7_neighbour 57 = .ok (.iload_n 3, 1) := by decide +kernel
theorem dX7_neighbour_58 : decode cX7_neighbour 58 = .ok (.ireturn, 1) := by decide +kernel
theorem dX7_neighbour_59 : decode cX7_neighbour 59 = .ok (.iinc 2 1, 3) := by decide +kernel
theorem dX7_neighbour_62 : decode cX7_neighbour 62 = .ok (.goto (-60), 3) := by decide +kernel
theorem dX7_neighbour_65 : decode cX7_neighbour 65 = .ok (.iconst (-1), 1) := by decide +kernel
theorem dX7_neighbour_66 : decode cX7_neighbour 66 = .ok (.ireturn, 1) := by decide +kernel
theorem dX7_walk_0 : decode cX7_walk 0 = .ok (.aload_n 0, 1) := by decide +kernel
theorem dX7_walk_1 : decode cX7_walk 1 = .ok (.iconst 0, 1) := by decide +kernel
theorem dX7_walk_2 : decode cX7_walk 2 = .ok (.putfield 46, 3) := by decide +kernel
theorem dX7_walk_5 : decode cX7_walk 5 = .ok (.aload_n 0, 1) := by decide +kernel
theorem dX7_walk_6 : decode cX7_walk 6 = .ok (.iconst 0, 1) := by decide +kernel
theorem dX7_walk_7 : decode cX7_walk 7 = .ok (.putfield 49, 3) := by decide +kernel
theorem dX7_walk_10 : decode cX7_walk 10 = .ok (.iload_n 1, 1) := by decide +kernel
theorem dX7_walk_11 : decode cX7_walk 11 = .ok (.istore_n 2, 1) := by decide +kernel
theorem dX7_walk_12 : decode cX7_walk 12 = .ok (.iconst 0, 1) := by decide +kernel
theorem dX7_walk_13 : decode cX7_walk 13 = .ok (.istore_n 3, 1) := by decide +kernel
theorem dX7_walk_14 : decode cX7_walk 14 = .ok (.iload_n 3, 1) := by decide +kernel
theorem dX7_walk_15 : decode cX7_walk 15 = .ok (.bipush 8, 2) := by decide +kernel
theorem dX7_walk_17 : decode cX7_walk 17 = .ok (.if_icmp .ge 70, 3) := by decide +kernel
theorem dX7_walk_20 : decode cX7_walk 20 = .ok (.iload_n 2, 1) := by decide +kernel
theorem dX7_walk_21 : decode cX7_walk 21 = .ok (.iconst (-1), 1) := by decide +kernel
theorem dX7_walk_22 : decode cX7_walk 22 = .ok (.if_icmp .eq 65, 3) := by decide +kernel
theorem dX7_walk_25 : decode cX7_walk 25 = .ok (.aload_n 0, 1) := by decide +kernel
theorem dX7_walk_26 : decode cX7_walk 26 = .ok (.getfield 43, 3) := by decide +kernel
theorem dX7_walk_29 : decode cX7_walk 29 = .ok (.iload_n 3, 1) := by decide +kernel
theorem dX7_walk_30 : decode cX7_walk 30 = .ok (.iload_n 2, 1) := by decide +kernel
theorem dX7_walk_31 : decode cX7_walk 31 = .ok (.iastore, 1) := by decide +kernel
theorem dX7_walk_32 : decode cX7_walk 32 = .ok (.aload_n 0, 1) := by decide +kernel
theorem dX7_walk_33 : decode cX7_walk 33 = .ok (.iload_n 3, 1) := by decide +kernel
theorem dX7_walk_34 : decode cX7_walk 34 = .ok (.iconst 1, 1) := by decide +kernel
theorem dX7_walk_35 : decode cX7_walk 35 = .ok (.iadd, 1) := by decide +kernel
theorem dX7_walk_36 : decode cX7_walk 36 = .ok (.putfield 46, 3) := by decide +kernel
theorem dX7_walk_39 : decode cX7_walk 39 = .ok (.aload_n 0, 1) := by decide +kernel
theorem dX7_walk_40 : decode cX7_walk 40 = .ok (.getfield 40, 3) := by decide +kernel
theorem dX7_walk_43 : decode cX7_walk 43 = .ok (.iload_n 2, 1) := by decide +kernel
theorem dX7_walk_44 : decode cX7_walk 44 = .ok (.invokestatic 88, 3) := by decide +kernel
theorem dX7_walk_47 : decode cX7_walk 47 = .ok (.invokestatic 117, 3) := by decide +kernel
theorem dX7_walk_50 : decode cX7_walk 50 = .ok (.istore 4, 2) := by decide +kernel
theorem dX7_walk_52 : decode cX7_walk 52 = .ok (.aload_n 0, 1) := by decide +kernel
theorem dX7_walk_53 : decode cX7_walk 53 = .ok (.aload_n 0, 1) := by decide +kernel
theorem dX7_walk_54 : decode cX7_walk 54 = .ok (.getfield 46, 3) := by decide +kernel
theorem dX7_walk_57 : decode cX7_walk 57 = .ok (.aload_n 0, 1) := by decide +kernel
theorem dX7_walk_58 : decode cX7_walk 58 = .ok (.iload 4, 2) := by decide +kernel
theorem dX7_walk_60 : decode cX7_walk 60 = .ok (.invokevirtual 120, 3) := by decide +kernel
theorem dX7_walk_63 : decode cX7_walk 63 = .ok (.isub, 1) := by decide +kernel
theorem dX7_walk_64 : decode cX7_walk 64 = .ok (.putfield 49, 3) := by decide +kernel
theorem dX7_walk_67 : decode cX7_walk 67 = .ok (.aload_n 0, 1) := by decide +kernel
theorem dX7_walk_68 : decode cX7_walk 68 = .ok (.getfield 49, 3) := by decide +kernel
theorem dX7_walk_71 : decode cX7_walk 71 = .ok (.ifCond .le 7, 3) := by decide +kernel
theorem dX7_walk_74 : decode cX7_walk 74 = .ok (.iconst (-1), 1) := by decide +kernel
theorem dX7_walk_75 : decode cX7_walk 75 = .ok (.goto 5, 3) := by decide +kernel
theorem dX7_walk_78 : decode cX7_walk 78 = .ok (.iload 4, 2) := by decide +kernel
theorem dX7_walk_80 : decode cX7_walk 80 = .ok (.istore_n 2, 1) := by decide +kernel
theorem dX7_walk_81 : decode cX7_walk 81 = .ok (.iinc 3 1, 3) := by decide +kernel
theorem dX7_walk_84 : decode cX7_walk 84 = .ok (.goto (-70), 3) := by decide +kernel
theorem dX7_walk_87 : decode cX7_walk 87 = .ok (.return_, 1) := by decide +kernel
theorem dX7_pathPlace_0 : decode cX7_pathPlace 0 = .ok (.iconst 0, 1) := by decide +kernel
theorem dX7_pathPlace_1 : decode cX7_pathPlace 1 = .ok (.istore_n 2, 1) := by decide +kernel
theorem dX7_pathPlace_2 : decode cX7_pathPlace 2 = .ok (.iload_n 2, 1) := by decide +kernel
theorem dX7_pathPlace_3 : decode cX7_pathPlace 3 = .ok (.aload_n 0, 1) := by decide +kernel
theorem dX7_pathPlace_4 : decode cX7_pathPlace 4 = .ok (.getfield 46, 3) := by decide +kernel
theorem dX7_pathPlace_7 : decode cX7_pathPlace 7 = .ok (.if_icmp .ge 21, 3) := by decide +kernel
theorem dX7_pathPlace_10 : decode cX7_pathPlace 10 = .ok (.aload_n 0, 1) := by decide +kernel
theorem dX7_pathPlace_11 : decode cX7_pathPlace 11 = .ok (.getfield 43, 3) := by decide +kernel
theorem dX7_pathPlace_14 : decode cX7_pathPlace 14 = .ok (.iload_n 2, 1) := by decide +kernel
theorem dX7_pathPlace_15 : decode cX7_pathPlace 15 = .ok (.iaload, 1) := by decide +kernel
theorem dX7_pathPlace_16 : decode cX7_pathPlace 16 = .ok (.iload_n 1, 1) := by decide +kernel
theorem dX7_pathPlace_17 : decode cX7_pathPlace 17 = .ok (.if_icmp .ne 5, 3) := by decide +kernel
theorem dX7_pathPlace_20 : decode cX7_pathPlace 20 = .ok (.iload_n 2, 1) := by decide +kernel
theorem dX7_pathPlace_21 : decode cX7_pathPlace 21 = .ok (.ireturn, 1) := by decide +kernel
theorem dX7_pathPlace_22 : decode cX7_pathPlace 22 = .ok (.iinc 2 1, 3) := by decide +kernel
theorem dX7_pathPlace_25 : decode cX7_pathPlace 25 = .ok (.goto (-23), 3) := by decide +kernel
theorem dX7_pathPlace_28 : decode cX7_pathPlace 28 = .ok (.aload_n 0, 1) := by decide +kernel
theorem dX7_pathPlace_29 : decode cX7_pathPlace 29 = .ok (.getfield 46, 3) := by decide +kernel
theorem dX7_pathPlace_32 : decode cX7_pathPlace 32 = .ok (.ireturn, 1) := by decide +kernel
theorem dX7_leastOf_0 : decode cX7_leastOf 0 = .ok (.iload_n 0, 1) := by decide +kernel
theorem dX7_leastOf_1 : decode cX7_leastOf 1 = .ok (.ifCond .gt 7, 3) := by decide +kernel
theorem dX7_leastOf_4 : decode cX7_leastOf 4 = .ok (.iconst (-1), 1) := by decide +kernel
theorem dX7_leastOf_5 : decode cX7_leastOf 5 = .ok (.goto 7, 3) := by decide +kernel
theorem dX7_leastOf_8 : decode cX7_leastOf 8 = .ok (.iload_n 0, 1) := by decide +kernel
theorem dX7_leastOf_9 : decode cX7_leastOf 9 = .ok (.invokestatic 123, 3) := by decide +kernel
theorem dX7_leastOf_12 : decode cX7_leastOf 12 = .ok (.ireturn, 1) := by decide +kernel
theorem dX8_init_0 : decode cX8_init 0 = .ok (.aload_n 0, 1) := by decide +kernel
theorem dX8_init_1 : decode cX8_init 1 = .ok (.invokespecial 3, 3) := by decide +kernel
theorem dX8_init_4 : decode cX8_init 4 = .ok (.aload_n 0, 1) := by decide +kernel
theorem dX8_init_5 : decode cX8_init 5 = .ok (.new 9, 3) := by decide +kernel
theorem dX8_init_8 : decode cX8_init 8 = .ok (.dup, 1) := by decide +kernel
theorem dX8_init_9 : decode cX8_init 9 = .ok (.invokespecial 11, 3) := by decide +kernel
theorem dX8_init_12 : decode cX8_init 12 = .ok (.putfield 12, 3) := by decide +kernel
theorem dX8_init_15 : decode cX8_init 15 = .ok (.aload_n 0, 1) := by decide +kernel
theorem dX8_init_16 : decode cX8_init 16 = .ok (.new 18, 3) := by decide +kernel
theorem dX8_init_19 : decode cX8_init 19 = .ok (.dup, 1) := by decide +kernel
theorem dX8_init_20 : decode cX8_init 20 = .ok (.invokespecial 20, 3) := by decide +kernel
theorem dX8_init_23 : decode cX8_init 23 = .ok (.putfield 21, 3) := by decide +kernel
theorem dX8_init_26 : decode cX8_init 26 = .ok (.aload_n 0, 1) := by decide +kernel
theorem dX8_init_27 : decode cX8_init 27 = .ok (.new 25, 3) := by decide +kernel
theorem dX8_init_30 : decode cX8_init 30 = .ok (.dup, 1) := by decide +kernel
theorem dX8_init_31 : decode cX8_init 31 = .ok (.invokespecial 27, 3) := by decide +kernel
theorem dX8_init_34 : decode cX8_init 34 = .ok (.putfield 28, 3) := by decide +kernel
theorem dX8_init_37 : decode cX8_init 37 = .ok (.aload_n 0, 1) := by decide +kernel
theorem dX8_init_38 : decode cX8_init 38 = .ok (.new 32, 3) := by decide +kernel
theorem dX8_init_41 : decode cX8_init 41 = .ok (.dup, 1) := by decide +kernel
theorem dX8_init_42 : decode cX8_init 42 = .ok (.invokespecial 34, 3) := by decide +kernel
theorem dX8_init_45 : decode cX8_init 45 = .ok (.putfield 35, 3) := by decide +kernel
theorem dX8_init_48 : decode cX8_init 48 = .ok (.aload_n 0, 1) := by decide +kernel
theorem dX8_init_49 : decode cX8_init 49 = .ok (.iconst 0, 1) := by decide +kernel
theorem dX8_init_50 : decode cX8_init 50 = .ok (.putfield 39, 3) := by decide +kernel
theorem dX8_init_53 : decode cX8_init 53 = .ok (.aload_n 0, 1) := by decide +kernel
theorem dX8_init_54 : decode cX8_init 54 = .ok (.iconst (-1), 1) := by decide +kernel
theorem dX8_init_55 : decode cX8_init 55 = .ok (.putfield 43, 3) := by decide +kernel
theorem dX8_init_58 : decode cX8_init 58 = .ok (.return_, 1) := by decide +kernel
theorem dX8_take_0 : decode cX8_take 0 = .ok (.aload_n 0, 1) := by decide +kernel
theorem dX8_take_1 : decode cX8_take 1 = .ok (.getfield 12, 3) := by decide +kernel
theorem dX8_take_4 : decode cX8_take 4 = .ok (.aload_n 1, 1) := by decide +kernel
theorem dX8_take_5 : decode cX8_take 5 = .ok (.getfield 12, 3) := by decide +kernel
theorem dX8_take_8 : decode cX8_take 8 = .ok (.invokevirtual 46, 3) := by decide +kernel
theorem dX8_take_11 : decode cX8_take 11 = .ok (.aload_n 0, 1) := by decide +kernel
theorem dX8_take_12 : decode cX8_take 12 = .ok (.getfield 21, 3) := by decide +kernel
theorem dX8_take_15 : decode cX8_take 15 = .ok (.aload_n 1, 1) := by decide +kernel
theorem dX8_take_16 : decode cX8_take 16 = .ok (.getfield 21, 3) := by decide +kernel
theorem dX8_take_19 : decode cX8_take 19 = .ok (.invokevirtual 50, 3) := by decide +kernel
theorem dX8_take_22 : decode cX8_take 22 = .ok (.aload_n 0, 1) := by decide +kernel
theorem dX8_take_23 : decode cX8_take 23 = .ok (.getfield 28, 3) := by decide +kernel
theorem dX8_take_26 : decode cX8_take 26 = .ok (.aload_n 1, 1) := by decide +kernel
theorem dX8_take_27 : decode cX8_take 27 = .ok (.getfield 28, 3) := by decide +kernel
theorem dX8_take_30 : decode cX8_take 30 = .ok (.invokevirtual 53, 3) := by decide +kernel
theorem dX8_take_33 : decode cX8_take 33 = .ok (.aload_n 0, 1) := by decide +kernel
theorem dX8_take_34 : decode cX8_take 34 = .ok (.getfield 35, 3) := by decide +kernel
theorem dX8_take_37 : decode cX8_take 37 = .ok (.aload_n 1, 1) := by decide +kernel
theorem dX8_take_38 : decode cX8_take 38 = .ok (.getfield 35, 3) := by decide +kernel
theorem dX8_take_41 : decode cX8_take 41 = .ok (.invokevirtual 56, 3) := by decide +kernel
theorem dX8_take_44 : decode cX8_take 44 = .ok (.aload_n 0, 1) := by decide +kernel
theorem dX8_take_45 : decode cX8_take 45 = .ok (.aload_n 1, 1) := by decide +kernel
theorem dX8_take_46 : decode cX8_take 46 = .ok (.getfield 39, 3) := by decide +kernel
theorem dX8_take_49 : decode cX8_take 49 = .ok (.putfield 39, 3) := by decide +kernel
theorem dX8_take_52 : decode cX8_take 52 = .ok (.aload_n 0, 1) := by decide +kernel
theorem dX8_take_53 : decode cX8_take 53 = .ok (.aload_n 1, 1) := by decide +kernel
theorem dX8_take_54 : decode cX8_take 54 = .ok (.getfield 43, 3) := by decide +kernel
theorem dX8_take_57 : decode cX8_take 57 = .ok (.putfield 43, 3) := by decide +kernel
theorem dX8_take_60 : decode cX8_take 60 = .ok (.return_, 1) := by decide +kernel
