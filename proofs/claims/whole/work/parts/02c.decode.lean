theorem d_M_init_162 : decode b_M_init 162 = .ok (.newarray .int, 2) := by decide +kernel
theorem d_M_init_164 : decode b_M_init 164 = .ok (.putfield 69, 3) := by decide +kernel
theorem d_M_init_167 : decode b_M_init 167 = .ok (.iconst 0, 1) := by decide +kernel
theorem d_M_init_168 : decode b_M_init 168 = .ok (.istore_n 1, 1) := by decide +kernel
theorem d_M_init_169 : decode b_M_init 169 = .ok (.iload_n 1, 1) := by decide +kernel
theorem d_M_init_170 : decode b_M_init 170 = .ok (.sipush 240, 3) := by decide +kernel
theorem d_M_init_173 : decode b_M_init 173 = .ok (.if_icmp .ge 24, 3) := by decide +kernel
theorem d_M_init_176 : decode b_M_init 176 = .ok (.aload_n 0, 1) := by decide +kernel
theorem d_M_init_177 : decode b_M_init 177 = .ok (.getfield 33, 3) := by decide +kernel
theorem d_M_init_180 : decode b_M_init 180 = .ok (.iload_n 1, 1) := by decide +kernel
theorem d_M_init_181 : decode b_M_init 181 = .ok (.iconst (-1), 1) := by decide +kernel
theorem d_M_init_182 : decode b_M_init 182 = .ok (.iastore, 1) := by decide +kernel
theorem d_M_init_183 : decode b_M_init 183 = .ok (.aload_n 0, 1) := by decide +kernel
theorem d_M_init_184 : decode b_M_init 184 = .ok (.getfield 42, 3) := by decide +kernel
theorem d_M_init_187 : decode b_M_init 187 = .ok (.iload_n 1, 1) := by decide +kernel
theorem d_M_init_188 : decode b_M_init 188 = .ok (.bipush (-2), 2) := by decide +kernel
theorem d_M_init_190 : decode b_M_init 190 = .ok (.iastore, 1) := by decide +kernel
theorem d_M_init_191 : decode b_M_init 191 = .ok (.iinc 1 1, 3) := by decide +kernel
theorem d_M_init_194 : decode b_M_init 194 = .ok (.goto (-25), 3) := by decide +kernel
theorem d_M_init_197 : decode b_M_init 197 = .ok (.iconst 0, 1) := by decide +kernel
theorem d_M_init_198 : decode b_M_init 198 = .ok (.istore_n 1, 1) := by decide +kernel
theorem d_M_init_199 : decode b_M_init 199 = .ok (.iload_n 1, 1) := by decide +kernel
theorem d_M_init_200 : decode b_M_init 200 = .ok (.bipush 60, 2) := by decide +kernel
theorem d_M_init_202 : decode b_M_init 202 = .ok (.if_icmp .ge 30, 3) := by decide +kernel
theorem d_M_init_205 : decode b_M_init 205 = .ok (.aload_n 0, 1) := by decide +kernel
theorem d_M_init_206 : decode b_M_init 206 = .ok (.getfield 45, 3) := by decide +kernel
theorem d_M_init_209 : decode b_M_init 209 = .ok (.iload_n 1, 1) := by decide +kernel
theorem d_M_init_210 : decode b_M_init 210 = .ok (.iconst (-1), 1) := by decide +kernel
theorem d_M_init_211 : decode b_M_init 211 = .ok (.iastore, 1) := by decide +kernel
theorem d_M_init_212 : decode b_M_init 212 = .ok (.aload_n 0, 1) := by decide +kernel
theorem d_M_init_213 : decode b_M_init 213 = .ok (.getfield 54, 3) := by decide +kernel
theorem d_M_init_216 : decode b_M_init 216 = .ok (.iload_n 1, 1) := by decide +kernel
theorem d_M_init_217 : decode b_M_init 217 = .ok (.iconst (-1), 1) := by decide +kernel
theorem d_M_init_218 : decode b_M_init 218 = .ok (.iastore, 1) := by decide +kernel
theorem d_M_init_219 : decode b_M_init 219 = .ok (.aload_n 0, 1) := by decide +kernel
theorem d_M_init_220 : decode b_M_init 220 = .ok (.getfield 57, 3) := by decide +kernel
theorem d_M_init_223 : decode b_M_init 223 = .ok (.iload_n 1, 1) := by decide +kernel
theorem d_M_init_224 : decode b_M_init 224 = .ok (.iconst (-1), 1) := by decide +kernel
theorem d_M_init_225 : decode b_M_init 225 = .ok (.iastore, 1) := by decide +kernel
theorem d_M_init_226 : decode b_M_init 226 = .ok (.iinc 1 1, 3) := by decide +kernel
theorem d_M_init_229 : decode b_M_init 229 = .ok (.goto (-30), 3) := by decide +kernel
theorem d_M_init_232 : decode b_M_init 232 = .ok (.return_, 1) := by decide +kernel
theorem d_M_isDay_0 : decode b_M_isDay 0 = .ok (.iload_n 0, 1) := by decide +kernel
theorem d_M_isDay_1 : decode b_M_isDay 1 = .ok (.iconst 0, 1) := by decide +kernel
theorem d_M_isDay_2 : decode b_M_isDay 2 = .ok (.ldc 80, 2) := by decide +kernel
theorem d_M_isDay_4 : decode b_M_isDay 4 = .ok (.invokestatic 76, 3) := by decide +kernel
theorem d_M_isDay_7 : decode b_M_isDay 7 = .ok (.ireturn, 1) := by decide +kernel
theorem d_M_isDue_0 : decode b_M_isDue 0 = .ok (.aload_n 0, 1) := by decide +kernel
theorem d_M_isDue_1 : decode b_M_isDue 1 = .ok (.iload_n 1, 1) := by decide +kernel
theorem d_M_isDue_2 : decode b_M_isDue 2 = .ok (.iload_n 2, 1) := by decide +kernel
theorem d_M_isDue_3 : decode b_M_isDue 3 = .ok (.invokevirtual 163, 3) := by decide +kernel
theorem d_M_isDue_6 : decode b_M_isDue 6 = .ok (.istore_n 3, 1) := by decide +kernel
theorem d_M_isDue_7 : decode b_M_isDue 7 = .ok (.aload_n 0, 1) := by decide +kernel
theorem d_M_isDue_8 : decode b_M_isDue 8 = .ok (.getfield 54, 3) := by decide +kernel
theorem d_M_isDue_11 : decode b_M_isDue 11 = .ok (.iload_n 1, 1) := by decide +kernel
theorem d_M_isDue_12 : decode b_M_isDue 12 = .ok (.iaload, 1) := by decide +kernel
theorem d_M_isDue_13 : decode b_M_isDue 13 = .ok (.ifCond .ge 26, 3) := by decide +kernel
theorem d_M_isDue_16 : decode b_M_isDue 16 = .ok (.iload_n 3, 1) := by decide +kernel
theorem d_M_isDue_17 : decode b_M_isDue 17 = .ok (.ifCond .lt 22, 3) := by decide +kernel
theorem d_M_isDue_20 : decode b_M_isDue 20 = .ok (.iload_n 3, 1) := by decide +kernel
theorem d_M_isDue_21 : decode b_M_isDue 21 = .ok (.iload_n 2, 1) := by decide +kernel
theorem d_M_isDue_22 : decode b_M_isDue 22 = .ok (.if_icmp .gt 17, 3) := by decide +kernel
theorem d_M_isDue_25 : decode b_M_isDue 25 = .ok (.aload_n 0, 1) := by decide +kernel
theorem d_M_isDue_26 : decode b_M_isDue 26 = .ok (.getfield 45, 3) := by decide +kernel
theorem d_M_isDue_29 : decode b_M_isDue 29 = .ok (.iload_n 1, 1) := by decide +kernel
theorem d_M_isDue_30 : decode b_M_isDue 30 = .ok (.iaload, 1) := by decide +kernel
theorem d_M_isDue_31 : decode b_M_isDue 31 = .ok (.iload_n 2, 1) := by decide +kernel
theorem d_M_isDue_32 : decode b_M_isDue 32 = .ok (.if_icmp .ge 7, 3) := by decide +kernel
theorem d_M_isDue_35 : decode b_M_isDue 35 = .ok (.iconst 1, 1) := by decide +kernel
theorem d_M_isDue_36 : decode b_M_isDue 36 = .ok (.goto 4, 3) := by decide +kernel
theorem d_M_isDue_39 : decode b_M_isDue 39 = .ok (.iconst 0, 1) := by decide +kernel
theorem d_M_isDue_40 : decode b_M_isDue 40 = .ok (.ireturn, 1) := by decide +kernel
theorem d_M_isHeld_0 : decode b_M_isHeld 0 = .ok (.iconst 0, 1) := by decide +kernel
theorem d_M_isHeld_1 : decode b_M_isHeld 1 = .ok (.istore_n 3, 1) := by decide +kernel
theorem d_M_isHeld_2 : decode b_M_isHeld 2 = .ok (.iconst 4, 1) := by decide +kernel
theorem d_M_isHeld_3 : decode b_M_isHeld 3 = .ok (.iload_n 1, 1) := by decide +kernel
theorem d_M_isHeld_4 : decode b_M_isHeld 4 = .ok (.imul, 1) := by decide +kernel
theorem d_M_isHeld_5 : decode b_M_isHeld 5 = .ok (.istore 4, 2) := by decide +kernel
theorem d_M_isHeld_7 : decode b_M_isHeld 7 = .ok (.iload 4, 2) := by decide +kernel
theorem d_M_isHeld_9 : decode b_M_isHeld 9 = .ok (.iconst 4, 1) := by decide +kernel
theorem d_M_isHeld_10 : decode b_M_isHeld 10 = .ok (.iload_n 1, 1) := by decide +kernel
theorem d_M_isHeld_11 : decode b_M_isHeld 11 = .ok (.imul, 1) := by decide +kernel
theorem d_M_isHeld_12 : decode b_M_isHeld 12 = .ok (.iconst 4, 1) := by decide +kernel
theorem d_M_isHeld_13 : decode b_M_isHeld 13 = .ok (.iadd, 1) := by decide +kernel
theorem d_M_isHeld_14 : decode b_M_isHeld 14 = .ok (.if_icmp .ge 41, 3) := by decide +kernel
theorem d_M_isHeld_17 : decode b_M_isHeld 17 = .ok (.iload_n 3, 1) := by decide +kernel
theorem d_M_isHeld_18 : decode b_M_isHeld 18 = .ok (.ifCond .ne 25, 3) := by decide +kernel
theorem d_M_isHeld_21 : decode b_M_isHeld 21 = .ok (.aload_n 0, 1) := by decide +kernel
theorem d_M_isHeld_22 : decode b_M_isHeld 22 = .ok (.getfield 42, 3) := by decide +kernel
theorem d_M_isHeld_25 : decode b_M_isHeld 25 = .ok (.iload 4, 2) := by decide +kernel
theorem d_M_isHeld_27 : decode b_M_isHeld 27 = .ok (.iaload, 1) := by decide +kernel
theorem d_M_isHeld_28 : decode b_M_isHeld 28 = .ok (.iconst (-1), 1) := by decide +kernel
theorem d_M_isHeld_29 : decode b_M_isHeld 29 = .ok (.if_icmp .eq 14, 3) := by decide +kernel
theorem d_M_isHeld_32 : decode b_M_isHeld 32 = .ok (.aload_n 0, 1) := by decide +kernel
theorem d_M_isHeld_33 : decode b_M_isHeld 33 = .ok (.getfield 42, 3) := by decide +kernel
theorem d_M_isHeld_36 : decode b_M_isHeld 36 = .ok (.iload 4, 2) := by decide +kernel
theorem d_M_isHeld_38 : decode b_M_isHeld 38 = .ok (.iaload, 1) := by decide +kernel
theorem d_M_isHeld_39 : decode b_M_isHeld 39 = .ok (.iload_n 2, 1) := by decide +kernel
theorem d_M_isHeld_40 : decode b_M_isHeld 40 = .ok (.if_icmp .lt 7, 3) := by decide +kernel
theorem d_M_isHeld_43 : decode b_M_isHeld 43 = .ok (.iconst 1, 1) := by decide +kernel
theorem d_M_isHeld_44 : decode b_M_isHeld 44 = .ok (.goto 4, 3) := by decide +kernel
theorem d_M_isHeld_47 : decode b_M_isHeld 47 = .ok (.iconst 0, 1) := by decide +kernel
theorem d_M_isHeld_48 : decode b_M_isHeld 48 = .ok (.istore_n 3, 1) := by decide +kernel
theorem d_M_isHeld_49 : decode b_M_isHeld 49 = .ok (.iinc 4 1, 3) := by decide +kernel
theorem d_M_isHeld_52 : decode b_M_isHeld 52 = .ok (.goto (-45), 3) := by decide +kernel
theorem d_M_isHeld_55 : decode b_M_isHeld 55 = .ok (.iload_n 3, 1) := by decide +kernel
theorem d_M_isHeld_56 : decode b_M_isHeld 56 = .ok (.ireturn, 1) := by decide +kernel
theorem d_M_isRule_0 : decode b_M_isRule 0 = .ok (.iload_n 1, 1) := by decide +kernel
theorem d_M_isRule_1 : decode b_M_isRule 1 = .ok (.iconst 0, 1) := by decide +kernel
theorem d_M_isRule_2 : decode b_M_isRule 2 = .ok (.aload_n 0, 1) := by decide +kernel
theorem d_M_isRule_3 : decode b_M_isRule 3 = .ok (.getfield 81, 3) := by decide +kernel
theorem d_M_isRule_6 : decode b_M_isRule 6 = .ok (.iconst 1, 1) := by decide +kernel
theorem d_M_isRule_7 : decode b_M_isRule 7 = .ok (.isub, 1) := by decide +kernel
theorem d_M_isRule_8 : decode b_M_isRule 8 = .ok (.invokestatic 76, 3) := by decide +kernel
theorem d_M_isRule_11 : decode b_M_isRule 11 = .ok (.ireturn, 1) := by decide +kernel
theorem d_M_isSmall_0 : decode b_M_isSmall 0 = .ok (.aload_n 0, 1) := by decide +kernel
theorem d_M_isSmall_1 : decode b_M_isSmall 1 = .ok (.invokevirtual 90, 3) := by decide +kernel
theorem d_M_isSmall_4 : decode b_M_isSmall 4 = .ok (.bipush 97, 2) := by decide +kernel
theorem d_M_isSmall_6 : decode b_M_isSmall 6 = .ok (.if_icmp .lt 16, 3) := by decide +kernel
theorem d_M_isSmall_9 : decode b_M_isSmall 9 = .ok (.aload_n 0, 1) := by decide +kernel
theorem d_M_isSmall_10 : decode b_M_isSmall 10 = .ok (.invokevirtual 90, 3) := by decide +kernel
theorem d_M_isSmall_13 : decode b_M_isSmall 13 = .ok (.bipush 122, 2) := by decide +kernel
theorem d_M_isSmall_15 : decode b_M_isSmall 15 = .ok (.if_icmp .gt 7, 3) := by decide +kernel
theorem d_M_isSmall_18 : decode b_M_isSmall 18 = .ok (.iconst 1, 1) := by decide +kernel
theorem d_M_isSmall_19 : decode b_M_isSmall 19 = .ok (.goto 4, 3) := by decide +kernel
theorem d_M_isSmall_22 : decode b_M_isSmall 22 = .ok (.iconst 0, 1) := by decide +kernel
theorem d_M_isSmall_23 : decode b_M_isSmall 23 = .ok (.ireturn, 1) := by decide +kernel
theorem d_M_isUnit_0 : decode b_M_isUnit 0 = .ok (.iload_n 0, 1) := by decide +kernel
theorem d_M_isUnit_1 : decode b_M_isUnit 1 = .ok (.iconst 0, 1) := by decide +kernel
theorem d_M_isUnit_2 : decode b_M_isUnit 2 = .ok (.bipush 59, 2) := by decide +kernel
theorem d_M_isUnit_4 : decode b_M_isUnit 4 = .ok (.invokestatic 76, 3) := by decide +kernel
theorem d_M_isUnit_7 : decode b_M_isUnit 7 = .ok (.ireturn, 1) := by decide +kernel
theorem d_M_look_0 : decode b_M_look 0 = .ok (.aload_n 0, 1) := by decide +kernel
theorem d_M_look_1 : decode b_M_look 1 = .ok (.getfield 87, 3) := by decide +kernel
theorem d_M_look_4 : decode b_M_look 4 = .ok (.aload_n 0, 1) := by decide +kernel
theorem d_M_look_5 : decode b_M_look 5 = .ok (.getfield 84, 3) := by decide +kernel
theorem d_M_look_8 : decode b_M_look 8 = .ok (.if_icmp .ge 15, 3) := by decide +kernel
theorem d_M_look_11 : decode b_M_look 11 = .ok (.aload_n 0, 1) := by decide +kernel
theorem d_M_look_12 : decode b_M_look 12 = .ok (.getfield 7, 3) := by decide +kernel
theorem d_M_look_15 : decode b_M_look 15 = .ok (.aload_n 0, 1) := by decide +kernel
theorem d_M_look_16 : decode b_M_look 16 = .ok (.getfield 87, 3) := by decide +kernel
theorem d_M_look_19 : decode b_M_look 19 = .ok (.baload, 1) := by decide +kernel
theorem d_M_look_20 : decode b_M_look 20 = .ok (.goto 4, 3) := by decide +kernel
theorem d_M_look_23 : decode b_M_look 23 = .ok (.iconst (-1), 1) := by decide +kernel
theorem d_M_look_24 : decode b_M_look 24 = .ok (.ireturn, 1) := by decide +kernel
theorem d_M_reads_0 : decode b_M_reads 0 = .ok (.aload_n 0, 1) := by decide +kernel
theorem d_M_reads_1 : decode b_M_reads 1 = .ok (.iconst 0, 1) := by decide +kernel
theorem d_M_reads_2 : decode b_M_reads 2 = .ok (.putfield 87, 3) := by decide +kernel
theorem d_M_reads_5 : decode b_M_reads 5 = .ok (.aload_n 0, 1) := by decide +kernel
theorem d_M_reads_6 : decode b_M_reads 6 = .ok (.invokevirtual 124, 3) := by decide +kernel
theorem d_M_reads_9 : decode b_M_reads 9 = .ok (.invokestatic 127, 3) := by decide +kernel
theorem d_M_reads_12 : decode b_M_reads 12 = .ok (.istore_n 1, 1) := by decide +kernel
theorem d_M_reads_13 : decode b_M_reads 13 = .ok (.iload_n 1, 1) := by decide +kernel
theorem d_M_reads_14 : decode b_M_reads 14 = .ok (.ifCond .ge 5, 3) := by decide +kernel
theorem d_M_reads_17 : decode b_M_reads 17 = .ok (.iconst 0, 1) := by decide +kernel
theorem d_M_reads_18 : decode b_M_reads 18 = .ok (.ireturn, 1) := by decide +kernel
theorem d_M_reads_19 : decode b_M_reads 19 = .ok (.aload_n 0, 1) := by decide +kernel
theorem d_M_reads_20 : decode b_M_reads 20 = .ok (.invokevirtual 131, 3) := by decide +kernel
theorem d_M_reads_23 : decode b_M_reads 23 = .ok (.ifCond .ne 8, 3) := by decide +kernel
theorem d_M_reads_26 : decode b_M_reads 26 = .ok (.aload_n 0, 1) := by decide +kernel
theorem d_M_reads_27 : decode b_M_reads 27 = .ok (.getfield 87, 3) := by decide +kernel
theorem d_M_reads_30 : decode b_M_reads 30 = .ok (.ireturn, 1) := by decide +kernel
theorem d_M_reads_31 : decode b_M_reads 31 = .ok (.aload_n 0, 1) := by decide +kernel
theorem d_M_reads_32 : decode b_M_reads 32 = .ok (.invokevirtual 134, 3) := by decide +kernel
theorem d_M_reads_35 : decode b_M_reads 35 = .ok (.istore_n 2, 1) := by decide +kernel
theorem d_M_reads_36 : decode b_M_reads 36 = .ok (.iload_n 2, 1) := by decide +kernel
theorem d_M_reads_37 : decode b_M_reads 37 = .ok (.ifCond .lt 10, 3) := by decide +kernel
theorem d_M_reads_40 : decode b_M_reads 40 = .ok (.aload_n 0, 1) := by decide +kernel
theorem d_M_reads_41 : decode b_M_reads 41 = .ok (.invokevirtual 131, 3) := by decide +kernel
theorem d_M_reads_44 : decode b_M_reads 44 = .ok (.ifCond .ne 8, 3) := by decide +kernel
theorem d_M_reads_47 : decode b_M_reads 47 = .ok (.aload_n 0, 1) := by decide +kernel
theorem d_M_reads_48 : decode b_M_reads 48 = .ok (.getfield 87, 3) := by decide +kernel
theorem d_M_reads_51 : decode b_M_reads 51 = .ok (.ireturn, 1) := by decide +kernel
theorem d_M_reads_52 : decode b_M_reads 52 = .ok (.aload_n 0, 1) := by decide +kernel
theorem d_M_reads_53 : decode b_M_reads 53 = .ok (.getfield 87, 3) := by decide +kernel
theorem d_M_reads_56 : decode b_M_reads 56 = .ok (.istore_n 3, 1) := by decide +kernel
theorem d_M_reads_57 : decode b_M_reads 57 = .ok (.aload_n 0, 1) := by decide +kernel
theorem d_M_reads_58 : decode b_M_reads 58 = .ok (.invokevirtual 124, 3) := by decide +kernel
theorem d_M_reads_61 : decode b_M_reads 61 = .ok (.invokestatic 137, 3) := by decide +kernel
theorem d_M_reads_64 : decode b_M_reads 64 = .ok (.istore 4, 2) := by decide +kernel
theorem d_M_reads_66 : decode b_M_reads 66 = .ok (.iload 4, 2) := by decide +kernel
theorem d_M_reads_68 : decode b_M_reads 68 = .ok (.ifCond .ge 5, 3) := by decide +kernel
theorem d_M_reads_71 : decode b_M_reads 71 = .ok (.iload_n 3, 1) := by decide +kernel
theorem d_M_reads_72 : decode b_M_reads 72 = .ok (.ireturn, 1) := by decide +kernel
theorem d_M_reads_73 : decode b_M_reads 73 = .ok (.aload_n 0, 1) := by decide +kernel
theorem d_M_reads_74 : decode b_M_reads 74 = .ok (.getfield 87, 3) := by decide +kernel
theorem d_M_reads_77 : decode b_M_reads 77 = .ok (.aload_n 0, 1) := by decide +kernel
theorem d_M_reads_78 : decode b_M_reads 78 = .ok (.getfield 84, 3) := by decide +kernel
theorem d_M_reads_81 : decode b_M_reads 81 = .ok (.if_icmp .ge 8, 3) := by decide +kernel
theorem d_M_reads_84 : decode b_M_reads 84 = .ok (.aload_n 0, 1) := by decide +kernel
theorem d_M_reads_85 : decode b_M_reads 85 = .ok (.getfield 87, 3) := by decide +kernel
theorem d_M_reads_88 : decode b_M_reads 88 = .ok (.ireturn, 1) := by decide +kernel
theorem d_M_reads_89 : decode b_M_reads 89 = .ok (.aload_n 0, 1) := by decide +kernel
theorem d_M_reads_90 : decode b_M_reads 90 = .ok (.getfield 81, 3) := by decide +kernel
theorem d_M_reads_93 : decode b_M_reads 93 = .ok (.bipush 20, 2) := by decide +kernel
theorem d_M_reads_95 : decode b_M_reads 95 = .ok (.if_icmp .ne 5, 3) := by decide +kernel
theorem d_M_reads_98 : decode b_M_reads 98 = .ok (.iconst (-1), 1) := by decide +kernel
theorem d_M_reads_99 : decode b_M_reads 99 = .ok (.ireturn, 1) := by decide +kernel
theorem d_M_reads_100 : decode b_M_reads 100 = .ok (.aload_n 0, 1) := by decide +kernel
theorem d_M_reads_101 : decode b_M_reads 101 = .ok (.getfield 13, 3) := by decide +kernel
theorem d_M_reads_104 : decode b_M_reads 104 = .ok (.aload_n 0, 1) := by decide +kernel
theorem d_M_reads_105 : decode b_M_reads 105 = .ok (.getfield 81, 3) := by decide +kernel
theorem d_M_reads_108 : decode b_M_reads 108 = .ok (.iload_n 1, 1) := by decide +kernel
theorem d_M_reads_109 : decode b_M_reads 109 = .ok (.iastore, 1) := by decide +kernel
theorem d_M_reads_110 : decode b_M_reads 110 = .ok (.aload_n 0, 1) := by decide +kernel
theorem d_M_reads_111 : decode b_M_reads 111 = .ok (.getfield 27, 3) := by decide +kernel
theorem d_M_reads_114 : decode b_M_reads 114 = .ok (.bipush 6, 2) := by decide +kernel
theorem d_M_reads_116 : decode b_M_reads 116 = .ok (.aload_n 0, 1) := by decide +kernel
theorem d_M_reads_117 : decode b_M_reads 117 = .ok (.getfield 81, 3) := by decide +kernel
theorem d_M_reads_120 : decode b_M_reads 120 = .ok (.imul, 1) := by decide +kernel
theorem d_M_reads_121 : decode b_M_reads 121 = .ok (.iload_n 2, 1) := by decide +kernel
theorem d_M_reads_122 : decode b_M_reads 122 = .ok (.iastore, 1) := by decide +kernel
theorem d_M_reads_123 : decode b_M_reads 123 = .ok (.aload_n 0, 1) := by decide +kernel
theorem d_M_reads_124 : decode b_M_reads 124 = .ok (.getfield 30, 3) := by decide +kernel
theorem d_M_reads_127 : decode b_M_reads 127 = .ok (.bipush 6, 2) := by decide +kernel
theorem d_M_reads_129 : decode b_M_reads 129 = .ok (.aload_n 0, 1) := by decide +kernel
theorem d_M_reads_130 : decode b_M_reads 130 = .ok (.getfield 81, 3) := by decide +kernel
theorem d_M_reads_133 : decode b_M_reads 133 = .ok (.imul, 1) := by decide +kernel
theorem d_M_reads_134 : decode b_M_reads 134 = .ok (.iconst (-1), 1) := by decide +kernel
theorem d_M_reads_135 : decode b_M_reads 135 = .ok (.iastore, 1) := by decide +kernel
theorem d_M_reads_136 : decode b_M_reads 136 = .ok (.aload_n 0, 1) := by decide +kernel
theorem d_M_reads_137 : decode b_M_reads 137 = .ok (.getfield 17, 3) := by decide +kernel
theorem d_M_reads_140 : decode b_M_reads 140 = .ok (.aload_n 0, 1) := by decide +kernel
theorem d_M_reads_141 : decode b_M_reads 141 = .ok (.getfield 81, 3) := by decide +kernel
theorem d_M_reads_144 : decode b_M_reads 144 = .ok (.iload 4, 2) := by decide +kernel
theorem d_M_reads_146 : decode b_M_reads 146 = .ok (.iastore, 1) := by decide +kernel
theorem d_M_reads_147 : decode b_M_reads 147 = .ok (.iconst (-1), 1) := by decide +kernel
theorem d_M_reads_148 : decode b_M_reads 148 = .ok (.ireturn, 1) := by decide +kernel
theorem d_M_rule_0 : decode b_M_rule 0 = .ok (.aload_n 0, 1) := by decide +kernel
theorem d_M_rule_1 : decode b_M_rule 1 = .ok (.iconst 0, 1) := by decide +kernel
theorem d_M_rule_2 : decode b_M_rule 2 = .ok (.putfield 72, 3) := by decide +kernel
theorem d_M_rule_5 : decode b_M_rule 5 = .ok (.aload_n 0, 1) := by decide +kernel
theorem d_M_rule_6 : decode b_M_rule 6 = .ok (.invokevirtual 139, 3) := by decide +kernel
theorem d_M_rule_9 : decode b_M_rule 9 = .ok (.istore_n 1, 1) := by decide +kernel
theorem d_M_rule_10 : decode b_M_rule 10 = .ok (.aload_n 0, 1) := by decide +kernel
theorem d_M_rule_11 : decode b_M_rule 11 = .ok (.iconst 0, 1) := by decide +kernel
theorem d_M_rule_12 : decode b_M_rule 12 = .ok (.putfield 84, 3) := by decide +kernel
theorem d_M_rule_15 : decode b_M_rule 15 = .ok (.iload_n 1, 1) := by decide +kernel
theorem d_M_rule_16 : decode b_M_rule 16 = .ok (.ifCond .lt 8, 3) := by decide +kernel
theorem d_M_rule_19 : decode b_M_rule 19 = .ok (.bipush (-10), 2) := by decide +kernel
theorem d_M_rule_21 : decode b_M_rule 21 = .ok (.iload_n 1, 1) := by decide +kernel
theorem d_M_rule_22 : decode b_M_rule 22 = .ok (.isub, 1) := by decide +kernel
theorem d_M_rule_23 : decode b_M_rule 23 = .ok (.ireturn, 1) := by decide +kernel
theorem d_M_rule_24 : decode b_M_rule 24 = .ok (.aload_n 0, 1) := by decide +kernel
theorem d_M_rule_25 : decode b_M_rule 25 = .ok (.getfield 81, 3) := by decide +kernel
theorem d_M_rule_28 : decode b_M_rule 28 = .ok (.bipush 20, 2) := by decide +kernel
theorem d_M_rule_30 : decode b_M_rule 30 = .ok (.if_icmp .ne 6, 3) := by decide +kernel
theorem d_M_rule_33 : decode b_M_rule 33 = .ok (.bipush (-4), 2) := by decide +kernel
theorem d_M_rule_35 : decode b_M_rule 35 = .ok (.ireturn, 1) := by decide +kernel
theorem d_M_rule_36 : decode b_M_rule 36 = .ok (.aload_n 0, 1) := by decide +kernel
theorem d_M_rule_37 : decode b_M_rule 37 = .ok (.dup, 1) := by decide +kernel
theorem d_M_rule_38 : decode b_M_rule 38 = .ok (.getfield 81, 3) := by decide +kernel
theorem d_M_rule_41 : decode b_M_rule 41 = .ok (.iconst 1, 1) := by decide +kernel
theorem d_M_rule_42 : decode b_M_rule 42 = .ok (.iadd, 1) := by decide +kernel
theorem d_M_rule_43 : decode b_M_rule 43 = .ok (.putfield 81, 3) := by decide +kernel
theorem d_M_rule_46 : decode b_M_rule 46 = .ok (.aload_n 0, 1) := by decide +kernel
theorem d_M_rule_47 : decode b_M_rule 47 = .ok (.getfield 81, 3) := by decide +kernel
theorem d_M_rule_50 : decode b_M_rule 50 = .ok (.iconst 1, 1) := by decide +kernel
theorem d_M_rule_51 : decode b_M_rule 51 = .ok (.isub, 1) := by decide +kernel
theorem d_M_rule_52 : decode b_M_rule 52 = .ok (.ireturn, 1) := by decide +kernel
theorem d_M_schedule_0 : decode b_M_schedule 0 = .ok (.aload_n 0, 1) := by decide +kernel
theorem d_M_schedule_1 : decode b_M_schedule 1 = .ok (.iconst 0, 1) := by decide +kernel
theorem d_M_schedule_2 : decode b_M_schedule 2 = .ok (.putfield 72, 3) := by decide +kernel
theorem d_M_schedule_5 : decode b_M_schedule 5 = .ok (.iload_n 1, 1) := by decide +kernel
theorem d_M_schedule_6 : decode b_M_schedule 6 = .ok (.invokestatic 149, 3) := by decide +kernel
theorem d_M_schedule_9 : decode b_M_schedule 9 = .ok (.ifCond .eq 11, 3) := by decide +kernel
theorem d_M_schedule_12 : decode b_M_schedule 12 = .ok (.aload_n 0, 1) := by decide +kernel
theorem d_M_schedule_13 : decode b_M_schedule 13 = .ok (.iload_n 2, 1) := by decide +kernel
theorem d_M_schedule_14 : decode b_M_schedule 14 = .ok (.invokevirtual 142, 3) := by decide +kernel
theorem d_M_schedule_17 : decode b_M_schedule 17 = .ok (.ifCond .ne 5, 3) := by decide +kernel
theorem d_M_schedule_20 : decode b_M_schedule 20 = .ok (.iconst (-1), 1) := by decide +kernel
theorem d_M_schedule_21 : decode b_M_schedule 21 = .ok (.ireturn, 1) := by decide +kernel
theorem d_M_schedule_22 : decode b_M_schedule 22 = .ok (.aload_n 0, 1) := by decide +kernel
theorem d_M_schedule_23 : decode b_M_schedule 23 = .ok (.getfield 54, 3) := by decide +kernel
theorem d_M_schedule_26 : decode b_M_schedule 26 = .ok (.iload_n 1, 1) := by decide +kernel
theorem d_M_schedule_27 : decode b_M_schedule 27 = .ok (.iaload, 1) := by decide +kernel
theorem d_M_schedule_28 : decode b_M_schedule 28 = .ok (.ifCond .lt 7, 3) := by decide +kernel
theorem d_M_schedule_31 : decode b_M_schedule 31 = .ok (.iconst 1, 1) := by decide +kernel
theorem d_M_schedule_32 : decode b_M_schedule 32 = .ok (.goto 4, 3) := by decide +kernel
theorem d_M_schedule_35 : decode b_M_schedule 35 = .ok (.iconst 0, 1) := by decide +kernel
theorem d_M_schedule_36 : decode b_M_schedule 36 = .ok (.istore_n 3, 1) := by decide +kernel
theorem d_M_schedule_37 : decode b_M_schedule 37 = .ok (.iconst 0, 1) := by decide +kernel
theorem d_M_schedule_38 : decode b_M_schedule 38 = .ok (.istore 4, 2) := by decide +kernel
theorem d_M_schedule_40 : decode b_M_schedule 40 = .ok (.iload 4, 2) := by decide +kernel
theorem d_M_schedule_42 : decode b_M_schedule 42 = .ok (.aload_n 0, 1) := by decide +kernel
theorem d_M_schedule_43 : decode b_M_schedule 43 = .ok (.getfield 39, 3) := by decide +kernel
theorem d_M_schedule_46 : decode b_M_schedule 46 = .ok (.iload_n 1, 1) := by decide +kernel
theorem d_M_schedule_47 : decode b_M_schedule 47 = .ok (.iaload, 1) := by decide +kernel
theorem d_M_schedule_48 : decode b_M_schedule 48 = .ok (.if_icmp .ge 34, 3) := by decide +kernel
theorem d_M_schedule_51 : decode b_M_schedule 51 = .ok (.iload_n 3, 1) := by decide +kernel
theorem d_M_schedule_52 : decode b_M_schedule 52 = .ok (.ifCond .ne 18, 3) := by decide +kernel
theorem d_M_schedule_55 : decode b_M_schedule 55 = .ok (.aload_n 0, 1) := by decide +kernel
theorem d_M_schedule_56 : decode b_M_schedule 56 = .ok (.getfield 36, 3) := by decide +kernel
theorem d_M_schedule_59 : decode b_M_schedule 59 = .ok (.iconst 4, 1) := by decide +kernel
theorem d_M_schedule_60 : decode b_M_schedule 60 = .ok (.iload_n 1, 1) := by decide +kernel
theorem d_M_schedule_61 : decode b_M_schedule 61 = .ok (.imul, 1) := by decide +kernel
theorem d_M_schedule_62 : decode b_M_schedule 62 = .ok (.iload 4, 2) := by decide +kernel
theorem d_M_schedule_64 : decode b_M_schedule 64 = .ok (.iadd, 1) := by decide +kernel
theorem d_M_schedule_65 : decode b_M_schedule 65 = .ok (.iaload, 1) := by decide +kernel
theorem d_M_schedule_66 : decode b_M_schedule 66 = .ok (.iload_n 2, 1) := by decide +kernel
theorem d_M_schedule_67 : decode b_M_schedule 67 = .ok (.if_icmp .ne 7, 3) := by decide +kernel
theorem d_M_schedule_70 : decode b_M_schedule 70 = .ok (.iconst 1, 1) := by decide +kernel
theorem d_M_schedule_71 : decode b_M_schedule 71 = .ok (.goto 4, 3) := by decide +kernel
theorem d_M_schedule_74 : decode b_M_schedule 74 = .ok (.iconst 0, 1) := by decide +kernel
theorem d_M_schedule_75 : decode b_M_schedule 75 = .ok (.istore_n 3, 1) := by decide +kernel
theorem d_M_schedule_76 : decode b_M_schedule 76 = .ok (.iinc 4 1, 3) := by decide +kernel
theorem d_M_schedule_79 : decode b_M_schedule 79 = .ok (.goto (-39), 3) := by decide +kernel
theorem d_M_schedule_82 : decode b_M_schedule 82 = .ok (.iload_n 3, 1) := by decide +kernel
theorem d_M_schedule_83 : decode b_M_schedule 83 = .ok (.ifCond .eq 6, 3) := by decide +kernel
theorem d_M_schedule_86 : decode b_M_schedule 86 = .ok (.bipush (-3), 2) := by decide +kernel
theorem d_M_schedule_88 : decode b_M_schedule 88 = .ok (.ireturn, 1) := by decide +kernel
theorem d_M_schedule_89 : decode b_M_schedule 89 = .ok (.aload_n 0, 1) := by decide +kernel
theorem d_M_schedule_90 : decode b_M_schedule 90 = .ok (.getfield 39, 3) := by decide +kernel
theorem d_M_schedule_93 : decode b_M_schedule 93 = .ok (.iload_n 1, 1) := by decide +kernel
theorem d_M_schedule_94 : decode b_M_schedule 94 = .ok (.iaload, 1) := by decide +kernel
theorem d_M_schedule_95 : decode b_M_schedule 95 = .ok (.iconst 4, 1) := by decide +kernel
theorem d_M_schedule_96 : decode b_M_schedule 96 = .ok (.if_icmp .ne 6, 3) := by decide +kernel
theorem d_M_schedule_99 : decode b_M_schedule 99 = .ok (.bipush (-4), 2) := by decide +kernel
theorem d_M_schedule_101 : decode b_M_schedule 101 = .ok (.ireturn, 1) := by decide +kernel
theorem d_M_schedule_102 : decode b_M_schedule 102 = .ok (.aload_n 0, 1) := by decide +kernel
theorem d_M_schedule_103 : decode b_M_schedule 103 = .ok (.getfield 36, 3) := by decide +kernel
theorem d_M_schedule_106 : decode b_M_schedule 106 = .ok (.iconst 4, 1) := by decide +kernel
theorem d_M_schedule_107 : decode b_M_schedule 107 = .ok (.iload_n 1, 1) := by decide +kernel
theorem d_M_schedule_108 : decode b_M_schedule 108 = .ok (.imul, 1) := by decide +kernel
theorem d_M_schedule_109 : decode b_M_schedule 109 = .ok (.aload_n 0, 1) := by decide +kernel
theorem d_M_schedule_110 : decode b_M_schedule 110 = .ok (.getfield 39, 3) := by decide +kernel
theorem d_M_schedule_113 : decode b_M_schedule 113 = .ok (.iload_n 1, 1) := by decide +kernel
theorem d_M_schedule_114 : decode b_M_schedule 114 = .ok (.iaload, 1) := by decide +kernel
theorem d_M_schedule_115 : decode b_M_schedule 115 = .ok (.iadd, 1) := by decide +kernel
theorem d_M_schedule_116 : decode b_M_schedule 116 = .ok (.iload_n 2, 1) := by decide +kernel
theorem d_M_schedule_117 : decode b_M_schedule 117 = .ok (.iastore, 1) := by decide +kernel
theorem d_M_schedule_118 : decode b_M_schedule 118 = .ok (.aload_n 0, 1) := by decide +kernel
theorem d_M_schedule_119 : decode b_M_schedule 119 = .ok (.getfield 39, 3) := by decide +kernel
theorem d_M_schedule_122 : decode b_M_schedule 122 = .ok (.iload_n 1, 1) := by decide +kernel
theorem d_M_schedule_123 : decode b_M_schedule 123 = .ok (.dup2, 1) := by decide +kernel
theorem d_M_schedule_124 : decode b_M_schedule 124 = .ok (.iaload, 1) := by decide +kernel
theorem d_M_schedule_125 : decode b_M_schedule 125 = .ok (.iconst 1, 1) := by decide +kernel
theorem d_M_schedule_126 : decode b_M_schedule 126 = .ok (.iadd, 1) := by decide +kernel
theorem d_M_schedule_127 : decode b_M_schedule 127 = .ok (.iastore, 1) := by decide +kernel
theorem d_M_schedule_128 : decode b_M_schedule 128 = .ok (.aload_n 0, 1) := by decide +kernel
theorem d_M_schedule_129 : decode b_M_schedule 129 = .ok (.getfield 48, 3) := by decide +kernel
theorem d_M_schedule_132 : decode b_M_schedule 132 = .ok (.iload_n 1, 1) := by decide +kernel
theorem d_M_schedule_133 : decode b_M_schedule 133 = .ok (.iconst 0, 1) := by decide +kernel
theorem d_M_schedule_134 : decode b_M_schedule 134 = .ok (.iastore, 1) := by decide +kernel
theorem d_M_schedule_135 : decode b_M_schedule 135 = .ok (.aload_n 0, 1) := by decide +kernel
theorem d_M_schedule_136 : decode b_M_schedule 136 = .ok (.getfield 39, 3) := by decide +kernel
theorem d_M_schedule_139 : decode b_M_schedule 139 = .ok (.iload_n 1, 1) := by decide +kernel
theorem d_M_schedule_140 : decode b_M_schedule 140 = .ok (.iaload, 1) := by decide +kernel
theorem d_M_schedule_141 : decode b_M_schedule 141 = .ok (.ireturn, 1) := by decide +kernel
theorem d_M_sign_0 : decode b_M_sign 0 = .ok (.aload_n 0, 1) := by decide +kernel
theorem d_M_sign_1 : decode b_M_sign 1 = .ok (.iconst 0, 1) := by decide +kernel
theorem d_M_sign_2 : decode b_M_sign 2 = .ok (.putfield 72, 3) := by decide +kernel
theorem d_M_sign_5 : decode b_M_sign 5 = .ok (.aload_n 0, 1) := by decide +kernel
theorem d_M_sign_6 : decode b_M_sign 6 = .ok (.getfield 84, 3) := by decide +kernel
theorem d_M_sign_9 : decode b_M_sign 9 = .ok (.bipush 40, 2) := by decide +kernel
theorem d_M_sign_11 : decode b_M_sign 11 = .ok (.if_icmp .ne 4, 3) := by decide +kernel
theorem d_M_sign_14 : decode b_M_sign 14 = .ok (.return_, 1) := by decide +kernel
theorem d_M_sign_15 : decode b_M_sign 15 = .ok (.aload_n 0, 1) := by decide +kernel
theorem d_M_sign_16 : decode b_M_sign 16 = .ok (.getfield 7, 3) := by decide +kernel
theorem d_M_sign_19 : decode b_M_sign 19 = .ok (.aload_n 0, 1) := by decide +kernel
theorem d_M_sign_20 : decode b_M_sign 20 = .ok (.getfield 84, 3) := by decide +kernel
theorem d_M_sign_23 : decode b_M_sign 23 = .ok (.iload_n 1, 1) := by decide +kernel
theorem d_M_sign_24 : decode b_M_sign 24 = .ok (.i2b, 1) := by decide +kernel
theorem d_M_sign_25 : decode b_M_sign 25 = .ok (.bastore, 1) := by decide +kernel
theorem d_M_sign_26 : decode b_M_sign 26 = .ok (.aload_n 0, 1) := by decide +kernel
theorem d_M_sign_27 : decode b_M_sign 27 = .ok (.dup, 1) := by decide +kernel
theorem d_M_sign_28 : decode b_M_sign 28 = .ok (.getfield 84, 3) := by decide +kernel
theorem d_M_sign_31 : decode b_M_sign 31 = .ok (.iconst 1, 1) := by decide +kernel
theorem d_M_sign_32 : decode b_M_sign 32 = .ok (.iadd, 1) := by decide +kernel
theorem d_M_sign_33 : decode b_M_sign 33 = .ok (.putfield 84, 3) := by decide +kernel
theorem d_M_sign_36 : decode b_M_sign 36 = .ok (.return_, 1) := by decide +kernel
theorem d_M_space_0 : decode b_M_space 0 = .ok (.aload_n 0, 1) := by decide +kernel
theorem d_M_space_1 : decode b_M_space 1 = .ok (.invokevirtual 90, 3) := by decide +kernel
theorem d_M_space_4 : decode b_M_space 4 = .ok (.bipush 32, 2) := by decide +kernel
theorem d_M_space_6 : decode b_M_space 6 = .ok (.if_icmp .eq 5, 3) := by decide +kernel
theorem d_M_space_9 : decode b_M_space 9 = .ok (.iconst 0, 1) := by decide +kernel
theorem d_M_space_10 : decode b_M_space 10 = .ok (.ireturn, 1) := by decide +kernel
theorem d_M_space_11 : decode b_M_space 11 = .ok (.aload_n 0, 1) := by decide +kernel
theorem d_M_space_12 : decode b_M_space 12 = .ok (.dup, 1) := by decide +kernel
theorem d_M_space_13 : decode b_M_space 13 = .ok (.getfield 87, 3) := by decide +kernel
theorem d_M_space_16 : decode b_M_space 16 = .ok (.iconst 1, 1) := by decide +kernel
theorem d_M_space_17 : decode b_M_space 17 = .ok (.iadd, 1) := by decide +kernel
theorem d_M_space_18 : decode b_M_space 18 = .ok (.putfield 87, 3) := by decide +kernel
theorem d_M_space_21 : decode b_M_space 21 = .ok (.iconst 1, 1) := by decide +kernel
theorem d_M_space_22 : decode b_M_space 22 = .ok (.ireturn, 1) := by decide +kernel
theorem d_M_thrown_0 : decode b_M_thrown 0 = .ok (.aload_n 0, 1) := by decide +kernel
theorem d_M_thrown_1 : decode b_M_thrown 1 = .ok (.getfield 72, 3) := by decide +kernel
theorem d_M_thrown_4 : decode b_M_thrown 4 = .ok (.ireturn, 1) := by decide +kernel
theorem d_M_word_0 : decode b_M_word 0 = .ok (.lconst 0, 1) := by decide +kernel
theorem d_M_word_1 : decode b_M_word 1 = .ok (.lstore_n 1, 1) := by decide +kernel
theorem d_M_word_2 : decode b_M_word 2 = .ok (.iconst 0, 1) := by decide +kernel
theorem d_M_word_3 : decode b_M_word 3 = .ok (.istore_n 3, 1) := by decide +kernel
theorem d_M_word_4 : decode b_M_word 4 = .ok (.aload_n 0, 1) := by decide +kernel
theorem d_M_word_5 : decode b_M_word 5 = .ok (.invokevirtual 94, 3) := by decide +kernel
theorem d_M_word_8 : decode b_M_word 8 = .ok (.ifCond .eq 61, 3) := by decide +kernel
theorem d_M_word_11 : decode b_M_word 11 = .ok (.iload_n 3, 1) := by decide +kernel
theorem d_M_word_12 : decode b_M_word 12 = .ok (.bipush 9, 2) := by decide +kernel
theorem d_M_word_14 : decode b_M_word 14 = .ok (.if_icmp .ge 23, 3) := by decide +kernel
theorem d_M_word_17 : decode b_M_word 17 = .ok (.lload_n 1, 1) := by decide +kernel
theorem d_M_word_18 : decode b_M_word 18 = .ok (.ldc2_w 98, 3) := by decide +kernel
theorem d_M_word_21 : decode b_M_word 21 = .ok (.lmul, 1) := by decide +kernel
theorem d_M_word_22 : decode b_M_word 22 = .ok (.aload_n 0, 1) := by decide +kernel
theorem d_M_word_23 : decode b_M_word 23 = .ok (.invokevirtual 90, 3) := by decide +kernel
theorem d_M_word_26 : decode b_M_word 26 = .ok (.i2l, 1) := by decide +kernel
theorem d_M_word_27 : decode b_M_word 27 = .ok (.ladd, 1) := by decide +kernel
theorem d_M_word_28 : decode b_M_word 28 = .ok (.ldc2_w 100, 3) := by decide +kernel
theorem d_M_word_31 : decode b_M_word 31 = .ok (.lsub, 1) := by decide +kernel
theorem d_M_word_32 : decode b_M_word 32 = .ok (.lconst 1, 1) := by decide +kernel
theorem d_M_word_33 : decode b_M_word 33 = .ok (.ladd, 1) := by decide +kernel
theorem d_M_word_34 : decode b_M_word 34 = .ok (.goto 6, 3) := by decide +kernel
theorem d_M_word_37 : decode b_M_word 37 = .ok (.ldc2_w 102, 3) := by decide +kernel
theorem d_M_word_40 : decode b_M_word 40 = .ok (.lstore_n 1, 1) := by decide +kernel
theorem d_M_word_41 : decode b_M_word 41 = .ok (.lload_n 1, 1) := by decide +kernel
theorem d_M_word_42 : decode b_M_word 42 = .ok (.lconst 0, 1) := by decide +kernel
theorem d_M_word_43 : decode b_M_word 43 = .ok (.lcmp, 1) := by decide +kernel
theorem d_M_word_44 : decode b_M_word 44 = .ok (.ifCond .ge 8, 3) := by decide +kernel
theorem d_M_word_47 : decode b_M_word 47 = .ok (.bipush 9, 2) := by decide +kernel
theorem d_M_word_49 : decode b_M_word 49 = .ok (.goto 6, 3) := by decide +kernel
theorem d_M_word_52 : decode b_M_word 52 = .ok (.iload_n 3, 1) := by decide +kernel
theorem d_M_word_53 : decode b_M_word 53 = .ok (.iconst 1, 1) := by decide +kernel
theorem d_M_word_54 : decode b_M_word 54 = .ok (.iadd, 1) := by decide +kernel
theorem d_M_word_55 : decode b_M_word 55 = .ok (.istore_n 3, 1) := by decide +kernel
theorem d_M_word_56 : decode b_M_word 56 = .ok (.aload_n 0, 1) := by decide +kernel
theorem d_M_word_57 : decode b_M_word 57 = .ok (.dup, 1) := by decide +kernel
theorem d_M_word_58 : decode b_M_word 58 = .ok (.getfield 87, 3) := by decide +kernel
theorem d_M_word_61 : decode b_M_word 61 = .ok (.iconst 1, 1) := by decide +kernel
theorem d_M_word_62 : decode b_M_word 62 = .ok (.iadd, 1) := by decide +kernel
theorem d_M_word_63 : decode b_M_word 63 = .ok (.putfield 87, 3) := by decide +kernel
theorem d_M_word_66 : decode b_M_word 66 = .ok (.goto (-62), 3) := by decide +kernel
theorem d_M_word_69 : decode b_M_word 69 = .ok (.lload_n 1, 1) := by decide +kernel
theorem d_M_word_70 : decode b_M_word 70 = .ok (.lreturn, 1) := by decide +kernel
theorem d_M_word4_0 : decode b_M_word4 0 = .ok (.iload_n 0, 1) := by decide +kernel
theorem d_M_word4_1 : decode b_M_word4 1 = .ok (.i2l, 1) := by decide +kernel
theorem d_M_word4_2 : decode b_M_word4 2 = .ok (.ldc2_w 98, 3) := by decide +kernel
theorem d_M_word4_5 : decode b_M_word4 5 = .ok (.lmul, 1) := by decide +kernel
theorem d_M_word4_6 : decode b_M_word4 6 = .ok (.iload_n 1, 1) := by decide +kernel
theorem d_M_word4_7 : decode b_M_word4 7 = .ok (.i2l, 1) := by decide +kernel
theorem d_M_word4_8 : decode b_M_word4 8 = .ok (.ladd, 1) := by decide +kernel
theorem d_M_word4_9 : decode b_M_word4 9 = .ok (.ldc2_w 98, 3) := by decide +kernel
theorem d_M_word4_12 : decode b_M_word4 12 = .ok (.lmul, 1) := by decide +kernel
theorem d_M_word4_13 : decode b_M_word4 13 = .ok (.iload_n 2, 1) := by decide +kernel
theorem d_M_word4_14 : decode b_M_word4 14 = .ok (.i2l, 1) := by decide +kernel
theorem d_M_word4_15 : decode b_M_word4 15 = .ok (.ladd, 1) := by decide +kernel
theorem d_M_word4_16 : decode b_M_word4 16 = .ok (.ldc2_w 98, 3) := by decide +kernel
theorem d_M_word4_19 : decode b_M_word4 19 = .ok (.lmul, 1) := by decide +kernel
theorem d_M_word4_20 : decode b_M_word4 20 = .ok (.iload_n 3, 1) := by decide +kernel
theorem d_M_word4_21 : decode b_M_word4 21 = .ok (.i2l, 1) := by decide +kernel
theorem d_M_word4_22 : decode b_M_word4 22 = .ok (.ladd, 1) := by decide +kernel
theorem d_M_word4_23 : decode b_M_word4 23 = .ok (.lreturn, 1) := by decide +kernel
theorem d_M_yearsOn_0 : decode b_M_yearsOn 0 = .ok (.aload_n 0, 1) := by decide +kernel
theorem d_M_yearsOn_1 : decode b_M_yearsOn 1 = .ok (.getfield 27, 3) := by decide +kernel
theorem d_M_yearsOn_4 : decode b_M_yearsOn 4 = .ok (.bipush 6, 2) := by decide +kernel
theorem d_M_yearsOn_6 : decode b_M_yearsOn 6 = .ok (.iload_n 1, 1) := by decide +kernel
theorem d_M_yearsOn_7 : decode b_M_yearsOn 7 = .ok (.imul, 1) := by decide +kernel
theorem d_M_yearsOn_8 : decode b_M_yearsOn 8 = .ok (.iaload, 1) := by decide +kernel
theorem d_M_yearsOn_9 : decode b_M_yearsOn 9 = .ok (.istore_n 3, 1) := by decide +kernel
theorem d_M_yearsOn_10 : decode b_M_yearsOn 10 = .ok (.iconst 1, 1) := by decide +kernel
theorem d_M_yearsOn_11 : decode b_M_yearsOn 11 = .ok (.istore 4, 2) := by decide +kernel
theorem d_M_yearsOn_13 : decode b_M_yearsOn 13 = .ok (.iload 4, 2) := by decide +kernel
theorem d_M_yearsOn_15 : decode b_M_yearsOn 15 = .ok (.aload_n 0, 1) := by decide +kernel
theorem d_M_yearsOn_16 : decode b_M_yearsOn 16 = .ok (.getfield 24, 3) := by decide +kernel
theorem d_M_yearsOn_19 : decode b_M_yearsOn 19 = .ok (.iload_n 1, 1) := by decide +kernel
theorem d_M_yearsOn_20 : decode b_M_yearsOn 20 = .ok (.iaload, 1) := by decide +kernel
theorem d_M_yearsOn_21 : decode b_M_yearsOn 21 = .ok (.if_icmp .gt 42, 3) := by decide +kernel
theorem d_M_yearsOn_24 : decode b_M_yearsOn 24 = .ok (.aload_n 0, 1) := by decide +kernel
theorem d_M_yearsOn_25 : decode b_M_yearsOn 25 = .ok (.getfield 30, 3) := by decide +kernel
theorem d_M_yearsOn_28 : decode b_M_yearsOn 28 = .ok (.bipush 6, 2) := by decide +kernel
theorem d_M_yearsOn_30 : decode b_M_yearsOn 30 = .ok (.iload_n 1, 1) := by decide +kernel
theorem d_M_yearsOn_31 : decode b_M_yearsOn 31 = .ok (.imul, 1) := by decide +kernel
theorem d_M_yearsOn_32 : decode b_M_yearsOn 32 = .ok (.iload 4, 2) := by decide +kernel
theorem d_M_yearsOn_34 : decode b_M_yearsOn 34 = .ok (.iadd, 1) := by decide +kernel
theorem d_M_yearsOn_35 : decode b_M_yearsOn 35 = .ok (.iaload, 1) := by decide +kernel
theorem d_M_yearsOn_36 : decode b_M_yearsOn 36 = .ok (.iload_n 2, 1) := by decide +kernel
theorem d_M_yearsOn_37 : decode b_M_yearsOn 37 = .ok (.if_icmp .gt 18, 3) := by decide +kernel
theorem d_M_yearsOn_40 : decode b_M_yearsOn 40 = .ok (.aload_n 0, 1) := by decide +kernel
theorem d_M_yearsOn_41 : decode b_M_yearsOn 41 = .ok (.getfield 27, 3) := by decide +kernel
theorem d_M_yearsOn_44 : decode b_M_yearsOn 44 = .ok (.bipush 6, 2) := by decide +kernel
theorem d_M_yearsOn_46 : decode b_M_yearsOn 46 = .ok (.iload_n 1, 1) := by decide +kernel
theorem d_M_yearsOn_47 : decode b_M_yearsOn 47 = .ok (.imul, 1) := by decide +kernel
theorem d_M_yearsOn_48 : decode b_M_yearsOn 48 = .ok (.iload 4, 2) := by decide +kernel
theorem d_M_yearsOn_50 : decode b_M_yearsOn 50 = .ok (.iadd, 1) := by decide +kernel
theorem d_M_yearsOn_51 : decode b_M_yearsOn 51 = .ok (.iaload, 1) := by decide +kernel
theorem d_M_yearsOn_52 : decode b_M_yearsOn 52 = .ok (.goto 4, 3) := by decide +kernel
theorem d_M_yearsOn_55 : decode b_M_yearsOn 55 = .ok (.iload_n 3, 1) := by decide +kernel
theorem d_M_yearsOn_56 : decode b_M_yearsOn 56 = .ok (.istore_n 3, 1) := by decide +kernel
theorem d_M_yearsOn_57 : decode b_M_yearsOn 57 = .ok (.iinc 4 1, 3) := by decide +kernel
theorem d_M_yearsOn_60 : decode b_M_yearsOn 60 = .ok (.goto (-47), 3) := by decide +kernel
theorem d_M_yearsOn_63 : decode b_M_yearsOn 63 = .ok (.iload_n 3, 1) := by decide +kernel
theorem d_M_yearsOn_64 : decode b_M_yearsOn 64 = .ok (.ireturn, 1) := by decide +kernel
theorem d_R_action_0 : decode b_R_action 0 = .ok (.aload_n 0, 1) := by decide +kernel
theorem d_R_action_1 : decode b_R_action 1 = .ok (.getfield 25, 3) := by decide +kernel
theorem d_R_action_4 : decode b_R_action 4 = .ok (.ireturn, 1) := by decide +kernel
theorem d_R_addChange_0 : decode b_R_addChange 0 = .ok (.aload_n 0, 1) := by decide +kernel
theorem d_R_addChange_1 : decode b_R_addChange 1 = .ok (.getfield 32, 3) := by decide +kernel
theorem d_R_addChange_4 : decode b_R_addChange 4 = .ok (.istore_n 3, 1) := by decide +kernel
theorem d_R_addChange_5 : decode b_R_addChange 5 = .ok (.iload_n 3, 1) := by decide +kernel
theorem d_R_addChange_6 : decode b_R_addChange 6 = .ok (.ifCond .lt 8, 3) := by decide +kernel
theorem d_R_addChange_9 : decode b_R_addChange 9 = .ok (.iload_n 3, 1) := by decide +kernel
theorem d_R_addChange_10 : decode b_R_addChange 10 = .ok (.iconst 5, 1) := by decide +kernel
theorem d_R_addChange_11 : decode b_R_addChange 11 = .ok (.if_icmp .lt 5, 3) := by decide +kernel
theorem d_R_addChange_14 : decode b_R_addChange 14 = .ok (.iconst 0, 1) := by decide +kernel
theorem d_R_addChange_15 : decode b_R_addChange 15 = .ok (.ireturn, 1) := by decide +kernel
theorem d_R_addChange_16 : decode b_R_addChange 16 = .ok (.aload_n 0, 1) := by decide +kernel
theorem d_R_addChange_17 : decode b_R_addChange 17 = .ok (.getfield 9, 3) := by decide +kernel
theorem d_R_addChange_20 : decode b_R_addChange 20 = .ok (.iload_n 3, 1) := by decide +kernel
theorem d_R_addChange_21 : decode b_R_addChange 21 = .ok (.iload_n 2, 1) := by decide +kernel
theorem d_R_addChange_22 : decode b_R_addChange 22 = .ok (.iastore, 1) := by decide +kernel
theorem d_R_addChange_23 : decode b_R_addChange 23 = .ok (.aload_n 0, 1) := by decide +kernel
theorem d_R_addChange_24 : decode b_R_addChange 24 = .ok (.getfield 15, 3) := by decide +kernel
theorem d_R_addChange_27 : decode b_R_addChange 27 = .ok (.iload_n 3, 1) := by decide +kernel
theorem d_R_addChange_28 : decode b_R_addChange 28 = .ok (.iload_n 1, 1) := by decide +kernel
theorem d_R_addChange_29 : decode b_R_addChange 29 = .ok (.iastore, 1) := by decide +kernel
theorem d_R_addChange_30 : decode b_R_addChange 30 = .ok (.aload_n 0, 1) := by decide +kernel
theorem d_R_addChange_31 : decode b_R_addChange 31 = .ok (.iload_n 3, 1) := by decide +kernel
theorem d_R_addChange_32 : decode b_R_addChange 32 = .ok (.iconst 1, 1) := by decide +kernel
theorem d_R_addChange_33 : decode b_R_addChange 33 = .ok (.iadd, 1) := by decide +kernel
theorem d_R_addChange_34 : decode b_R_addChange 34 = .ok (.putfield 32, 3) := by decide +kernel
theorem d_R_addChange_37 : decode b_R_addChange 37 = .ok (.iconst 1, 1) := by decide +kernel
theorem d_R_addChange_38 : decode b_R_addChange 38 = .ok (.ireturn, 1) := by decide +kernel
theorem d_R_dueDay_0 : decode b_R_dueDay 0 = .ok (.iload_n 1, 1) := by decide +kernel
theorem d_R_dueDay_1 : decode b_R_dueDay 1 = .ok (.iconst (-1), 1) := by decide +kernel
theorem d_R_dueDay_2 : decode b_R_dueDay 2 = .ok (.if_icmp .ne 7, 3) := by decide +kernel
theorem d_R_dueDay_5 : decode b_R_dueDay 5 = .ok (.iconst (-1), 1) := by decide +kernel
theorem d_R_dueDay_6 : decode b_R_dueDay 6 = .ok (.goto 14, 3) := by decide +kernel
theorem d_R_dueDay_9 : decode b_R_dueDay 9 = .ok (.iload_n 1, 1) := by decide +kernel
theorem d_R_dueDay_10 : decode b_R_dueDay 10 = .ok (.aload_n 0, 1) := by decide +kernel
theorem d_R_dueDay_11 : decode b_R_dueDay 11 = .ok (.iload_n 2, 1) := by decide +kernel
theorem d_R_dueDay_12 : decode b_R_dueDay 12 = .ok (.invokevirtual 35, 3) := by decide +kernel
theorem d_R_dueDay_15 : decode b_R_dueDay 15 = .ok (.sipush 365, 3) := by decide +kernel
theorem d_R_dueDay_18 : decode b_R_dueDay 18 = .ok (.imul, 1) := by decide +kernel
theorem d_R_dueDay_19 : decode b_R_dueDay 19 = .ok (.iadd, 1) := by decide +kernel
theorem d_R_dueDay_20 : decode b_R_dueDay 20 = .ok (.ireturn, 1) := by decide +kernel
theorem d_R_eventKind_0 : decode b_R_eventKind 0 = .ok (.aload_n 0, 1) := by decide +kernel
theorem d_R_eventKind_1 : decode b_R_eventKind 1 = .ok (.getfield 18, 3) := by decide +kernel
theorem d_R_eventKind_4 : decode b_R_eventKind 4 = .ok (.ireturn, 1) := by decide +kernel
theorem d_R_init_0 : decode b_R_init 0 = .ok (.aload_n 0, 1) := by decide +kernel
theorem d_R_init_1 : decode b_R_init 1 = .ok (.invokespecial 3, 3) := by decide +kernel
theorem d_R_init_4 : decode b_R_init 4 = .ok (.aload_n 0, 1) := by decide +kernel
theorem d_R_init_5 : decode b_R_init 5 = .ok (.iconst 5, 1) := by decide +kernel
theorem d_R_init_6 : decode b_R_init 6 = .ok (.newarray .int, 2) := by decide +kernel
theorem d_R_init_8 : decode b_R_init 8 = .ok (.putfield 9, 3) := by decide +kernel
theorem d_R_init_11 : decode b_R_init 11 = .ok (.aload_n 0, 1) := by decide +kernel
theorem d_R_init_12 : decode b_R_init 12 = .ok (.iconst 5, 1) := by decide +kernel
theorem d_R_init_13 : decode b_R_init 13 = .ok (.newarray .int, 2) := by decide +kernel
theorem d_R_init_15 : decode b_R_init 15 = .ok (.putfield 15, 3) := by decide +kernel
theorem d_R_init_18 : decode b_R_init 18 = .ok (.aload_n 0, 1) := by decide +kernel
theorem d_R_init_19 : decode b_R_init 19 = .ok (.iload_n 1, 1) := by decide +kernel
theorem d_R_init_20 : decode b_R_init 20 = .ok (.putfield 18, 3) := by decide +kernel
theorem d_R_init_23 : decode b_R_init 23 = .ok (.aload_n 0, 1) := by decide +kernel
theorem d_R_init_24 : decode b_R_init 24 = .ok (.iload_n 2, 1) := by decide +kernel
theorem d_R_init_25 : decode b_R_init 25 = .ok (.putfield 22, 3) := by decide +kernel
theorem d_R_init_28 : decode b_R_init 28 = .ok (.aload_n 0, 1) := by decide +kernel
theorem d_R_init_29 : decode b_R_init 29 = .ok (.iload_n 3, 1) := by decide +kernel
theorem d_R_init_30 : decode b_R_init 30 = .ok (.putfield 25, 3) := by decide +kernel
theorem d_R_init_33 : decode b_R_init 33 = .ok (.return_, 1) := by decide +kernel
theorem d_R_isBroken_0 : decode b_R_isBroken 0 = .ok (.aload_n 0, 1) := by decide +kernel
theorem d_R_isBroken_1 : decode b_R_isBroken 1 = .ok (.getfield 28, 3) := by decide +kernel
theorem d_R_isBroken_4 : decode b_R_isBroken 4 = .ok (.ireturn, 1) := by decide +kernel
theorem d_R_isChangedFrom_0 : decode b_R_isChangedFrom 0 = .ok (.aload_n 0, 1) := by decide +kernel
theorem d_R_isChangedFrom_1 : decode b_R_isChangedFrom 1 = .ok (.getfield 32, 3) := by decide +kernel
theorem d_R_isChangedFrom_4 : decode b_R_isChangedFrom 4 = .ok (.iconst 1, 1) := by decide +kernel
theorem d_R_isChangedFrom_5 : decode b_R_isChangedFrom 5 = .ok (.isub, 1) := by decide +kernel
theorem d_R_isChangedFrom_6 : decode b_R_isChangedFrom 6 = .ok (.istore_n 2, 1) := by decide +kernel
theorem d_R_isChangedFrom_7 : decode b_R_isChangedFrom 7 = .ok (.iload_n 2, 1) := by decide +kernel
theorem d_R_isChangedFrom_8 : decode b_R_isChangedFrom 8 = .ok (.ifCond .lt 22, 3) := by decide +kernel
theorem d_R_isChangedFrom_11 : decode b_R_isChangedFrom 11 = .ok (.iload_n 2, 1) := by decide +kernel
theorem d_R_isChangedFrom_12 : decode b_R_isChangedFrom 12 = .ok (.iconst 5, 1) := by decide +kernel
theorem d_R_isChangedFrom_13 : decode b_R_isChangedFrom 13 = .ok (.if_icmp .ge 17, 3) := by decide +kernel
theorem d_R_isChangedFrom_16 : decode b_R_isChangedFrom 16 = .ok (.aload_n 0, 1) := by decide +kernel
theorem d_R_isChangedFrom_17 : decode b_R_isChangedFrom 17 = .ok (.getfield 9, 3) := by decide +kernel
theorem d_R_isChangedFrom_20 : decode b_R_isChangedFrom 20 = .ok (.iload_n 2, 1) := by decide +kernel
theorem d_R_isChangedFrom_21 : decode b_R_isChangedFrom 21 = .ok (.iaload, 1) := by decide +kernel
theorem d_R_isChangedFrom_22 : decode b_R_isChangedFrom 22 = .ok (.iload_n 1, 1) := by decide +kernel
theorem d_R_isChangedFrom_23 : decode b_R_isChangedFrom 23 = .ok (.if_icmp .lt 7, 3) := by decide +kernel
theorem d_R_isChangedFrom_26 : decode b_R_isChangedFrom 26 = .ok (.iconst 1, 1) := by decide +kernel
theorem d_R_isChangedFrom_27 : decode b_R_isChangedFrom 27 = .ok (.goto 4, 3) := by decide +kernel
theorem d_R_isChangedFrom_30 : decode b_R_isChangedFrom 30 = .ok (.iconst 0, 1) := by decide +kernel
theorem d_R_isChangedFrom_31 : decode b_R_isChangedFrom 31 = .ok (.ireturn, 1) := by decide +kernel
theorem d_R_setBroken_0 : decode b_R_setBroken 0 = .ok (.aload_n 0, 1) := by decide +kernel
theorem d_R_setBroken_1 : decode b_R_setBroken 1 = .ok (.iload_n 1, 1) := by decide +kernel
theorem d_R_setBroken_2 : decode b_R_setBroken 2 = .ok (.putfield 28, 3) := by decide +kernel
theorem d_R_setBroken_5 : decode b_R_setBroken 5 = .ok (.return_, 1) := by decide +kernel
theorem d_R_yearsOn_0 : decode b_R_yearsOn 0 = .ok (.aload_n 0, 1) := by decide +kernel
theorem d_R_yearsOn_1 : decode b_R_yearsOn 1 = .ok (.getfield 22, 3) := by decide +kernel
theorem d_R_yearsOn_4 : decode b_R_yearsOn 4 = .ok (.istore_n 2, 1) := by decide +kernel
theorem d_R_yearsOn_5 : decode b_R_yearsOn 5 = .ok (.iconst 0, 1) := by decide +kernel
theorem d_R_yearsOn_6 : decode b_R_yearsOn 6 = .ok (.istore_n 3, 1) := by decide +kernel
theorem d_R_yearsOn_7 : decode b_R_yearsOn 7 = .ok (.iload_n 3, 1) := by decide +kernel
theorem d_R_yearsOn_8 : decode b_R_yearsOn 8 = .ok (.aload_n 0, 1) := by decide +kernel
theorem d_R_yearsOn_9 : decode b_R_yearsOn 9 = .ok (.getfield 32, 3) := by decide +kernel
theorem d_R_yearsOn_12 : decode b_R_yearsOn 12 = .ok (.if_icmp .ge 31, 3) := by decide +kernel
theorem d_R_yearsOn_15 : decode b_R_yearsOn 15 = .ok (.iload_n 3, 1) := by decide +kernel
theorem d_R_yearsOn_16 : decode b_R_yearsOn 16 = .ok (.iconst 5, 1) := by decide +kernel
theorem d_R_yearsOn_17 : decode b_R_yearsOn 17 = .ok (.if_icmp .ge 26, 3) := by decide +kernel
theorem d_R_yearsOn_20 : decode b_R_yearsOn 20 = .ok (.aload_n 0, 1) := by decide +kernel
theorem d_R_yearsOn_21 : decode b_R_yearsOn 21 = .ok (.getfield 9, 3) := by decide +kernel
theorem d_R_yearsOn_24 : decode b_R_yearsOn 24 = .ok (.iload_n 3, 1) := by decide +kernel
theorem d_R_yearsOn_25 : decode b_R_yearsOn 25 = .ok (.iaload, 1) := by decide +kernel
theorem d_R_yearsOn_26 : decode b_R_yearsOn 26 = .ok (.iload_n 1, 1) := by decide +kernel
theorem d_R_yearsOn_27 : decode b_R_yearsOn 27 = .ok (.if_icmp .gt 10, 3) := by decide +kernel
theorem d_R_yearsOn_30 : decode b_R_yearsOn 30 = .ok (.aload_n 0, 1) := by decide +kernel
theorem d_R_yearsOn_31 : decode b_R_yearsOn 31 = .ok (.getfield 15, 3) := by decide +kernel
theorem d_R_yearsOn_34 : decode b_R_yearsOn 34 = .ok (.iload_n 3, 1) := by decide +kernel
theorem d_R_yearsOn_35 : decode b_R_yearsOn 35 = .ok (.iaload, 1) := by decide +kernel
theorem d_R_yearsOn_36 : decode b_R_yearsOn 36 = .ok (.istore_n 2, 1) := by decide +kernel
theorem d_R_yearsOn_37 : decode b_R_yearsOn 37 = .ok (.iinc 3 1, 3) := by decide +kernel
theorem d_R_yearsOn_40 : decode b_R_yearsOn 40 = .ok (.goto (-33), 3) := by decide +kernel
theorem d_R_yearsOn_43 : decode b_R_yearsOn 43 = .ok (.iload_n 2, 1) := by decide +kernel
theorem d_R_yearsOn_44 : decode b_R_yearsOn 44 = .ok (.ireturn, 1) := by decide +kernel
theorem d_S_charAt_0 : decode b_S_charAt 0 = .ok (.aload_n 0, 1) := by decide +kernel
theorem d_S_charAt_1 : decode b_S_charAt 1 = .ok (.invokevirtual 492, 3) := by decide +kernel
theorem d_S_charAt_4 : decode b_S_charAt 4 = .ok (.ifCond .eq 12, 3) := by decide +kernel
theorem d_S_charAt_7 : decode b_S_charAt 7 = .ok (.aload_n 0, 1) := by decide +kernel
theorem d_S_charAt_8 : decode b_S_charAt 8 = .ok (.getfield 9, 3) := by decide +kernel
theorem d_S_charAt_11 : decode b_S_charAt 11 = .ok (.iload_n 1, 1) := by decide +kernel
theorem d_S_charAt_12 : decode b_S_charAt 12 = .ok (.invokestatic 495, 3) := by decide +kernel
theorem d_S_charAt_15 : decode b_S_charAt 15 = .ok (.ireturn, 1) := by decide +kernel
theorem d_S_charAt_16 : decode b_S_charAt 16 = .ok (.aload_n 0, 1) := by decide +kernel
theorem d_S_charAt_17 : decode b_S_charAt 17 = .ok (.getfield 9, 3) := by decide +kernel
theorem d_S_charAt_20 : decode b_S_charAt 20 = .ok (.iload_n 1, 1) := by decide +kernel
theorem d_S_charAt_21 : decode b_S_charAt 21 = .ok (.invokestatic 498, 3) := by decide +kernel
theorem d_S_charAt_24 : decode b_S_charAt 24 = .ok (.ireturn, 1) := by decide +kernel
theorem d_S_coder_0 : decode b_S_coder 0 = .ok (.getstatic 38, 3) := by decide +kernel
theorem d_S_coder_3 : decode b_S_coder 3 = .ok (.ifCond .eq 10, 3) := by decide +kernel
theorem d_S_coder_6 : decode b_S_coder 6 = .ok (.aload_n 0, 1) := by decide +kernel
theorem d_S_coder_7 : decode b_S_coder 7 = .ok (.getfield 15, 3) := by decide +kernel
theorem d_S_coder_10 : decode b_S_coder 10 = .ok (.goto 4, 3) := by decide +kernel
theorem d_S_coder_13 : decode b_S_coder 13 = .ok (.iconst 1, 1) := by decide +kernel
theorem d_S_coder_14 : decode b_S_coder 14 = .ok (.ireturn, 1) := by decide +kernel
theorem d_S_isLatin1_0 : decode b_S_isLatin1 0 = .ok (.getstatic 38, 3) := by decide +kernel
theorem d_S_isLatin1_3 : decode b_S_isLatin1 3 = .ok (.ifCond .eq 14, 3) := by decide +kernel
theorem d_S_isLatin1_6 : decode b_S_isLatin1 6 = .ok (.aload_n 0, 1) := by decide +kernel
theorem d_S_isLatin1_7 : decode b_S_isLatin1 7 = .ok (.getfield 15, 3) := by decide +kernel
theorem d_S_isLatin1_10 : decode b_S_isLatin1 10 = .ok (.ifCond .ne 7, 3) := by decide +kernel
theorem d_S_isLatin1_13 : decode b_S_isLatin1 13 = .ok (.iconst 1, 1) := by decide +kernel
theorem d_S_isLatin1_14 : decode b_S_isLatin1 14 = .ok (.goto 4, 3) := by decide +kernel
theorem d_S_isLatin1_17 : decode b_S_isLatin1 17 = .ok (.iconst 0, 1) := by decide +kernel
theorem d_S_isLatin1_18 : decode b_S_isLatin1 18 = .ok (.ireturn, 1) := by decide +kernel
theorem d_S_length_0 : decode b_S_length 0 = .ok (.aload_n 0, 1) := by decide +kernel
theorem d_S_length_1 : decode b_S_length 1 = .ok (.getfield 9, 3) := by decide +kernel
theorem d_S_length_4 : decode b_S_length 4 = .ok (.arraylength, 1) := by decide +kernel
theorem d_S_length_5 : decode b_S_length 5 = .ok (.aload_n 0, 1) := by decide +kernel
theorem d_S_length_6 : decode b_S_length 6 = .ok (.invokevirtual 335, 3) := by decide +kernel
theorem d_S_length_9 : decode b_S_length 9 = .ok (.ishr, 1) := by decide +kernel
theorem d_S_length_10 : decode b_S_length 10 = .ok (.ireturn, 1) := by decide +kernel
theorem d_T_action_0 : decode b_T_action 0 = .ok (.aload_n 0, 1) := by decide +kernel
theorem d_T_action_1 : decode b_T_action 1 = .ok (.getfield 41, 3) := by decide +kernel
theorem d_T_action_4 : decode b_T_action 4 = .ok (.ireturn, 1) := by decide +kernel
theorem d_T_clear_0 : decode b_T_clear 0 = .ok (.aload_n 0, 1) := by decide +kernel
theorem d_T_clear_1 : decode b_T_clear 1 = .ok (.iconst 0, 1) := by decide +kernel
theorem d_T_clear_2 : decode b_T_clear 2 = .ok (.putfield 15, 3) := by decide +kernel
theorem d_T_clear_5 : decode b_T_clear 5 = .ok (.return_, 1) := by decide +kernel
theorem d_T_collect_0 : decode b_T_collect 0 = .ok (.aload_n 0, 1) := by decide +kernel
theorem d_T_collect_1 : decode b_T_collect 1 = .ok (.getfield 15, 3) := by decide +kernel
theorem d_T_collect_4 : decode b_T_collect 4 = .ok (.ifCond .lt 39, 3) := by decide +kernel
theorem d_T_collect_7 : decode b_T_collect 7 = .ok (.aload_n 0, 1) := by decide +kernel
theorem d_T_collect_8 : decode b_T_collect 8 = .ok (.getfield 15, 3) := by decide +kernel
theorem d_T_collect_11 : decode b_T_collect 11 = .ok (.aload_n 0, 1) := by decide +kernel
theorem d_T_collect_12 : decode b_T_collect 12 = .ok (.getfield 9, 3) := by decide +kernel
theorem d_T_collect_15 : decode b_T_collect 15 = .ok (.arraylength, 1) := by decide +kernel
theorem d_T_collect_16 : decode b_T_collect 16 = .ok (.if_icmp .ge 27, 3) := by decide +kernel
theorem d_T_collect_19 : decode b_T_collect 19 = .ok (.aload_n 0, 1) := by decide +kernel
theorem d_T_collect_20 : decode b_T_collect 20 = .ok (.getfield 9, 3) := by decide +kernel
theorem d_T_collect_23 : decode b_T_collect 23 = .ok (.aload_n 0, 1) := by decide +kernel
theorem d_T_collect_24 : decode b_T_collect 24 = .ok (.getfield 15, 3) := by decide +kernel
theorem d_T_collect_27 : decode b_T_collect 27 = .ok (.iload_n 1, 1) := by decide +kernel
theorem d_T_collect_28 : decode b_T_collect 28 = .ok (.sipush 255, 3) := by decide +kernel
theorem d_T_collect_31 : decode b_T_collect 31 = .ok (.iand, 1) := by decide +kernel
theorem d_T_collect_32 : decode b_T_collect 32 = .ok (.iastore, 1) := by decide +kernel
theorem d_T_collect_33 : decode b_T_collect 33 = .ok (.aload_n 0, 1) := by decide +kernel
theorem d_T_collect_34 : decode b_T_collect 34 = .ok (.dup, 1) := by decide +kernel
theorem d_T_collect_35 : decode b_T_collect 35 = .ok (.getfield 15, 3) := by decide +kernel
theorem d_T_collect_38 : decode b_T_collect 38 = .ok (.iconst 1, 1) := by decide +kernel
theorem d_T_collect_39 : decode b_T_collect 39 = .ok (.iadd, 1) := by decide +kernel
theorem d_T_collect_40 : decode b_T_collect 40 = .ok (.putfield 15, 3) := by decide +kernel
theorem d_T_collect_43 : decode b_T_collect 43 = .ok (.return_, 1) := by decide +kernel
theorem d_T_eventKind_0 : decode b_T_eventKind 0 = .ok (.aload_n 0, 1) := by decide +kernel
theorem d_T_eventKind_1 : decode b_T_eventKind 1 = .ok (.getfield 35, 3) := by decide +kernel
theorem d_T_eventKind_4 : decode b_T_eventKind 4 = .ok (.ireturn, 1) := by decide +kernel
theorem d_T_eventWord_0 : decode b_T_eventWord 0 = .ok (.iload_n 0, 1) := by decide +kernel
theorem d_T_eventWord_1 : decode b_T_eventWord 1 = .ok (.tableswitch 36 0 2 #[27, 30, 33], 27) := by decide +kernel
theorem d_T_eventWord_28 : decode b_T_eventWord 28 = .ok (.ldc 68, 2) := by decide +kernel
theorem d_T_eventWord_30 : decode b_T_eventWord 30 = .ok (.areturn, 1) := by decide +kernel
theorem d_T_eventWord_31 : decode b_T_eventWord 31 = .ok (.ldc 70, 2) := by decide +kernel
theorem d_T_eventWord_33 : decode b_T_eventWord 33 = .ok (.areturn, 1) := by decide +kernel
theorem d_T_eventWord_34 : decode b_T_eventWord 34 = .ok (.ldc 72, 2) := by decide +kernel
theorem d_T_eventWord_36 : decode b_T_eventWord 36 = .ok (.areturn, 1) := by decide +kernel
theorem d_T_eventWord_37 : decode b_T_eventWord 37 = .ok (.ldc 74, 2) := by decide +kernel
theorem d_T_eventWord_39 : decode b_T_eventWord 39 = .ok (.areturn, 1) := by decide +kernel
theorem d_T_init_0 : decode b_T_init 0 = .ok (.aload_n 0, 1) := by decide +kernel
theorem d_T_init_1 : decode b_T_init 1 = .ok (.invokespecial 3, 3) := by decide +kernel
theorem d_T_init_4 : decode b_T_init 4 = .ok (.aload_n 0, 1) := by decide +kernel
theorem d_T_init_5 : decode b_T_init 5 = .ok (.bipush 40, 2) := by decide +kernel
theorem d_T_init_7 : decode b_T_init 7 = .ok (.newarray .int, 2) := by decide +kernel
theorem d_T_init_9 : decode b_T_init 9 = .ok (.putfield 9, 3) := by decide +kernel
theorem d_T_init_12 : decode b_T_init 12 = .ok (.return_, 1) := by decide +kernel
theorem d_T_isDigit_0 : decode b_T_isDigit 0 = .ok (.iload_n 0, 1) := by decide +kernel
theorem d_T_isDigit_1 : decode b_T_isDigit 1 = .ok (.bipush 48, 2) := by decide +kernel
theorem d_T_isDigit_3 : decode b_T_isDigit 3 = .ok (.if_icmp .lt 13, 3) := by decide +kernel
theorem d_T_isDigit_6 : decode b_T_isDigit 6 = .ok (.iload_n 0, 1) := by decide +kernel
theorem d_T_isDigit_7 : decode b_T_isDigit 7 = .ok (.bipush 57, 2) := by decide +kernel
theorem d_T_isDigit_9 : decode b_T_isDigit 9 = .ok (.if_icmp .gt 7, 3) := by decide +kernel
theorem d_T_isDigit_12 : decode b_T_isDigit 12 = .ok (.iconst 1, 1) := by decide +kernel
theorem d_T_isDigit_13 : decode b_T_isDigit 13 = .ok (.goto 4, 3) := by decide +kernel
theorem d_T_isDigit_16 : decode b_T_isDigit 16 = .ok (.iconst 0, 1) := by decide +kernel
theorem d_T_isDigit_17 : decode b_T_isDigit 17 = .ok (.ireturn, 1) := by decide +kernel
theorem d_T_isSmallLetter_0 : decode b_T_isSmallLetter 0 = .ok (.iload_n 0, 1) := by decide +kernel
theorem d_T_isSmallLetter_1 : decode b_T_isSmallLetter 1 = .ok (.bipush 97, 2) := by decide +kernel
theorem d_T_isSmallLetter_3 : decode b_T_isSmallLetter 3 = .ok (.if_icmp .lt 13, 3) := by decide +kernel
theorem d_T_isSmallLetter_6 : decode b_T_isSmallLetter 6 = .ok (.iload_n 0, 1) := by decide +kernel
theorem d_T_isSmallLetter_7 : decode b_T_isSmallLetter 7 = .ok (.bipush 122, 2) := by decide +kernel
theorem d_T_isSmallLetter_9 : decode b_T_isSmallLetter 9 = .ok (.if_icmp .gt 7, 3) := by decide +kernel
theorem d_T_isSmallLetter_12 : decode b_T_isSmallLetter 12 = .ok (.iconst 1, 1) := by decide +kernel
theorem d_T_isSmallLetter_13 : decode b_T_isSmallLetter 13 = .ok (.goto 4, 3) := by decide +kernel
theorem d_T_isSmallLetter_16 : decode b_T_isSmallLetter 16 = .ok (.iconst 0, 1) := by decide +kernel
theorem d_T_isSmallLetter_17 : decode b_T_isSmallLetter 17 = .ok (.ireturn, 1) := by decide +kernel
theorem d_T_isWord_0 : decode b_T_isWord 0 = .ok (.iload_n 2, 1) := by decide +kernel
theorem d_T_isWord_1 : decode b_T_isWord 1 = .ok (.aload_n 0, 1) := by decide +kernel
theorem d_T_isWord_2 : decode b_T_isWord 2 = .ok (.getfield 19, 3) := by decide +kernel
theorem d_T_isWord_5 : decode b_T_isWord 5 = .ok (.isub, 1) := by decide +kernel
theorem d_T_isWord_6 : decode b_T_isWord 6 = .ok (.aload_n 1, 1) := by decide +kernel
theorem d_T_isWord_7 : decode b_T_isWord 7 = .ok (.invokevirtual 79, 3) := by decide +kernel
theorem d_T_isWord_10 : decode b_T_isWord 10 = .ok (.if_icmp .eq 5, 3) := by decide +kernel
theorem d_T_isWord_13 : decode b_T_isWord 13 = .ok (.iconst 0, 1) := by decide +kernel
theorem d_T_isWord_14 : decode b_T_isWord 14 = .ok (.ireturn, 1) := by decide +kernel
theorem d_T_isWord_15 : decode b_T_isWord 15 = .ok (.iconst 0, 1) := by decide +kernel
theorem d_T_isWord_16 : decode b_T_isWord 16 = .ok (.istore_n 3, 1) := by decide +kernel
theorem d_T_isWord_17 : decode b_T_isWord 17 = .ok (.iload_n 3, 1) := by decide +kernel
theorem d_T_isWord_18 : decode b_T_isWord 18 = .ok (.aload_n 1, 1) := by decide +kernel
theorem d_T_isWord_19 : decode b_T_isWord 19 = .ok (.invokevirtual 79, 3) := by decide +kernel
theorem d_T_isWord_22 : decode b_T_isWord 22 = .ok (.if_icmp .ge 29, 3) := by decide +kernel
theorem d_T_isWord_25 : decode b_T_isWord 25 = .ok (.aload_n 0, 1) := by decide +kernel
theorem d_T_isWord_26 : decode b_T_isWord 26 = .ok (.aload_n 0, 1) := by decide +kernel
theorem d_T_isWord_27 : decode b_T_isWord 27 = .ok (.getfield 19, 3) := by decide +kernel
theorem d_T_isWord_30 : decode b_T_isWord 30 = .ok (.iload_n 3, 1) := by decide +kernel
theorem d_T_isWord_31 : decode b_T_isWord 31 = .ok (.iadd, 1) := by decide +kernel
theorem d_T_isWord_32 : decode b_T_isWord 32 = .ok (.invokevirtual 60, 3) := by decide +kernel
theorem d_T_isWord_35 : decode b_T_isWord 35 = .ok (.aload_n 1, 1) := by decide +kernel
theorem d_T_isWord_36 : decode b_T_isWord 36 = .ok (.iload_n 3, 1) := by decide +kernel
theorem d_T_isWord_37 : decode b_T_isWord 37 = .ok (.invokevirtual 83, 3) := by decide +kernel
theorem d_T_isWord_40 : decode b_T_isWord 40 = .ok (.if_icmp .eq 5, 3) := by decide +kernel
theorem d_T_isWord_43 : decode b_T_isWord 43 = .ok (.iconst 0, 1) := by decide +kernel
theorem d_T_isWord_44 : decode b_T_isWord 44 = .ok (.ireturn, 1) := by decide +kernel
theorem d_T_isWord_45 : decode b_T_isWord 45 = .ok (.iinc 3 1, 3) := by decide +kernel
theorem d_T_isWord_48 : decode b_T_isWord 48 = .ok (.goto (-31), 3) := by decide +kernel
theorem d_T_isWord_51 : decode b_T_isWord 51 = .ok (.iconst 1, 1) := by decide +kernel
theorem d_T_isWord_52 : decode b_T_isWord 52 = .ok (.ireturn, 1) := by decide +kernel
theorem d_T_place_0 : decode b_T_place 0 = .ok (.aload_n 0, 1) := by decide +kernel
theorem d_T_place_1 : decode b_T_place 1 = .ok (.getfield 19, 3) := by decide +kernel
theorem d_T_place_4 : decode b_T_place 4 = .ok (.ireturn, 1) := by decide +kernel
theorem d_T_read_0 : decode b_T_read 0 = .ok (.aload_n 0, 1) := by decide +kernel
theorem d_T_read_1 : decode b_T_read 1 = .ok (.iconst 0, 1) := by decide +kernel
theorem d_T_read_2 : decode b_T_read 2 = .ok (.putfield 19, 3) := by decide +kernel
theorem d_T_read_5 : decode b_T_read 5 = .ok (.aload_n 0, 1) := by decide +kernel
theorem d_T_read_6 : decode b_T_read 6 = .ok (.invokevirtual 22, 3) := by decide +kernel
theorem d_T_read_9 : decode b_T_read 9 = .ok (.ifCond .eq 46, 3) := by decide +kernel
theorem d_T_read_12 : decode b_T_read 12 = .ok (.aload_n 0, 1) := by decide +kernel
theorem d_T_read_13 : decode b_T_read 13 = .ok (.invokevirtual 26, 3) := by decide +kernel
theorem d_T_read_16 : decode b_T_read 16 = .ok (.ifCond .eq 39, 3) := by decide +kernel
theorem d_T_read_19 : decode b_T_read 19 = .ok (.aload_n 0, 1) := by decide +kernel
theorem d_T_read_20 : decode b_T_read 20 = .ok (.invokevirtual 29, 3) := by decide +kernel
theorem d_T_read_23 : decode b_T_read 23 = .ok (.ifCond .eq 32, 3) := by decide +kernel
theorem d_T_read_26 : decode b_T_read 26 = .ok (.aload_n 0, 1) := by decide +kernel
theorem d_T_read_27 : decode b_T_read 27 = .ok (.invokevirtual 26, 3) := by decide +kernel
theorem d_T_read_30 : decode b_T_read 30 = .ok (.ifCond .eq 25, 3) := by decide +kernel
theorem d_T_read_33 : decode b_T_read 33 = .ok (.aload_n 0, 1) := by decide +kernel
theorem d_T_read_34 : decode b_T_read 34 = .ok (.invokevirtual 32, 3) := by decide +kernel
theorem d_T_read_37 : decode b_T_read 37 = .ok (.ifCond .eq 18, 3) := by decide +kernel
theorem d_T_read_40 : decode b_T_read 40 = .ok (.aload_n 0, 1) := by decide +kernel
theorem d_T_read_41 : decode b_T_read 41 = .ok (.getfield 19, 3) := by decide +kernel
theorem d_T_read_44 : decode b_T_read 44 = .ok (.aload_n 0, 1) := by decide +kernel
theorem d_T_read_45 : decode b_T_read 45 = .ok (.getfield 15, 3) := by decide +kernel
theorem d_T_read_48 : decode b_T_read 48 = .ok (.if_icmp .ne 7, 3) := by decide +kernel
theorem d_T_read_51 : decode b_T_read 51 = .ok (.iconst 1, 1) := by decide +kernel
theorem d_T_read_52 : decode b_T_read 52 = .ok (.goto 4, 3) := by decide +kernel
theorem d_T_read_55 : decode b_T_read 55 = .ok (.iconst 0, 1) := by decide +kernel
theorem d_T_read_56 : decode b_T_read 56 = .ok (.ireturn, 1) := by decide +kernel
theorem d_T_readAction_0 : decode b_T_readAction 0 = .ok (.aload_n 0, 1) := by decide +kernel
theorem d_T_readAction_1 : decode b_T_readAction 1 = .ok (.invokevirtual 44, 3) := by decide +kernel
theorem d_T_readAction_4 : decode b_T_readAction 4 = .ok (.istore_n 1, 1) := by decide +kernel
theorem d_T_readAction_5 : decode b_T_readAction 5 = .ok (.aload_n 0, 1) := by decide +kernel
theorem d_T_readAction_6 : decode b_T_readAction 6 = .ok (.ldc 56, 2) := by decide +kernel
theorem d_T_readAction_8 : decode b_T_readAction 8 = .ok (.iload_n 1, 1) := by decide +kernel
theorem d_T_readAction_9 : decode b_T_readAction 9 = .ok (.invokevirtual 52, 3) := by decide +kernel
theorem d_T_readAction_12 : decode b_T_readAction 12 = .ok (.ifCond .eq 11, 3) := by decide +kernel
theorem d_T_readAction_15 : decode b_T_readAction 15 = .ok (.aload_n 0, 1) := by decide +kernel
theorem d_T_readAction_16 : decode b_T_readAction 16 = .ok (.iconst 0, 1) := by decide +kernel
theorem d_T_readAction_17 : decode b_T_readAction 17 = .ok (.putfield 41, 3) := by decide +kernel
theorem d_T_readAction_20 : decode b_T_readAction 20 = .ok (.goto 23, 3) := by decide +kernel
theorem d_T_readAction_23 : decode b_T_readAction 23 = .ok (.aload_n 0, 1) := by decide +kernel
theorem d_T_readAction_24 : decode b_T_readAction 24 = .ok (.ldc 58, 2) := by decide +kernel
theorem d_T_readAction_26 : decode b_T_readAction 26 = .ok (.iload_n 1, 1) := by decide +kernel
theorem d_T_readAction_27 : decode b_T_readAction 27 = .ok (.invokevirtual 52, 3) := by decide +kernel
theorem d_T_readAction_30 : decode b_T_readAction 30 = .ok (.ifCond .eq 11, 3) := by decide +kernel
theorem d_T_readAction_33 : decode b_T_readAction 33 = .ok (.aload_n 0, 1) := by decide +kernel
theorem d_T_readAction_34 : decode b_T_readAction 34 = .ok (.iconst 1, 1) := by decide +kernel
theorem d_T_readAction_35 : decode b_T_readAction 35 = .ok (.putfield 41, 3) := by decide +kernel
theorem d_T_readAction_38 : decode b_T_readAction 38 = .ok (.goto 5, 3) := by decide +kernel
theorem d_T_readAction_41 : decode b_T_readAction 41 = .ok (.iconst 0, 1) := by decide +kernel
theorem d_T_readAction_42 : decode b_T_readAction 42 = .ok (.ireturn, 1) := by decide +kernel
theorem d_T_readAction_43 : decode b_T_readAction 43 = .ok (.aload_n 0, 1) := by decide +kernel
theorem d_T_readAction_44 : decode b_T_readAction 44 = .ok (.iload_n 1, 1) := by decide +kernel
theorem d_T_readAction_45 : decode b_T_readAction 45 = .ok (.putfield 19, 3) := by decide +kernel
theorem d_T_readAction_48 : decode b_T_readAction 48 = .ok (.iconst 1, 1) := by decide +kernel
theorem d_T_readAction_49 : decode b_T_readAction 49 = .ok (.ireturn, 1) := by decide +kernel
theorem d_T_readEvent_0 : decode b_T_readEvent 0 = .ok (.aload_n 0, 1) := by decide +kernel
theorem d_T_readEvent_1 : decode b_T_readEvent 1 = .ok (.invokevirtual 44, 3) := by decide +kernel
theorem d_T_readEvent_4 : decode b_T_readEvent 4 = .ok (.istore_n 1, 1) := by decide +kernel
theorem d_T_readEvent_5 : decode b_T_readEvent 5 = .ok (.iconst 0, 1) := by decide +kernel
theorem d_T_readEvent_6 : decode b_T_readEvent 6 = .ok (.istore_n 2, 1) := by decide +kernel
theorem d_T_readEvent_7 : decode b_T_readEvent 7 = .ok (.iload_n 2, 1) := by decide +kernel
theorem d_T_readEvent_8 : decode b_T_readEvent 8 = .ok (.iconst 4, 1) := by decide +kernel
theorem d_T_readEvent_9 : decode b_T_readEvent 9 = .ok (.if_icmp .ge 33, 3) := by decide +kernel
theorem d_T_readEvent_12 : decode b_T_readEvent 12 = .ok (.aload_n 0, 1) := by decide +kernel
theorem d_T_readEvent_13 : decode b_T_readEvent 13 = .ok (.iload_n 2, 1) := by decide +kernel
theorem d_T_readEvent_14 : decode b_T_readEvent 14 = .ok (.invokestatic 48, 3) := by decide +kernel
theorem d_T_readEvent_17 : decode b_T_readEvent 17 = .ok (.iload_n 1, 1) := by decide +kernel
theorem d_T_readEvent_18 : decode b_T_readEvent 18 = .ok (.invokevirtual 52, 3) := by decide +kernel
theorem d_T_readEvent_21 : decode b_T_readEvent 21 = .ok (.ifCond .eq 15, 3) := by decide +kernel
theorem d_T_readEvent_24 : decode b_T_readEvent 24 = .ok (.aload_n 0, 1) := by decide +kernel
theorem d_T_readEvent_25 : decode b_T_readEvent 25 = .ok (.iload_n 2, 1) := by decide +kernel
theorem d_T_readEvent_26 : decode b_T_readEvent 26 = .ok (.putfield 35, 3) := by decide +kernel
theorem d_T_readEvent_29 : decode b_T_readEvent 29 = .ok (.aload_n 0, 1) := by decide +kernel
theorem d_T_readEvent_30 : decode b_T_readEvent 30 = .ok (.iload_n 1, 1) := by decide +kernel
theorem d_T_readEvent_31 : decode b_T_readEvent 31 = .ok (.putfield 19, 3) := by decide +kernel
theorem d_T_readEvent_34 : decode b_T_readEvent 34 = .ok (.iconst 1, 1) := by decide +kernel
theorem d_T_readEvent_35 : decode b_T_readEvent 35 = .ok (.ireturn, 1) := by decide +kernel
theorem d_T_readEvent_36 : decode b_T_readEvent 36 = .ok (.iinc 2 1, 3) := by decide +kernel
theorem d_T_readEvent_39 : decode b_T_readEvent 39 = .ok (.goto (-32), 3) := by decide +kernel
theorem d_T_readEvent_42 : decode b_T_readEvent 42 = .ok (.iconst 0, 1) := by decide +kernel
theorem d_T_readEvent_43 : decode b_T_readEvent 43 = .ok (.ireturn, 1) := by decide +kernel
theorem d_T_readSpace_0 : decode b_T_readSpace 0 = .ok (.aload_n 0, 1) := by decide +kernel
theorem d_T_readSpace_1 : decode b_T_readSpace 1 = .ok (.aload_n 0, 1) := by decide +kernel
theorem d_T_readSpace_2 : decode b_T_readSpace 2 = .ok (.getfield 19, 3) := by decide +kernel
theorem d_T_readSpace_5 : decode b_T_readSpace 5 = .ok (.invokevirtual 60, 3) := by decide +kernel
theorem d_T_readSpace_8 : decode b_T_readSpace 8 = .ok (.bipush 32, 2) := by decide +kernel
theorem d_T_readSpace_10 : decode b_T_readSpace 10 = .ok (.if_icmp .eq 5, 3) := by decide +kernel
theorem d_T_readSpace_13 : decode b_T_readSpace 13 = .ok (.iconst 0, 1) := by decide +kernel
theorem d_T_readSpace_14 : decode b_T_readSpace 14 = .ok (.ireturn, 1) := by decide +kernel
theorem d_T_readSpace_15 : decode b_T_readSpace 15 = .ok (.aload_n 0, 1) := by decide +kernel
theorem d_T_readSpace_16 : decode b_T_readSpace 16 = .ok (.dup, 1) := by decide +kernel
theorem d_T_readSpace_17 : decode b_T_readSpace 17 = .ok (.getfield 19, 3) := by decide +kernel
theorem d_T_readSpace_20 : decode b_T_readSpace 20 = .ok (.iconst 1, 1) := by decide +kernel
theorem d_T_readSpace_21 : decode b_T_readSpace 21 = .ok (.iadd, 1) := by decide +kernel
theorem d_T_readSpace_22 : decode b_T_readSpace 22 = .ok (.putfield 19, 3) := by decide +kernel
theorem d_T_readSpace_25 : decode b_T_readSpace 25 = .ok (.iconst 1, 1) := by decide +kernel
theorem d_T_readSpace_26 : decode b_T_readSpace 26 = .ok (.ireturn, 1) := by decide +kernel
theorem d_T_readYears_0 : decode b_T_readYears 0 = .ok (.aload_n 0, 1) := by decide +kernel
theorem d_T_readYears_1 : decode b_T_readYears 1 = .ok (.getfield 19, 3) := by decide +kernel
theorem d_T_readYears_4 : decode b_T_readYears 4 = .ok (.istore_n 1, 1) := by decide +kernel
theorem d_T_readYears_5 : decode b_T_readYears 5 = .ok (.aload_n 0, 1) := by decide +kernel
theorem d_T_readYears_6 : decode b_T_readYears 6 = .ok (.iconst 0, 1) := by decide +kernel
theorem d_T_readYears_7 : decode b_T_readYears 7 = .ok (.putfield 38, 3) := by decide +kernel
theorem d_T_readYears_10 : decode b_T_readYears 10 = .ok (.aload_n 0, 1) := by decide +kernel
theorem d_T_readYears_11 : decode b_T_readYears 11 = .ok (.getfield 19, 3) := by decide +kernel
theorem d_T_readYears_14 : decode b_T_readYears 14 = .ok (.iload_n 1, 1) := by decide +kernel
theorem d_T_readYears_15 : decode b_T_readYears 15 = .ok (.isub, 1) := by decide +kernel
theorem d_T_readYears_16 : decode b_T_readYears 16 = .ok (.iconst 3, 1) := by decide +kernel
theorem d_T_readYears_17 : decode b_T_readYears 17 = .ok (.if_icmp .ge 53, 3) := by decide +kernel
theorem d_T_readYears_20 : decode b_T_readYears 20 = .ok (.aload_n 0, 1) := by decide +kernel
theorem d_T_readYears_21 : decode b_T_readYears 21 = .ok (.aload_n 0, 1) := by decide +kernel
theorem d_T_readYears_22 : decode b_T_readYears 22 = .ok (.getfield 19, 3) := by decide +kernel
theorem d_T_readYears_25 : decode b_T_readYears 25 = .ok (.invokevirtual 60, 3) := by decide +kernel
theorem d_T_readYears_28 : decode b_T_readYears 28 = .ok (.invokestatic 64, 3) := by decide +kernel
theorem d_T_readYears_31 : decode b_T_readYears 31 = .ok (.ifCond .eq 39, 3) := by decide +kernel
theorem d_T_readYears_34 : decode b_T_readYears 34 = .ok (.aload_n 0, 1) := by decide +kernel
theorem d_T_readYears_35 : decode b_T_readYears 35 = .ok (.aload_n 0, 1) := by decide +kernel
theorem d_T_readYears_36 : decode b_T_readYears 36 = .ok (.getfield 38, 3) := by decide +kernel
theorem d_T_readYears_39 : decode b_T_readYears 39 = .ok (.bipush 10, 2) := by decide +kernel
theorem d_T_readYears_41 : decode b_T_readYears 41 = .ok (.imul, 1) := by decide +kernel
theorem d_T_readYears_42 : decode b_T_readYears 42 = .ok (.aload_n 0, 1) := by decide +kernel
theorem d_T_readYears_43 : decode b_T_readYears 43 = .ok (.aload_n 0, 1) := by decide +kernel
theorem d_T_readYears_44 : decode b_T_readYears 44 = .ok (.getfield 19, 3) := by decide +kernel
theorem d_T_readYears_47 : decode b_T_readYears 47 = .ok (.invokevirtual 60, 3) := by decide +kernel
theorem d_T_readYears_50 : decode b_T_readYears 50 = .ok (.iadd, 1) := by decide +kernel
theorem d_T_readYears_51 : decode b_T_readYears 51 = .ok (.bipush 48, 2) := by decide +kernel
theorem d_T_readYears_53 : decode b_T_readYears 53 = .ok (.isub, 1) := by decide +kernel
theorem d_T_readYears_54 : decode b_T_readYears 54 = .ok (.putfield 38, 3) := by decide +kernel
theorem d_T_readYears_57 : decode b_T_readYears 57 = .ok (.aload_n 0, 1) := by decide +kernel
theorem d_T_readYears_58 : decode b_T_readYears 58 = .ok (.dup, 1) := by decide +kernel
theorem d_T_readYears_59 : decode b_T_readYears 59 = .ok (.getfield 19, 3) := by decide +kernel
theorem d_T_readYears_62 : decode b_T_readYears 62 = .ok (.iconst 1, 1) := by decide +kernel
theorem d_T_readYears_63 : decode b_T_readYears 63 = .ok (.iadd, 1) := by decide +kernel
theorem d_T_readYears_64 : decode b_T_readYears 64 = .ok (.putfield 19, 3) := by decide +kernel
theorem d_T_readYears_67 : decode b_T_readYears 67 = .ok (.goto (-57), 3) := by decide +kernel
theorem d_T_readYears_70 : decode b_T_readYears 70 = .ok (.aload_n 0, 1) := by decide +kernel
theorem d_T_readYears_71 : decode b_T_readYears 71 = .ok (.getfield 19, 3) := by decide +kernel
theorem d_T_readYears_74 : decode b_T_readYears 74 = .ok (.iload_n 1, 1) := by decide +kernel
theorem d_T_readYears_75 : decode b_T_readYears 75 = .ok (.if_icmp .le 7, 3) := by decide +kernel
theorem d_T_readYears_78 : decode b_T_readYears 78 = .ok (.iconst 1, 1) := by decide +kernel
theorem d_T_readYears_79 : decode b_T_readYears 79 = .ok (.goto 4, 3) := by decide +kernel
theorem d_T_readYears_82 : decode b_T_readYears 82 = .ok (.iconst 0, 1) := by decide +kernel
theorem d_T_readYears_83 : decode b_T_readYears 83 = .ok (.ireturn, 1) := by decide +kernel
theorem d_T_signAt_0 : decode b_T_signAt 0 = .ok (.iload_n 1, 1) := by decide +kernel
theorem d_T_signAt_1 : decode b_T_signAt 1 = .ok (.ifCond .lt 29, 3) := by decide +kernel
theorem d_T_signAt_4 : decode b_T_signAt 4 = .ok (.iload_n 1, 1) := by decide +kernel
theorem d_T_signAt_5 : decode b_T_signAt 5 = .ok (.aload_n 0, 1) := by decide +kernel
theorem d_T_signAt_6 : decode b_T_signAt 6 = .ok (.getfield 15, 3) := by decide +kernel
theorem d_T_signAt_9 : decode b_T_signAt 9 = .ok (.if_icmp .ge 21, 3) := by decide +kernel
theorem d_T_signAt_12 : decode b_T_signAt 12 = .ok (.iload_n 1, 1) := by decide +kernel
theorem d_T_signAt_13 : decode b_T_signAt 13 = .ok (.aload_n 0, 1) := by decide +kernel
