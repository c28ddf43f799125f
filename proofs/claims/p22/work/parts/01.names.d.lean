set_option maxRecDepth 20000 in
theorem gL_covers_X4_isSubscribed : GoodIn wsL_covers (wsV RL 16 RX4 yX4_isSubscribed wsX4_isSubscribed) := goodIn_app (goodIn_of _ (by decide +kernel)) ggL_covers_X4_isSubscribed
set_option maxRecDepth 20000 in
theorem ggL_covers_X4_isIn : GoodIn wsL_covers wsX4_isIn := goodIn_ca (goodIn_ca (goodIn_ca (goodIn_r _ [98, 24, 99, 100, 101, 4, 102, 6, 7, 8, 9, 10, 11, 12, 13, 14, 15, 16, 17, 18, 19, 103, 49, 50, 36, 51, 52, 53, 25, 26, 27, 28, 29, 91, 92, 93, 57, 94, 59, 61, 62, 63, 64, 65, 66, 67, 104, 105, 106, 107, 108, 109, 110, 111, 112, 113, 114, 115, 116, 117, 118, 119, 120, 121] (by decide +kernel) (by decide +kernel)) (goodIn_sub (fun _ h => List.mem_cons_of_mem _ (List.mem_append_left _ (List.mem_append_left _ (List.mem_append_right _ h)))) (by decide +kernel))) (goodIn_sub (fun _ h => List.mem_cons_of_mem _ (List.mem_append_right _ h)) (by decide +kernel))) (goodIn_sub (fun _ h => List.mem_cons_of_mem _ (List.mem_append_left _ (List.mem_append_right _ h))) (by decide +kernel))
set_option maxRecDepth 20000 in
theorem gL_covers_X4_isIn : GoodIn wsL_covers (wsV RL 30 RX4 yX4_isIn wsX4_isIn) := goodIn_app (goodIn_of _ (by decide +kernel)) ggL_covers_X4_isIn
theorem dL_covers_0 : decode cL_covers 0 = .ok (.aload_n 2, 1) := by decide +kernel
theorem dL_covers_1 : decode cL_covers 1 = .ok (.iconst 4, 1) := by decide +kernel
theorem dL_covers_2 : decode cL_covers 2 = .ok (.iload_n 3, 1) := by decide +kernel
theorem dL_covers_3 : decode cL_covers 3 = .ok (.imul, 1) := by decide +kernel
theorem dL_covers_4 : decode cL_covers 4 = .ok (.iload 4, 2) := by decide +kernel
theorem dL_covers_6 : decode cL_covers 6 = .ok (.iadd, 1) := by decide +kernel
theorem dL_covers_7 : decode cL_covers 7 = .ok (.iaload, 1) := by decide +kernel
theorem dL_covers_8 : decode cL_covers 8 = .ok (.istore 7, 2) := by decide +kernel
theorem dL_covers_10 : decode cL_covers 10 = .ok (.aload_n 1, 1) := by decide +kernel
theorem dL_covers_11 : decode cL_covers 11 = .ok (.bipush 24, 2) := by decide +kernel
theorem dL_covers_13 : decode cL_covers 13 = .ok (.iload_n 3, 1) := by decide +kernel
theorem dL_covers_14 : decode cL_covers 14 = .ok (.iadd, 1) := by decide +kernel
theorem dL_covers_15 : decode cL_covers 15 = .ok (.iaload, 1) := by decide +kernel
theorem dL_covers_16 : decode cL_covers 16 = .ok (.iconst 1, 1) := by decide +kernel
theorem dL_covers_17 : decode cL_covers 17 = .ok (.if_icmp .ne 61, 3) := by decide +kernel
theorem dL_covers_20 : decode cL_covers 20 = .ok (.iload 7, 2) := by decide +kernel
theorem dL_covers_22 : decode cL_covers 22 = .ok (.iconst 2, 1) := by decide +kernel
theorem dL_covers_23 : decode cL_covers 23 = .ok (.irem, 1) := by decide +kernel
theorem dL_covers_24 : decode cL_covers 24 = .ok (.iconst 1, 1) := by decide +kernel
theorem dL_covers_25 : decode cL_covers 25 = .ok (.if_icmp .ne 53, 3) := by decide +kernel
theorem dL_covers_28 : decode cL_covers 28 = .ok (.iload 5, 2) := by decide +kernel
theorem dL_covers_30 : decode cL_covers 30 = .ok (.iload 7, 2) := by decide +kernel
theorem dL_covers_32 : decode cL_covers 32 = .ok (.iconst 2, 1) := by decide +kernel
theorem dL_covers_33 : decode cL_covers 33 = .ok (.idiv, 1) := by decide +kernel
theorem dL_covers_34 : decode cL_covers 34 = .ok (.bipush 64, 2) := by decide +kernel
theorem dL_covers_36 : decode cL_covers 36 = .ok (.irem, 1) := by decide +kernel
theorem dL_covers_37 : decode cL_covers 37 = .ok (.if_icmp .lt 41, 3) := by decide +kernel
theorem dL_covers_40 : decode cL_covers 40 = .ok (.iload 5, 2) := by decide +kernel
theorem dL_covers_42 : decode cL_covers 42 = .ok (.iload 7, 2) := by decide +kernel
theorem dL_covers_44 : decode cL_covers 44 = .ok (.sipush 128, 3) := by decide +kernel
theorem dL_covers_47 : decode cL_covers 47 = .ok (.idiv, 1) := by decide +kernel
theorem dL_covers_48 : decode cL_covers 48 = .ok (.bipush 64, 2) := by decide +kernel
theorem dL_covers_50 : decode cL_covers 50 = .ok (.irem, 1) := by decide +kernel
theorem dL_covers_51 : decode cL_covers 51 = .ok (.if_icmp .gt 27, 3) := by decide +kernel
theorem dL_covers_54 : decode cL_covers 54 = .ok (.iload 5, 2) := by decide +kernel
theorem dL_covers_56 : decode cL_covers 56 = .ok (.aload_n 1, 1) := by decide +kernel
theorem dL_covers_57 : decode cL_covers 57 = .ok (.bipush 40, 2) := by decide +kernel
theorem dL_covers_59 : decode cL_covers 59 = .ok (.iaload, 1) := by decide +kernel
theorem dL_covers_60 : decode cL_covers 60 = .ok (.sipush 360, 3) := by decide +kernel
theorem dL_covers_63 : decode cL_covers 63 = .ok (.idiv, 1) := by decide +kernel
theorem dL_covers_64 : decode cL_covers 64 = .ok (.iload 7, 2) := by decide +kernel
theorem dL_covers_66 : decode cL_covers 66 = .ok (.sipush 8192, 3) := by decide +kernel
theorem dL_covers_69 : decode cL_covers 69 = .ok (.idiv, 1) := by decide +kernel
theorem dL_covers_70 : decode cL_covers 70 = .ok (.isub, 1) := by decide +kernel
theorem dL_covers_71 : decode cL_covers 71 = .ok (.if_icmp .gt 7, 3) := by decide +kernel
theorem dL_covers_74 : decode cL_covers 74 = .ok (.iconst 1, 1) := by decide +kernel
theorem dL_covers_75 : decode cL_covers 75 = .ok (.goto 4, 3) := by decide +kernel
theorem dL_covers_78 : decode cL_covers 78 = .ok (.iconst 0, 1) := by decide +kernel
theorem dL_covers_79 : decode cL_covers 79 = .ok (.istore 8, 2) := by decide +kernel
theorem dL_covers_81 : decode cL_covers 81 = .ok (.aload_n 1, 1) := by decide +kernel
theorem dL_covers_82 : decode cL_covers 82 = .ok (.bipush 12, 2) := by decide +kernel
theorem dL_covers_84 : decode cL_covers 84 = .ok (.iload_n 3, 1) := by decide +kernel
theorem dL_covers_85 : decode cL_covers 85 = .ok (.iadd, 1) := by decide +kernel
theorem dL_covers_86 : decode cL_covers 86 = .ok (.iaload, 1) := by decide +kernel
theorem dL_covers_87 : decode cL_covers 87 = .ok (.iload 6, 2) := by decide +kernel
theorem dL_covers_89 : decode cL_covers 89 = .ok (.ishr, 1) := by decide +kernel
theorem dL_covers_90 : decode cL_covers 90 = .ok (.iconst 1, 1) := by decide +kernel
theorem dL_covers_91 : decode cL_covers 91 = .ok (.iand, 1) := by decide +kernel
theorem dL_covers_92 : decode cL_covers 92 = .ok (.iconst 1, 1) := by decide +kernel
theorem dL_covers_93 : decode cL_covers 93 = .ok (.if_icmp .ne 7, 3) := by decide +kernel
theorem dL_covers_96 : decode cL_covers 96 = .ok (.iconst 1, 1) := by decide +kernel
theorem dL_covers_97 : decode cL_covers 97 = .ok (.goto 4, 3) := by decide +kernel
theorem dL_covers_100 : decode cL_covers 100 = .ok (.iconst 0, 1) := by decide +kernel
theorem dL_covers_101 : decode cL_covers 101 = .ok (.istore 9, 2) := by decide +kernel
theorem dL_covers_103 : decode cL_covers 103 = .ok (.aload_n 0, 1) := by decide +kernel
theorem dL_covers_104 : decode cL_covers 104 = .ok (.iload_n 3, 1) := by decide +kernel
theorem dL_covers_105 : decode cL_covers 105 = .ok (.iload 4, 2) := by decide +kernel
theorem dL_covers_107 : decode cL_covers 107 = .ok (.iload 5, 2) := by decide +kernel
theorem dL_covers_109 : decode cL_covers 109 = .ok (.iload 6, 2) := by decide +kernel
theorem dL_covers_111 : decode cL_covers 111 = .ok (.aload_n 1, 1) := by decide +kernel
theorem dL_covers_112 : decode cL_covers 112 = .ok (.bipush 40, 2) := by decide +kernel
theorem dL_covers_114 : decode cL_covers 114 = .ok (.iaload, 1) := by decide +kernel
theorem dL_covers_115 : decode cL_covers 115 = .ok (.invokevirtual 66, 3) := by decide +kernel
theorem dL_covers_118 : decode cL_covers 118 = .ok (.istore 10, 2) := by decide +kernel
theorem dL_covers_120 : decode cL_covers 120 = .ok (.sipush 360, 3) := by decide +kernel
theorem dL_covers_123 : decode cL_covers 123 = .ok (.iload 5, 2) := by decide +kernel
theorem dL_covers_125 : decode cL_covers 125 = .ok (.imul, 1) := by decide +kernel
theorem dL_covers_126 : decode cL_covers 126 = .ok (.sipush 359, 3) := by decide +kernel
theorem dL_covers_129 : decode cL_covers 129 = .ok (.iadd, 1) := by decide +kernel
theorem dL_covers_130 : decode cL_covers 130 = .ok (.istore 11, 2) := by decide +kernel
theorem dL_covers_132 : decode cL_covers 132 = .ok (.iload 10, 2) := by decide +kernel
theorem dL_covers_134 : decode cL_covers 134 = .ok (.ifCond .eq 65, 3) := by decide +kernel
theorem dL_covers_137 : decode cL_covers 137 = .ok (.iload 8, 2) := by decide +kernel
theorem dL_covers_139 : decode cL_covers 139 = .ok (.ifCond .eq 8, 3) := by decide +kernel
theorem dL_covers_142 : decode cL_covers 142 = .ok (.iload 9, 2) := by decide +kernel
theorem dL_covers_144 : decode cL_covers 144 = .ok (.ifCond .ne 55, 3) := by decide +kernel
theorem dL_covers_147 : decode cL_covers 147 = .ok (.iload 9, 2) := by decide +kernel
theorem dL_covers_149 : decode cL_covers 149 = .ok (.ifCond .eq 48, 3) := by decide +kernel
theorem dL_covers_152 : decode cL_covers 152 = .ok (.aload_n 1, 1) := by decide +kernel
theorem dL_covers_153 : decode cL_covers 153 = .ok (.bipush 18, 2) := by decide +kernel
theorem dL_covers_155 : decode cL_covers 155 = .ok (.iload_n 3, 1) := by decide +kernel
theorem dL_covers_156 : decode cL_covers 156 = .ok (.iadd, 1) := by decide +kernel
theorem dL_covers_157 : decode cL_covers 157 = .ok (.iaload, 1) := by decide +kernel
theorem dL_covers_158 : decode cL_covers 158 = .ok (.iconst 1, 1) := by decide +kernel
theorem dL_covers_159 : decode cL_covers 159 = .ok (.if_icmp .ne 38, 3) := by decide +kernel
theorem dL_covers_162 : decode cL_covers 162 = .ok (.iload 11, 2) := by decide +kernel
theorem dL_covers_164 : decode cL_covers 164 = .ok (.aload_n 1, 1) := by decide +kernel
theorem dL_covers_165 : decode cL_covers 165 = .ok (.bipush 40, 2) := by decide +kernel
theorem dL_covers_167 : decode cL_covers 167 = .ok (.iaload, 1) := by decide +kernel
theorem dL_covers_168 : decode cL_covers 168 = .ok (.if_icmp .ge 29, 3) := by decide +kernel
theorem dL_covers_171 : decode cL_covers 171 = .ok (.aload_n 0, 1) := by decide +kernel
theorem dL_covers_172 : decode cL_covers 172 = .ok (.iload_n 3, 1) := by decide +kernel
theorem dL_covers_173 : decode cL_covers 173 = .ok (.iload 11, 2) := by decide +kernel
theorem dL_covers_175 : decode cL_covers 175 = .ok (.invokevirtual 16, 3) := by decide +kernel
theorem dL_covers_178 : decode cL_covers 178 = .ok (.ifCond .eq 19, 3) := by decide +kernel
theorem dL_covers_181 : decode cL_covers 181 = .ok (.aload_n 0, 1) := by decide +kernel
theorem dL_covers_182 : decode cL_covers 182 = .ok (.iload_n 3, 1) := by decide +kernel
theorem dL_covers_183 : decode cL_covers 183 = .ok (.iload 4, 2) := by decide +kernel
theorem dL_covers_185 : decode cL_covers 185 = .ok (.iload 11, 2) := by decide +kernel
theorem dL_covers_187 : decode cL_covers 187 = .ok (.invokevirtual 30, 3) := by decide +kernel
theorem dL_covers_190 : decode cL_covers 190 = .ok (.ifCond .eq 7, 3) := by decide +kernel
theorem dL_covers_193 : decode cL_covers 193 = .ok (.iconst 1, 1) := by decide +kernel
theorem dL_covers_194 : decode cL_covers 194 = .ok (.goto 4, 3) := by decide +kernel
theorem dL_covers_197 : decode cL_covers 197 = .ok (.iconst 0, 1) := by decide +kernel
theorem dL_covers_198 : decode cL_covers 198 = .ok (.ireturn, 1) := by decide +kernel
theorem dL_covers_199 : decode cL_covers 199 = .ok (.iload 8, 2) := by decide +kernel
theorem dL_covers_201 : decode cL_covers 201 = .ok (.ifCond .eq 13, 3) := by decide +kernel
theorem dL_covers_204 : decode cL_covers 204 = .ok (.iload 9, 2) := by decide +kernel
theorem dL_covers_206 : decode cL_covers 206 = .ok (.ifCond .eq 8, 3) := by decide +kernel
theorem dL_covers_209 : decode cL_covers 209 = .ok (.iload 10, 2) := by decide +kernel
theorem dL_covers_211 : decode cL_covers 211 = .ok (.ifCond .eq 7, 3) := by decide +kernel
theorem dL_covers_214 : decode cL_covers 214 = .ok (.iconst 1, 1) := by decide +kernel
theorem dL_covers_215 : decode cL_covers 215 = .ok (.goto 4, 3) := by decide +kernel
theorem dL_covers_218 : decode cL_covers 218 = .ok (.iconst 0, 1) := by decide +kernel
theorem dL_covers_219 : decode cL_covers 219 = .ok (.ireturn, 1) := by decide +kernel
theorem dL_isAhead_0 : decode cL_isAhead 0 = .ok (.aload_n 1, 1) := by decide +kernel
theorem dL_isAhead_1 : decode cL_isAhead 1 = .ok (.iconst 4, 1) := by decide +kernel
theorem dL_isAhead_2 : decode cL_isAhead 2 = .ok (.iload_n 2, 1) := by decide +kernel
theorem dL_isAhead_3 : decode cL_isAhead 3 = .ok (.imul, 1) := by decide +kernel
theorem dL_isAhead_4 : decode cL_isAhead 4 = .ok (.iload 4, 2) := by decide +kernel
theorem dL_isAhead_6 : decode cL_isAhead 6 = .ok (.iadd, 1) := by decide +kernel
theorem dL_isAhead_7 : decode cL_isAhead 7 = .ok (.iaload, 1) := by decide +kernel
theorem dL_isAhead_8 : decode cL_isAhead 8 = .ok (.iconst 1, 1) := by decide +kernel
theorem dL_isAhead_9 : decode cL_isAhead 9 = .ok (.if_icmp .le 8, 3) := by decide +kernel
theorem dL_isAhead_12 : decode cL_isAhead 12 = .ok (.ldc 69, 2) := by decide +kernel
theorem dL_isAhead_14 : decode cL_isAhead 14 = .ok (.goto 4, 3) := by decide +kernel
theorem dL_isAhead_17 : decode cL_isAhead 17 = .ok (.iconst 0, 1) := by decide +kernel
theorem dL_isAhead_18 : decode cL_isAhead 18 = .ok (.bipush 100, 2) := by decide +kernel
theorem dL_isAhead_20 : decode cL_isAhead 20 = .ok (.aload_n 0, 1) := by decide +kernel
theorem dL_isAhead_21 : decode cL_isAhead 21 = .ok (.iload_n 2, 1) := by decide +kernel
theorem dL_isAhead_22 : decode cL_isAhead 22 = .ok (.iaload, 1) := by decide +kernel
theorem dL_isAhead_23 : decode cL_isAhead 23 = .ok (.imul, 1) := by decide +kernel
theorem dL_isAhead_24 : decode cL_isAhead 24 = .ok (.iadd, 1) := by decide +kernel
theorem dL_isAhead_25 : decode cL_isAhead 25 = .ok (.bipush 10, 2) := by decide +kernel
theorem dL_isAhead_27 : decode cL_isAhead 27 = .ok (.aload_n 0, 1) := by decide +kernel
theorem dL_isAhead_28 : decode cL_isAhead 28 = .ok (.bipush 6, 2) := by decide +kernel
theorem dL_isAhead_30 : decode cL_isAhead 30 = .ok (.iload_n 2, 1) := by decide +kernel
theorem dL_isAhead_31 : decode cL_isAhead 31 = .ok (.iadd, 1) := by decide +kernel
theorem dL_isAhead_32 : decode cL_isAhead 32 = .ok (.iaload, 1) := by decide +kernel
theorem dL_isAhead_33 : decode cL_isAhead 33 = .ok (.imul, 1) := by decide +kernel
theorem dL_isAhead_34 : decode cL_isAhead 34 = .ok (.iadd, 1) := by decide +kernel
theorem dL_isAhead_35 : decode cL_isAhead 35 = .ok (.iload_n 2, 1) := by decide +kernel
theorem dL_isAhead_36 : decode cL_isAhead 36 = .ok (.iadd, 1) := by decide +kernel
theorem dL_isAhead_37 : decode cL_isAhead 37 = .ok (.istore 5, 2) := by decide +kernel
theorem dL_isAhead_39 : decode cL_isAhead 39 = .ok (.aload_n 1, 1) := by decide +kernel
theorem dL_isAhead_40 : decode cL_isAhead 40 = .ok (.iconst 4, 1) := by decide +kernel
theorem dL_isAhead_41 : decode cL_isAhead 41 = .ok (.iload_n 3, 1) := by decide +kernel
theorem dL_isAhead_42 : decode cL_isAhead 42 = .ok (.imul, 1) := by decide +kernel
theorem dL_isAhead_43 : decode cL_isAhead 43 = .ok (.iload 4, 2) := by decide +kernel
theorem dL_isAhead_45 : decode cL_isAhead 45 = .ok (.iadd, 1) := by decide +kernel
theorem dL_isAhead_46 : decode cL_isAhead 46 = .ok (.iaload, 1) := by decide +kernel
theorem dL_isAhead_47 : decode cL_isAhead 47 = .ok (.iconst 1, 1) := by decide +kernel
theorem dL_isAhead_48 : decode cL_isAhead 48 = .ok (.if_icmp .le 8, 3) := by decide +kernel
theorem dL_isAhead_51 : decode cL_isAhead 51 = .ok (.ldc 69, 2) := by decide +kernel
theorem dL_isAhead_53 : decode cL_isAhead 53 = .ok (.goto 4, 3) := by decide +kernel
theorem dL_isAhead_56 : decode cL_isAhead 56 = .ok (.iconst 0, 1) := by decide +kernel
theorem dL_isAhead_57 : decode cL_isAhead 57 = .ok (.bipush 100, 2) := by decide +kernel
theorem dL_isAhead_59 : decode cL_isAhead 59 = .ok (.aload_n 0, 1) := by decide +kernel
theorem dL_isAhead_60 : decode cL_isAhead 60 = .ok (.iload_n 3, 1) := by decide +kernel
theorem dL_isAhead_61 : decode cL_isAhead 61 = .ok (.iaload, 1) := by decide +kernel
theorem dL_isAhead_62 : decode cL_isAhead 62 = .ok (.imul, 1) := by decide +kernel
theorem dL_isAhead_63 : decode cL_isAhead 63 = .ok (.iadd, 1) := by decide +kernel
theorem dL_isAhead_64 : decode cL_isAhead 64 = .ok (.bipush 10, 2) := by decide +kernel
theorem dL_isAhead_66 : decode cL_isAhead 66 = .ok (.aload_n 0, 1) := by decide +kernel
theorem dL_isAhead_67 : decode cL_isAhead 67 = .ok (.bipush 6, 2) := by decide +kernel
theorem dL_isAhead_69 : decode cL_isAhead 69 = .ok (.iload_n 3, 1) := by decide +kernel
theorem dL_isAhead_70 : decode cL_isAhead 70 = .ok (.iadd, 1) := by decide +kernel
theorem dL_isAhead_71 : decode cL_isAhead 71 = .ok (.iaload, 1) := by decide +kernel
theorem dL_isAhead_72 : decode cL_isAhead 72 = .ok (.imul, 1) := by decide +kernel
theorem dL_isAhead_73 : decode cL_isAhead 73 = .ok (.iadd, 1) := by decide +kernel
theorem dL_isAhead_74 : decode cL_isAhead 74 = .ok (.iload_n 3, 1) := by decide +kernel
theorem dL_isAhead_75 : decode cL_isAhead 75 = .ok (.iadd, 1) := by decide +kernel
theorem dL_isAhead_76 : decode cL_isAhead 76 = .ok (.istore 6, 2) := by decide +kernel
theorem dL_isAhead_78 : decode cL_isAhead 78 = .ok (.iload 5, 2) := by decide +kernel
theorem dL_isAhead_80 : decode cL_isAhead 80 = .ok (.iload 6, 2) := by decide +kernel
theorem dL_isAhead_82 : decode cL_isAhead 82 = .ok (.if_icmp .ge 7, 3) := by decide +kernel
theorem dL_isAhead_85 : decode cL_isAhead 85 = .ok (.iconst 1, 1) := by decide +kernel
theorem dL_isAhead_86 : decode cL_isAhead 86 = .ok (.goto 4, 3) := by decide +kernel
theorem dL_isAhead_89 : decode cL_isAhead 89 = .ok (.iconst 0, 1) := by decide +kernel
theorem dL_isAhead_90 : decode cL_isAhead 90 = .ok (.ireturn, 1) := by decide +kernel
set_option maxRecDepth 20000 in
theorem ggL_areWays_X4_covers : GoodIn wsL_areWays wsX4_covers := goodIn_ca (goodIn_ca (goodIn_ca (goodIn_r _ [5, 6, 7, 8, 4, 9, 10, 11, 12, 13, 14, 15, 16, 17, 18, 19, 20, 21, 22, 23, 24, 25, 26, 27, 28, 29, 30, 31, 32, 33, 34, 35, 36, 37, 38, 39, 40, 41, 42, 43, 44, 45, 46, 47, 48, 49, 50, 51, 52, 53, 54, 55, 56, 57, 58, 59, 60, 61, 62, 63, 64, 65, 66, 67, 68, 69, 70, 71, 72, 73, 74, 75, 76, 77, 78, 79, 80, 81, 82, 83, 84, 85, 149, 150, 151, 152, 153, 154, 155, 156, 157, 158, 159, 160, 161, 162, 163, 164, 165, 166] (by decide +kernel) (by decide +kernel)) (goodIn_sub (fun _ h => List.mem_cons_of_mem _ (List.mem_append_left _ (List.mem_append_left _ (List.mem_append_right _ h)))) (by decide +kernel))) (goodIn_sub (fun _ h => List.mem_cons_of_mem _ (List.mem_append_left _ (List.mem_append_right _ h))) (by decide +kernel))) (goodIn_sub (fun _ h => List.mem_cons_of_mem _ (List.mem_append_right _ h)) (by decide +kernel))
set_option maxRecDepth 20000 in
theorem gL_areWays_X4_covers : GoodIn wsL_areWays (wsV RL 66 RX4 yX4_covers wsX4_covers) := goodIn_app (goodIn_of _ (by decide +kernel)) ggL_areWays_X4_covers
set_option maxRecDepth 20000 in
theorem ggL_areWays_L_covers : GoodIn wsL_areWays wsL_covers := goodIn_ca (goodIn_ca (goodIn_ca (goodIn_r _ [89, 1, 2, 3, 4, 5, 6, 7, 8, 9, 10, 11, 12, 13, 14, 15, 16, 17, 18, 19, 20, 21, 22, 23, 24, 25, 26, 27, 28, 29, 30, 31, 32, 33, 34, 35, 36, 37, 38, 39, 40, 41, 42, 43, 44, 45, 46, 47, 48, 49, 50, 51, 52, 53, 54, 55, 56, 57, 58, 59, 60, 61, 62, 63, 64, 65, 66, 67, 68, 69, 70, 71, 72, 73, 74, 75, 76, 77, 78, 79, 80, 81, 82, 83, 84, 85, 90, 91, 92, 93, 94, 95, 96, 97, 98, 99, 100, 101, 102, 103, 104, 105, 106, 107, 149, 150, 151, 152, 153, 154, 155, 156, 157, 158, 159, 160, 161, 162, 163, 164, 165, 166] (by decide +kernel) (by decide +kernel)) (goodIn_sub (fun _ h => List.mem_cons_of_mem _ (List.mem_append_left _ (List.mem_append_left _ (List.mem_append_right _ h)))) (by decide +kernel))) (goodIn_sub (fun _ h => List.mem_cons_of_mem _ (List.mem_append_left _ (List.mem_append_right _ h))) (by decide +kernel))) (goodIn_sub (fun _ h => List.mem_cons_of_mem _ (List.mem_append_right _ h)) (by decide +kernel))
set_option maxRecDepth 20000 in
theorem gL_areWays_L_covers : GoodIn wsL_areWays (va_wsS RL 70 yL_covers wsL_covers) := goodIn_app (goodIn_of _ (by decide +kernel)) ggL_areWays_L_covers
set_option maxRecDepth 20000 in
theorem ggL_areWays_X4_ways : GoodIn wsL_areWays wsX4_ways := goodIn_ca (goodIn_ca (goodIn_ca (goodIn_r _ [111, 14, 15, 16, 4, 17, 10, 11, 18, 19, 20, 21, 22, 23, 24, 25, 26, 27, 28, 29, 112, 113, 114, 115, 12, 6, 7, 8, 9, 13, 30, 31, 32, 33, 34, 35, 36, 37, 38, 39, 40, 41, 42, 43, 44, 45, 46, 47, 48, 49, 50, 51, 52, 53, 54, 55, 56, 57, 58, 59, 60, 61, 62, 63, 64, 65, 66, 67, 68, 69, 70, 71, 72, 73, 74, 75, 76, 77, 78, 79, 80, 81, 82, 83, 84, 85, 116, 117, 118, 119, 120, 121, 122, 149, 150, 151, 152, 153, 154, 155, 156, 157, 158, 159, 160, 161, 162, 163, 164, 165, 166] (by decide +kernel) (by decide +kernel)) (goodIn_sub (fun _ h => List.mem_cons_of_mem _ (List.mem_append_left _ (List.mem_append_left _ (List.mem_append_right _ h)))) (by decide +kernel))) (goodIn_sub (fun _ h => List.mem_cons_of_mem _ (List.mem_append_left _ (List.mem_append_right _ h))) (by decide +kernel))) (goodIn_sub (fun _ h => List.mem_cons_of_mem _ (List.mem_append_right _ h)) (by decide +kernel))
set_option maxRecDepth 20000 in
theorem gL_areWays_X4_ways : GoodIn wsL_areWays (wsV RL 73 RX4 yX4_ways wsX4_ways) := goodIn_app (goodIn_of _ (by decide +kernel)) ggL_areWays_X4_ways
set_option maxRecDepth 20000 in
theorem ggL_areWays_X4_wayAt : GoodIn wsL_areWays wsX4_wayAt := goodIn_ca (goodIn_ca (goodIn_ca (goodIn_r _ [126, 10, 11, 12, 20, 21, 22, 4, 23, 24, 25, 26, 27, 28, 29, 14, 15, 16, 17, 18, 19, 112, 113, 114, 115, 6, 7, 8, 9, 13, 30, 31, 32, 33, 34, 35, 36, 37, 38, 39, 40, 41, 42, 43, 44, 45, 46, 47, 48, 49, 50, 51, 52, 53, 54, 55, 56, 57, 58, 59, 60, 61, 62, 63, 64, 65, 66, 67, 68, 69, 70, 71, 72, 73, 74, 75, 76, 77, 78, 79, 80, 81, 82, 83, 84, 85, 127, 128, 129, 130, 131, 132, 133, 134, 135, 136, 137, 138, 139, 140, 141, 142, 143, 144, 149, 150, 151, 152, 153, 154, 155, 156, 157, 158, 159, 160, 161, 162, 163, 164, 165, 166] (by decide +kernel) (by decide +kernel)) (goodIn_sub (fun _ h => List.mem_cons_of_mem _ (List.mem_append_left _ (List.mem_append_left _ (List.mem_append_right _ h)))) (by decide +kernel))) (goodIn_sub (fun _ h => List.mem_cons_of_mem _ (List.mem_append_left _ (List.mem_append_right _ h))) (by decide +kernel))) (goodIn_sub (fun _ h => List.mem_cons_of_mem _ (List.mem_append_right _ h)) (by decide +kernel))
set_option maxRecDepth 20000 in
theorem gL_areWays_X4_wayAt : GoodIn wsL_areWays (wsV RL 76 RX4 yX4_wayAt wsX4_wayAt) := goodIn_app (goodIn_of _ (by decide +kernel)) ggL_areWays_X4_wayAt
set_option maxRecDepth 20000 in
theorem ggL_areWays_L_isAhead : GoodIn wsL_areWays wsL_isAhead := goodIn_r _ [147, 148] (by decide +kernel) (by decide +kernel)
set_option maxRecDepth 20000 in
theorem gL_areWays_L_isAhead : GoodIn wsL_areWays (va_wsS RL 80 yL_isAhead wsL_isAhead) := goodIn_app (goodIn_of _ (by decide +kernel)) ggL_areWays_L_isAhead
theorem dL_areWays_0 : decode cL_areWays 0 = .ok (.iconst 0, 1) := by decide +kernel
theorem dL_areWays_1 : decode cL_areWays 1 = .ok (.istore 8, 2) := by decide +kernel
theorem dL_areWays_3 : decode cL_areWays 3 = .ok (.iconst 1, 1) := by decide +kernel
theorem dL_areWays_4 : decode cL_areWays 4 = .ok (.istore 9, 2) := by decide +kernel
theorem dL_areWays_6 : decode cL_areWays 6 = .ok (.iconst 0, 1) := by decide +kernel
theorem dL_areWays_7 : decode cL_areWays 7 = .ok (.istore 10, 2) := by decide +kernel
theorem dL_areWays_9 : decode cL_areWays 9 = .ok (.iload 10, 2) := by decide +kernel
theorem dL_areWays_11 : decode cL_areWays 11 = .ok (.aload_n 1, 1) := by decide +kernel
theorem dL_areWays_12 : decode cL_areWays 12 = .ok (.bipush 38, 2) := by decide +kernel
theorem dL_areWays_14 : decode cL_areWays 14 = .ok (.iaload, 1) := by decide +kernel
theorem dL_areWays_15 : decode cL_areWays 15 = .ok (.if_icmp .ge 74, 3) := by decide +kernel
theorem dL_areWays_18 : decode cL_areWays 18 = .ok (.iload 8, 2) := by decide +kernel
theorem dL_areWays_20 : decode cL_areWays 20 = .ok (.aload_n 0, 1) := by decide +kernel
theorem dL_areWays_21 : decode cL_areWays 21 = .ok (.iload 10, 2) := by decide +kernel
theorem dL_areWays_23 : decode cL_areWays 23 = .ok (.iload 4, 2) := by decide +kernel
theorem dL_areWays_25 : decode cL_areWays 25 = .ok (.iload 5, 2) := by decide +kernel
theorem dL_areWays_27 : decode cL_areWays 27 = .ok (.iload 6, 2) := by decide +kernel
theorem dL_areWays_29 : decode cL_areWays 29 = .ok (.iload 7, 2) := by decide +kernel
theorem dL_areWays_31 : decode cL_areWays 31 = .ok (.invokevirtual 66, 3) := by decide +kernel
theorem dL_areWays_34 : decode cL_areWays 34 = .ok (.ifCond .eq 7, 3) := by decide +kernel
theorem dL_areWays_37 : decode cL_areWays 37 = .ok (.iconst 1, 1) := by decide +kernel
theorem dL_areWays_38 : decode cL_areWays 38 = .ok (.goto 4, 3) := by decide +kernel
theorem dL_areWays_41 : decode cL_areWays 41 = .ok (.iconst 0, 1) := by decide +kernel
theorem dL_areWays_42 : decode cL_areWays 42 = .ok (.iadd, 1) := by decide +kernel
theorem dL_areWays_43 : decode cL_areWays 43 = .ok (.istore 8, 2) := by decide +kernel
theorem dL_areWays_45 : decode cL_areWays 45 = .ok (.iload 9, 2) := by decide +kernel
theorem dL_areWays_47 : decode cL_areWays 47 = .ok (.ifCond .eq 33, 3) := by decide +kernel
theorem dL_areWays_50 : decode cL_areWays 50 = .ok (.iload 7, 2) := by decide +kernel
theorem dL_areWays_52 : decode cL_areWays 52 = .ok (.aload_n 1, 1) := by decide +kernel
theorem dL_areWays_53 : decode cL_areWays 53 = .ok (.bipush 40, 2) := by decide +kernel
theorem dL_areWays_55 : decode cL_areWays 55 = .ok (.iaload, 1) := by decide +kernel
theorem dL_areWays_56 : decode cL_areWays 56 = .ok (.if_icmp .lt 20, 3) := by decide +kernel
theorem dL_areWays_59 : decode cL_areWays 59 = .ok (.aload_n 0, 1) := by decide +kernel
theorem dL_areWays_60 : decode cL_areWays 60 = .ok (.aload_n 1, 1) := by decide +kernel
theorem dL_areWays_61 : decode cL_areWays 61 = .ok (.aload_n 2, 1) := by decide +kernel
theorem dL_areWays_62 : decode cL_areWays 62 = .ok (.iload 10, 2) := by decide +kernel
theorem dL_areWays_64 : decode cL_areWays 64 = .ok (.iload 4, 2) := by decide +kernel
theorem dL_areWays_66 : decode cL_areWays 66 = .ok (.iload 5, 2) := by decide +kernel
theorem dL_areWays_68 : decode cL_areWays 68 = .ok (.iload 6, 2) := by decide +kernel
theorem dL_areWays_70 : decode cL_areWays 70 = .ok (.invokestatic 70, 3) := by decide +kernel
theorem dL_areWays_73 : decode cL_areWays 73 = .ok (.ifCond .eq 7, 3) := by decide +kernel
theorem dL_areWays_76 : decode cL_areWays 76 = .ok (.iconst 1, 1) := by decide +kernel
theorem dL_areWays_77 : decode cL_areWays 77 = .ok (.goto 4, 3) := by decide +kernel
theorem dL_areWays_80 : decode cL_areWays 80 = .ok (.iconst 0, 1) := by decide +kernel
theorem dL_areWays_81 : decode cL_areWays 81 = .ok (.istore 9, 2) := by decide +kernel
theorem dL_areWays_83 : decode cL_areWays 83 = .ok (.iinc 10 1, 3) := by decide +kernel
theorem dL_areWays_86 : decode cL_areWays 86 = .ok (.goto (-77), 3) := by decide +kernel
theorem dL_areWays_89 : decode cL_areWays 89 = .ok (.iload 9, 2) := by decide +kernel
theorem dL_areWays_91 : decode cL_areWays 91 = .ok (.ifCond .eq 24, 3) := by decide +kernel
theorem dL_areWays_94 : decode cL_areWays 94 = .ok (.aload_n 0, 1) := by decide +kernel
theorem dL_areWays_95 : decode cL_areWays 95 = .ok (.iload 4, 2) := by decide +kernel
theorem dL_areWays_97 : decode cL_areWays 97 = .ok (.iload 5, 2) := by decide +kernel
theorem dL_areWays_99 : decode cL_areWays 99 = .ok (.iload 6, 2) := by decide +kernel
theorem dL_areWays_101 : decode cL_areWays 101 = .ok (.iload 7, 2) := by decide +kernel
theorem dL_areWays_103 : decode cL_areWays 103 = .ok (.invokevirtual 73, 3) := by decide +kernel
theorem dL_areWays_106 : decode cL_areWays 106 = .ok (.iload 8, 2) := by decide +kernel
theorem dL_areWays_108 : decode cL_areWays 108 = .ok (.if_icmp .ne 7, 3) := by decide +kernel
theorem dL_areWays_111 : decode cL_areWays 111 = .ok (.iconst 1, 1) := by decide +kernel
theorem dL_areWays_112 : decode cL_areWays 112 = .ok (.goto 4, 3) := by decide +kernel
theorem dL_areWays_115 : decode cL_areWays 115 = .ok (.iconst 0, 1) := by decide +kernel
theorem dL_areWays_116 : decode cL_areWays 116 = .ok (.istore 9, 2) := by decide +kernel
theorem dL_areWays_118 : decode cL_areWays 118 = .ok (.iconst 0, 1) := by decide +kernel
theorem dL_areWays_119 : decode cL_areWays 119 = .ok (.istore 10, 2) := by decide +kernel
theorem dL_areWays_121 : decode cL_areWays 121 = .ok (.iload 10, 2) := by decide +kernel
theorem dL_areWays_123 : decode cL_areWays 123 = .ok (.iload 8, 2) := by decide +kernel
theorem dL_areWays_125 : decode cL_areWays 125 = .ok (.if_icmp .ge 87, 3) := by decide +kernel
theorem dL_areWays_128 : decode cL_areWays 128 = .ok (.iload 9, 2) := by decide +kernel
theorem dL_areWays_130 : decode cL_areWays 130 = .ok (.ifCond .eq 82, 3) := by decide +kernel
theorem dL_areWays_133 : decode cL_areWays 133 = .ok (.aload_n 0, 1) := by decide +kernel
theorem dL_areWays_134 : decode cL_areWays 134 = .ok (.iload 10, 2) := by decide +kernel
theorem dL_areWays_136 : decode cL_areWays 136 = .ok (.iload 4, 2) := by decide +kernel
theorem dL_areWays_138 : decode cL_areWays 138 = .ok (.iload 5, 2) := by decide +kernel
theorem dL_areWays_140 : decode cL_areWays 140 = .ok (.iload 6, 2) := by decide +kernel
theorem dL_areWays_142 : decode cL_areWays 142 = .ok (.iload 7, 2) := by decide +kernel
theorem dL_areWays_144 : decode cL_areWays 144 = .ok (.invokevirtual 76, 3) := by decide +kernel
theorem dL_areWays_147 : decode cL_areWays 147 = .ok (.istore 11, 2) := by decide +kernel
theorem dL_areWays_149 : decode cL_areWays 149 = .ok (.aload_n 0, 1) := by decide +kernel
theorem dL_areWays_150 : decode cL_areWays 150 = .ok (.iload 11, 2) := by decide +kernel
theorem dL_areWays_152 : decode cL_areWays 152 = .ok (.iload 4, 2) := by decide +kernel
theorem dL_areWays_154 : decode cL_areWays 154 = .ok (.iload 5, 2) := by decide +kernel
theorem dL_areWays_156 : decode cL_areWays 156 = .ok (.iload 6, 2) := by decide +kernel
theorem dL_areWays_158 : decode cL_areWays 158 = .ok (.iload 7, 2) := by decide +kernel
theorem dL_areWays_160 : decode cL_areWays 160 = .ok (.invokevirtual 66, 3) := by decide +kernel
theorem dL_areWays_163 : decode cL_areWays 163 = .ok (.ifCond .eq 40, 3) := by decide +kernel
theorem dL_areWays_166 : decode cL_areWays 166 = .ok (.iload 10, 2) := by decide +kernel
theorem dL_areWays_168 : decode cL_areWays 168 = .ok (.ifCond .eq 31, 3) := by decide +kernel
theorem dL_areWays_171 : decode cL_areWays 171 = .ok (.aload_n 1, 1) := by decide +kernel
theorem dL_areWays_172 : decode cL_areWays 172 = .ok (.aload_n 3, 1) := by decide +kernel
theorem dL_areWays_173 : decode cL_areWays 173 = .ok (.aload_n 0, 1) := by decide +kernel
theorem dL_areWays_174 : decode cL_areWays 174 = .ok (.iload 10, 2) := by decide +kernel
theorem dL_areWays_176 : decode cL_areWays 176 = .ok (.iconst 1, 1) := by decide +kernel
theorem dL_areWays_177 : decode cL_areWays 177 = .ok (.isub, 1) := by decide +kernel
theorem dL_areWays_178 : decode cL_areWays 178 = .ok (.iload 4, 2) := by decide +kernel
theorem dL_areWays_180 : decode cL_areWays 180 = .ok (.iload 5, 2) := by decide +kernel
theorem dL_areWays_182 : decode cL_areWays 182 = .ok (.iload 6, 2) := by decide +kernel
theorem dL_areWays_184 : decode cL_areWays 184 = .ok (.iload 7, 2) := by decide +kernel
theorem dL_areWays_186 : decode cL_areWays 186 = .ok (.invokevirtual 76, 3) := by decide +kernel
theorem dL_areWays_189 : decode cL_areWays 189 = .ok (.iload 11, 2) := by decide +kernel
theorem dL_areWays_191 : decode cL_areWays 191 = .ok (.iload 4, 2) := by decide +kernel
theorem dL_areWays_193 : decode cL_areWays 193 = .ok (.invokestatic 80, 3) := by decide +kernel
theorem dL_areWays_196 : decode cL_areWays 196 = .ok (.ifCond .eq 7, 3) := by decide +kernel
theorem dL_areWays_199 : decode cL_areWays 199 = .ok (.iconst 1, 1) := by decide +kernel
theorem dL_areWays_200 : decode cL_areWays 200 = .ok (.goto 4, 3) := by decide +kernel
theorem dL_areWays_203 : decode cL_areWays 203 = .ok (.iconst 0, 1) := by decide +kernel
theorem dL_areWays_204 : decode cL_areWays 204 = .ok (.istore 9, 2) := by decide +kernel
theorem dL_areWays_206 : decode cL_areWays 206 = .ok (.iinc 10 1, 3) := by decide +kernel
theorem dL_areWays_209 : decode cL_areWays 209 = .ok (.goto (-88), 3) := by decide +kernel
theorem dL_areWays_212 : decode cL_areWays 212 = .ok (.iload 9, 2) := by decide +kernel
theorem dL_areWays_214 : decode cL_areWays 214 = .ok (.ireturn, 1) := by decide +kernel
set_option maxRecDepth 20000 in
theorem ggL_areGaps_X4_ways : GoodIn wsL_areGaps wsX4_ways := goodIn_ca (goodIn_ca (goodIn_ca (goodIn_r _ [5, 6, 7, 8, 4, 9, 10, 11, 12, 13, 14, 15, 16, 17, 18, 19, 20, 21, 22, 23, 24, 25, 26, 27, 28, 29, 30, 31, 32, 33, 34, 35, 36, 37, 38, 39, 40, 41, 42, 43, 44, 45, 46, 47, 48, 49, 50, 51, 52, 53, 54, 55, 56, 57, 58, 59, 60, 61, 62, 63, 64, 65, 66, 67, 68, 69, 70, 71, 72, 73, 74, 75, 76, 77, 78, 79, 80, 81, 82, 83, 84, 85, 86, 87, 88, 89, 90, 91, 92, 93, 94, 95, 96, 123, 124, 125, 126, 127, 128, 129, 130, 131, 132, 133, 134, 135, 136, 137, 138, 139, 140] (by decide +kernel) (by decide +kernel)) (goodIn_sub (fun _ h => List.mem_cons_of_mem _ (List.mem_append_left _ (List.mem_append_left _ (List.mem_append_right _ h)))) (by decide +kernel))) (goodIn_sub (fun _ h => List.mem_cons_of_mem _ (List.mem_append_left _ (List.mem_append_right _ h))) (by decide +kernel))) (goodIn_sub (fun _ h => List.mem_cons_of_mem _ (List.mem_append_right _ h)) (by decide +kernel))
set_option maxRecDepth 20000 in
theorem gL_areGaps_X4_ways : GoodIn wsL_areGaps (wsV RL 73 RX4 yX4_ways wsX4_ways) := goodIn_app (goodIn_of _ (by decide +kernel)) ggL_areGaps_X4_ways
set_option maxRecDepth 20000 in
theorem ggL_areGaps_X4_gap : GoodIn wsL_areGaps wsX4_gap := goodIn_ca (goodIn_ca (goodIn_ca (goodIn_r _ [100, 101, 102, 6, 7, 8, 4, 9, 10, 11, 12, 13, 19, 20, 21, 22, 23, 103, 104, 105, 106, 18, 107, 72, 73, 108, 109, 110, 111, 28, 29, 30, 31, 32, 33, 37, 38, 39, 40, 41, 42, 43, 44, 45, 46, 47, 48, 49, 50, 51, 52, 53, 54, 55, 56, 57, 58, 59, 60, 61, 62, 63, 64, 65, 66, 67, 68, 69, 70, 71, 74, 75, 76, 77, 78, 79, 80, 81, 82, 83, 84, 85, 86, 87, 88, 89, 141, 142, 123, 124, 125, 126, 127, 128, 129, 130, 131, 132, 133, 134, 135, 136, 137, 138, 139, 140] (by decide +kernel) (by decide +kernel)) (goodIn_sub (fun _ h => List.mem_cons_of_mem _ (List.mem_append_left _ (List.mem_append_left _ (List.mem_append_right _ h)))) (by decide +kernel))) (goodIn_sub (fun _ h => List.mem_cons_of_mem _ (List.mem_append_left _ (List.mem_append_right _ h))) (by decide +kernel))) (goodIn_sub (fun _ h => List.mem_cons_of_mem _ (List.mem_append_right _ h)) (by decide +kernel))
set_option maxRecDepth 20000 in
theorem gL_areGaps_X4_gap : GoodIn wsL_areGaps (wsV RL 84 RX4 yX4_gap wsX4_gap) := goodIn_app (goodIn_of _ (by decide +kernel)) ggL_areGaps_X4_gap
set_option maxRecDepth 20000 in
theorem ggL_areGaps_X4_doubles : GoodIn wsL_areGaps wsX4_doubles := goodIn_ca (goodIn_ca (goodIn_ca (goodIn_r _ [115, 28, 18, 6, 7, 8, 4, 9, 10, 11, 12, 13, 19, 20, 21, 22, 23, 29, 30, 31, 32, 33, 37, 38, 39, 40, 41, 42, 43, 44, 45, 46, 47, 48, 49, 50, 51, 52, 53, 54, 55, 56, 57, 58, 59, 60, 61, 62, 63, 64, 65, 66, 67, 68, 69, 70, 71, 72, 73, 74, 75, 76, 77, 78, 79, 80, 81, 82, 83, 84, 85, 86, 103, 104, 105, 106, 102, 107, 116, 117, 118, 119, 120, 121, 122, 123, 124, 125, 126, 127, 128, 129, 130, 131, 132, 133, 134, 135, 136, 137, 138, 139, 140, 141, 142] (by decide +kernel) (by decide +kernel)) (goodIn_sub (fun _ h => List.mem_cons_of_mem _ (List.mem_append_left _ (List.mem_append_left _ (List.mem_append_right _ h)))) (by decide +kernel))) (goodIn_sub (fun _ h => List.mem_cons_of_mem _ (List.mem_append_left _ (List.mem_append_right _ h))) (by decide +kernel))) (goodIn_sub (fun _ h => List.mem_cons_of_mem _ (List.mem_append_right _ h)) (by decide +kernel))
set_option maxRecDepth 20000 in
theorem gL_areGaps_X4_doubles : GoodIn wsL_areGaps (wsV RL 87 RX4 yX4_doubles wsX4_doubles) := goodIn_app (goodIn_of _ (by decide +kernel)) ggL_areGaps_X4_doubles
theorem dL_areGaps_0 : decode cL_areGaps 0 = .ok (.iconst (-1), 1) := by decide +kernel
theorem dL_areGaps_1 : decode cL_areGaps 1 = .ok (.istore 4, 2) := by decide +kernel
theorem dL_areGaps_3 : decode cL_areGaps 3 = .ok (.iconst 0, 1) := by decide +kernel
theorem dL_areGaps_4 : decode cL_areGaps 4 = .ok (.istore 5, 2) := by decide +kernel
theorem dL_areGaps_6 : decode cL_areGaps 6 = .ok (.aload_n 1, 1) := by decide +kernel
theorem dL_areGaps_7 : decode cL_areGaps 7 = .ok (.bipush 40, 2) := by decide +kernel
theorem dL_areGaps_9 : decode cL_areGaps 9 = .ok (.iaload, 1) := by decide +kernel
theorem dL_areGaps_10 : decode cL_areGaps 10 = .ok (.sipush 360, 3) := by decide +kernel
theorem dL_areGaps_13 : decode cL_areGaps 13 = .ok (.idiv, 1) := by decide +kernel
theorem dL_areGaps_14 : decode cL_areGaps 14 = .ok (.istore 6, 2) := by decide +kernel
theorem dL_areGaps_16 : decode cL_areGaps 16 = .ok (.iload 6, 2) := by decide +kernel
theorem dL_areGaps_18 : decode cL_areGaps 18 = .ok (.aload_n 1, 1) := by decide +kernel
theorem dL_areGaps_19 : decode cL_areGaps 19 = .ok (.bipush 30, 2) := by decide +kernel
theorem dL_areGaps_21 : decode cL_areGaps 21 = .ok (.iload_n 2, 1) := by decide +kernel
theorem dL_areGaps_22 : decode cL_areGaps 22 = .ok (.iadd, 1) := by decide +kernel
theorem dL_areGaps_23 : decode cL_areGaps 23 = .ok (.iaload, 1) := by decide +kernel
theorem dL_areGaps_24 : decode cL_areGaps 24 = .ok (.if_icmp .lt 53, 3) := by decide +kernel
theorem dL_areGaps_27 : decode cL_areGaps 27 = .ok (.aload_n 0, 1) := by decide +kernel
theorem dL_areGaps_28 : decode cL_areGaps 28 = .ok (.iload_n 2, 1) := by decide +kernel
theorem dL_areGaps_29 : decode cL_areGaps 29 = .ok (.iload 6, 2) := by decide +kernel
theorem dL_areGaps_31 : decode cL_areGaps 31 = .ok (.iload_n 3, 1) := by decide +kernel
theorem dL_areGaps_32 : decode cL_areGaps 32 = .ok (.aload_n 1, 1) := by decide +kernel
theorem dL_areGaps_33 : decode cL_areGaps 33 = .ok (.bipush 40, 2) := by decide +kernel
theorem dL_areGaps_35 : decode cL_areGaps 35 = .ok (.iaload, 1) := by decide +kernel
theorem dL_areGaps_36 : decode cL_areGaps 36 = .ok (.invokevirtual 73, 3) := by decide +kernel
theorem dL_areGaps_39 : decode cL_areGaps 39 = .ok (.istore 7, 2) := by decide +kernel
theorem dL_areGaps_41 : decode cL_areGaps 41 = .ok (.iload 7, 2) := by decide +kernel
theorem dL_areGaps_43 : decode cL_areGaps 43 = .ok (.ifCond .ne 8, 3) := by decide +kernel
theorem dL_areGaps_46 : decode cL_areGaps 46 = .ok (.iload 6, 2) := by decide +kernel
theorem dL_areGaps_48 : decode cL_areGaps 48 = .ok (.goto 5, 3) := by decide +kernel
theorem dL_areGaps_51 : decode cL_areGaps 51 = .ok (.iload 4, 2) := by decide +kernel
theorem dL_areGaps_53 : decode cL_areGaps 53 = .ok (.istore 4, 2) := by decide +kernel
theorem dL_areGaps_55 : decode cL_areGaps 55 = .ok (.iload 5, 2) := by decide +kernel
theorem dL_areGaps_57 : decode cL_areGaps 57 = .ok (.iload 7, 2) := by decide +kernel
theorem dL_areGaps_59 : decode cL_areGaps 59 = .ok (.iconst 1, 1) := by decide +kernel
theorem dL_areGaps_60 : decode cL_areGaps 60 = .ok (.if_icmp .le 7, 3) := by decide +kernel
theorem dL_areGaps_63 : decode cL_areGaps 63 = .ok (.iconst 1, 1) := by decide +kernel
theorem dL_areGaps_64 : decode cL_areGaps 64 = .ok (.goto 4, 3) := by decide +kernel
theorem dL_areGaps_67 : decode cL_areGaps 67 = .ok (.iconst 0, 1) := by decide +kernel
theorem dL_areGaps_68 : decode cL_areGaps 68 = .ok (.iadd, 1) := by decide +kernel
theorem dL_areGaps_69 : decode cL_areGaps 69 = .ok (.istore 5, 2) := by decide +kernel
theorem dL_areGaps_71 : decode cL_areGaps 71 = .ok (.iinc 6 (-1), 3) := by decide +kernel
theorem dL_areGaps_74 : decode cL_areGaps 74 = .ok (.goto (-58), 3) := by decide +kernel
theorem dL_areGaps_77 : decode cL_areGaps 77 = .ok (.aload_n 0, 1) := by decide +kernel
theorem dL_areGaps_78 : decode cL_areGaps 78 = .ok (.iload_n 2, 1) := by decide +kernel
theorem dL_areGaps_79 : decode cL_areGaps 79 = .ok (.iload_n 3, 1) := by decide +kernel
theorem dL_areGaps_80 : decode cL_areGaps 80 = .ok (.invokevirtual 84, 3) := by decide +kernel
theorem dL_areGaps_83 : decode cL_areGaps 83 = .ok (.iload 4, 2) := by decide +kernel
theorem dL_areGaps_85 : decode cL_areGaps 85 = .ok (.if_icmp .ne 18, 3) := by decide +kernel
theorem dL_areGaps_88 : decode cL_areGaps 88 = .ok (.aload_n 0, 1) := by decide +kernel
theorem dL_areGaps_89 : decode cL_areGaps 89 = .ok (.iload_n 2, 1) := by decide +kernel
theorem dL_areGaps_90 : decode cL_areGaps 90 = .ok (.iload_n 3, 1) := by decide +kernel
theorem dL_areGaps_91 : decode cL_areGaps 91 = .ok (.invokevirtual 87, 3) := by decide +kernel
theorem dL_areGaps_94 : decode cL_areGaps 94 = .ok (.iload 5, 2) := by decide +kernel
theorem dL_areGaps_96 : decode cL_areGaps 96 = .ok (.if_icmp .ne 7, 3) := by decide +kernel
theorem dL_areGaps_99 : decode cL_areGaps 99 = .ok (.iconst 1, 1) := by decide +kernel
theorem dL_areGaps_100 : decode cL_areGaps 100 = .ok (.goto 4, 3) := by decide +kernel
theorem dL_areGaps_103 : decode cL_areGaps 103 = .ok (.iconst 0, 1) := by decide +kernel
theorem dL_areGaps_104 : decode cL_areGaps 104 = .ok (.ireturn, 1) := by decide +kernel
set_option maxRecDepth 20000 in
theorem ggL_isNeedless_X4_isNeedless : GoodIn wsL_isNeedless wsX4_isNeedless := goodIn_ca (goodIn_ca (goodIn_r _ [5, 6, 7, 8, 9, 4, 10, 11, 12, 13, 14, 15, 16, 17, 18, 19, 20, 21, 22, 23, 24, 25, 26, 27, 28, 29, 30, 31, 32, 33, 34, 35, 36, 37, 38, 39, 40, 41, 42, 43, 44, 45, 46, 47, 48, 49, 50, 51, 52, 53, 54, 55, 56, 57, 58, 59, 60, 61, 62, 63, 64, 65, 66, 67, 68, 69, 70, 71, 72, 73, 74, 75, 76, 77, 78, 79, 80, 81, 82, 83, 84, 85, 86, 87, 150, 151, 152, 153, 154, 155, 156, 157, 158, 159, 160, 161, 162, 163, 164, 165, 166, 167, 168, 169] (by decide +kernel) (by decide +kernel)) (goodIn_sub (fun _ h => List.mem_cons_of_mem _ (List.mem_append_left _ (List.mem_append_left _ (List.mem_append_right _ h)))) (by decide +kernel))) (goodIn_sub (fun _ h => List.mem_cons_of_mem _ (List.mem_append_left _ (List.mem_append_right _ h))) (by decide +kernel))
set_option maxRecDepth 20000 in
theorem gL_isNeedless_X4_isNeedless : GoodIn wsL_isNeedless (wsV RL 90 RX4 yX4_isNeedless wsX4_isNeedless) := goodIn_app (goodIn_of _ (by decide +kernel)) ggL_isNeedless_X4_isNeedless
set_option maxRecDepth 20000 in
theorem ggL_isNeedless_X4_ways : GoodIn wsL_isNeedless wsX4_ways := goodIn_ca (goodIn_ca (goodIn_ca (goodIn_r _ [91, 62, 63, 64, 4, 65, 11, 12, 6, 66, 92, 93, 94, 95, 19, 96, 97, 98, 99, 100, 101, 102, 103, 104, 13, 7, 8, 9, 10, 14, 105, 106, 107, 73, 74, 75, 24, 76, 77, 82, 83, 84, 85, 86, 22, 23, 25, 26, 27, 28, 29, 30, 31, 32, 33, 34, 35, 36, 37, 38, 39, 40, 41, 42, 43, 44, 45, 46, 47, 48, 87, 50, 51, 52, 53, 54, 55, 56, 57, 58, 59, 60, 61, 108, 109, 110, 111, 112, 113, 114, 115, 116, 117, 150, 151, 152, 153, 154, 155, 156, 157, 158, 159, 160, 161, 162, 163, 164, 165, 166, 167] (by decide +kernel) (by decide +kernel)) (goodIn_sub (fun _ h => List.mem_cons_of_mem _ (List.mem_append_left _ (List.mem_append_left _ (List.mem_append_right _ h)))) (by decide +kernel))) (goodIn_sub (fun _ h => List.mem_cons_of_mem _ (List.mem_append_right _ h)) (by decide +kernel))) (goodIn_sub (fun _ h => List.mem_cons_of_mem _ (List.mem_append_left _ (List.mem_append_right _ h))) (by decide +kernel))
set_option maxRecDepth 20000 in
theorem gL_isNeedless_X4_ways : GoodIn wsL_isNeedless (wsV RL 73 RX4 yX4_ways wsX4_ways) := goodIn_app (goodIn_of _ (by decide +kernel)) ggL_isNeedless_X4_ways
set_option maxRecDepth 20000 in
theorem ggL_isNeedless_X4_subscribe : GoodIn wsL_isNeedless wsX4_subscribe := goodIn_ca (goodIn_r _ [121, 122, 19, 123, 7, 8, 9, 4, 10, 11, 12, 13, 14, 124, 125, 126, 36, 127, 38, 40, 41, 42, 43, 44, 45, 46, 128, 129, 130, 131, 132, 133, 134, 135, 136, 137, 138, 139, 140, 141, 142, 143, 144, 145, 146, 147, 148, 149, 156, 157, 158, 159, 160, 161, 150, 151, 152, 153, 154, 155, 162, 163, 164, 165, 166, 167] (by decide +kernel) (by decide +kernel)) (goodIn_sub (fun _ h => List.mem_cons_of_mem _ (List.mem_append_left _ (List.mem_append_left _ (List.mem_append_right _ h)))) (by decide +kernel))
set_option maxRecDepth 20000 in
theorem gL_isNeedless_X4_subscribe : GoodIn wsL_isNeedless (wsV RL 34 RX4 yX4_subscribe wsX4_subscribe) := goodIn_app (goodIn_of _ (by decide +kernel)) ggL_isNeedless_X4_subscribe
theorem dL_isNeedless_0 : decode cL_isNeedless 0 = .ok (.aload_n 0, 1) := by decide +kernel
theorem dL_isNeedless_1 : decode cL_isNeedless 1 = .ok (.iload_n 2, 1) := by decide +kernel
theorem dL_isNeedless_2 : decode cL_isNeedless 2 = .ok (.invokevirtual 90, 3) := by decide +kernel
theorem dL_isNeedless_5 : decode cL_isNeedless 5 = .ok (.istore 5, 2) := by decide +kernel
theorem dL_isNeedless_7 : decode cL_isNeedless 7 = .ok (.aload_n 1, 1) := by decide +kernel
theorem dL_isNeedless_8 : decode cL_isNeedless 8 = .ok (.bipush 24, 2) := by decide +kernel
theorem dL_isNeedless_10 : decode cL_isNeedless 10 = .ok (.iload_n 2, 1) := by decide +kernel
theorem dL_isNeedless_11 : decode cL_isNeedless 11 = .ok (.iadd, 1) := by decide +kernel
theorem dL_isNeedless_12 : decode cL_isNeedless 12 = .ok (.iaload, 1) := by decide +kernel
theorem dL_isNeedless_13 : decode cL_isNeedless 13 = .ok (.ifCond .eq 8, 3) := by decide +kernel
theorem dL_isNeedless_16 : decode cL_isNeedless 16 = .ok (.iload 5, 2) := by decide +kernel
theorem dL_isNeedless_18 : decode cL_isNeedless 18 = .ok (.ifCond .ne 24, 3) := by decide +kernel
theorem dL_isNeedless_21 : decode cL_isNeedless 21 = .ok (.iload 5, 2) := by decide +kernel
theorem dL_isNeedless_23 : decode cL_isNeedless 23 = .ok (.ifCond .ne 13, 3) := by decide +kernel
theorem dL_isNeedless_26 : decode cL_isNeedless 26 = .ok (.aload_n 1, 1) := by decide +kernel
theorem dL_isNeedless_27 : decode cL_isNeedless 27 = .ok (.bipush 24, 2) := by decide +kernel
theorem dL_isNeedless_29 : decode cL_isNeedless 29 = .ok (.iload_n 2, 1) := by decide +kernel
theorem dL_isNeedless_30 : decode cL_isNeedless 30 = .ok (.iadd, 1) := by decide +kernel
theorem dL_isNeedless_31 : decode cL_isNeedless 31 = .ok (.iaload, 1) := by decide +kernel
theorem dL_isNeedless_32 : decode cL_isNeedless 32 = .ok (.iconst 1, 1) := by decide +kernel
theorem dL_isNeedless_33 : decode cL_isNeedless 33 = .ok (.if_icmp .ne 7, 3) := by decide +kernel
theorem dL_isNeedless_36 : decode cL_isNeedless 36 = .ok (.iconst 1, 1) := by decide +kernel
theorem dL_isNeedless_37 : decode cL_isNeedless 37 = .ok (.goto 4, 3) := by decide +kernel
theorem dL_isNeedless_40 : decode cL_isNeedless 40 = .ok (.iconst 0, 1) := by decide +kernel
theorem dL_isNeedless_41 : decode cL_isNeedless 41 = .ok (.ireturn, 1) := by decide +kernel
theorem dL_isNeedless_42 : decode cL_isNeedless 42 = .ok (.iconst 0, 1) := by decide +kernel
theorem dL_isNeedless_43 : decode cL_isNeedless 43 = .ok (.istore 6, 2) := by decide +kernel
theorem dL_isNeedless_45 : decode cL_isNeedless 45 = .ok (.iconst 0, 1) := by decide +kernel
theorem dL_isNeedless_46 : decode cL_isNeedless 46 = .ok (.istore 7, 2) := by decide +kernel
theorem dL_isNeedless_48 : decode cL_isNeedless 48 = .ok (.aload_n 1, 1) := by decide +kernel
theorem dL_isNeedless_49 : decode cL_isNeedless 49 = .ok (.bipush 30, 2) := by decide +kernel
theorem dL_isNeedless_51 : decode cL_isNeedless 51 = .ok (.iload_n 3, 1) := by decide +kernel
theorem dL_isNeedless_52 : decode cL_isNeedless 52 = .ok (.iadd, 1) := by decide +kernel
theorem dL_isNeedless_53 : decode cL_isNeedless 53 = .ok (.iaload, 1) := by decide +kernel
theorem dL_isNeedless_54 : decode cL_isNeedless 54 = .ok (.istore 8, 2) := by decide +kernel
theorem dL_isNeedless_56 : decode cL_isNeedless 56 = .ok (.iload 8, 2) := by decide +kernel
theorem dL_isNeedless_58 : decode cL_isNeedless 58 = .ok (.aload_n 1, 1) := by decide +kernel
theorem dL_isNeedless_59 : decode cL_isNeedless 59 = .ok (.bipush 40, 2) := by decide +kernel
theorem dL_isNeedless_61 : decode cL_isNeedless 61 = .ok (.iaload, 1) := by decide +kernel
theorem dL_isNeedless_62 : decode cL_isNeedless 62 = .ok (.sipush 360, 3) := by decide +kernel
theorem dL_isNeedless_65 : decode cL_isNeedless 65 = .ok (.idiv, 1) := by decide +kernel
theorem dL_isNeedless_66 : decode cL_isNeedless 66 = .ok (.if_icmp .gt 35, 3) := by decide +kernel
theorem dL_isNeedless_69 : decode cL_isNeedless 69 = .ok (.iload 6, 2) := by decide +kernel
theorem dL_isNeedless_71 : decode cL_isNeedless 71 = .ok (.aload_n 0, 1) := by decide +kernel
theorem dL_isNeedless_72 : decode cL_isNeedless 72 = .ok (.iload_n 3, 1) := by decide +kernel
theorem dL_isNeedless_73 : decode cL_isNeedless 73 = .ok (.iload 8, 2) := by decide +kernel
theorem dL_isNeedless_75 : decode cL_isNeedless 75 = .ok (.iload 4, 2) := by decide +kernel
theorem dL_isNeedless_77 : decode cL_isNeedless 77 = .ok (.aload_n 1, 1) := by decide +kernel
theorem dL_isNeedless_78 : decode cL_isNeedless 78 = .ok (.bipush 40, 2) := by decide +kernel
theorem dL_isNeedless_80 : decode cL_isNeedless 80 = .ok (.iaload, 1) := by decide +kernel
theorem dL_isNeedless_81 : decode cL_isNeedless 81 = .ok (.invokevirtual 73, 3) := by decide +kernel
theorem dL_isNeedless_84 : decode cL_isNeedless 84 = .ok (.ifCond .le 7, 3) := by decide +kernel
theorem dL_isNeedless_87 : decode cL_isNeedless 87 = .ok (.iconst 1, 1) := by decide +kernel
theorem dL_isNeedless_88 : decode cL_isNeedless 88 = .ok (.goto 4, 3) := by decide +kernel
theorem dL_isNeedless_91 : decode cL_isNeedless 91 = .ok (.iconst 0, 1) := by decide +kernel
theorem dL_isNeedless_92 : decode cL_isNeedless 92 = .ok (.iadd, 1) := by decide +kernel
theorem dL_isNeedless_93 : decode cL_isNeedless 93 = .ok (.istore 6, 2) := by decide +kernel
theorem dL_isNeedless_95 : decode cL_isNeedless 95 = .ok (.iinc 8 1, 3) := by decide +kernel
theorem dL_isNeedless_98 : decode cL_isNeedless 98 = .ok (.goto (-42), 3) := by decide +kernel
theorem dL_isNeedless_101 : decode cL_isNeedless 101 = .ok (.aload_n 0, 1) := by decide +kernel
theorem dL_isNeedless_102 : decode cL_isNeedless 102 = .ok (.iload_n 2, 1) := by decide +kernel
theorem dL_isNeedless_103 : decode cL_isNeedless 103 = .ok (.iconst 0, 1) := by decide +kernel
theorem dL_isNeedless_104 : decode cL_isNeedless 104 = .ok (.invokevirtual 34, 3) := by decide +kernel
theorem dL_isNeedless_107 : decode cL_isNeedless 107 = .ok (.istore 8, 2) := by decide +kernel
theorem dL_isNeedless_109 : decode cL_isNeedless 109 = .ok (.aload_n 1, 1) := by decide +kernel
theorem dL_isNeedless_110 : decode cL_isNeedless 110 = .ok (.bipush 30, 2) := by decide +kernel
theorem dL_isNeedless_112 : decode cL_isNeedless 112 = .ok (.iload_n 3, 1) := by decide +kernel
theorem dL_isNeedless_113 : decode cL_isNeedless 113 = .ok (.iadd, 1) := by decide +kernel
theorem dL_isNeedless_114 : decode cL_isNeedless 114 = .ok (.iaload, 1) := by decide +kernel
theorem dL_isNeedless_115 : decode cL_isNeedless 115 = .ok (.istore 9, 2) := by decide +kernel
theorem dL_isNeedless_117 : decode cL_isNeedless 117 = .ok (.iload 9, 2) := by decide +kernel
theorem dL_isNeedless_119 : decode cL_isNeedless 119 = .ok (.aload_n 1, 1) := by decide +kernel
theorem dL_isNeedless_120 : decode cL_isNeedless 120 = .ok (.bipush 40, 2) := by decide +kernel
theorem dL_isNeedless_122 : decode cL_isNeedless 122 = .ok (.iaload, 1) := by decide +kernel
theorem dL_isNeedless_123 : decode cL_isNeedless 123 = .ok (.sipush 360, 3) := by decide +kernel
theorem dL_isNeedless_126 : decode cL_isNeedless 126 = .ok (.idiv, 1) := by decide +kernel
theorem dL_isNeedless_127 : decode cL_isNeedless 127 = .ok (.if_icmp .gt 35, 3) := by decide +kernel
theorem dL_isNeedless_130 : decode cL_isNeedless 130 = .ok (.iload 7, 2) := by decide +kernel
theorem dL_isNeedless_132 : decode cL_isNeedless 132 = .ok (.aload_n 0, 1) := by decide +kernel
theorem dL_isNeedless_133 : decode cL_isNeedless 133 = .ok (.iload_n 3, 1) := by decide +kernel
theorem dL_isNeedless_134 : decode cL_isNeedless 134 = .ok (.iload 9, 2) := by decide +kernel
theorem dL_isNeedless_136 : decode cL_isNeedless 136 = .ok (.iload 4, 2) := by decide +kernel
theorem dL_isNeedless_138 : decode cL_isNeedless 138 = .ok (.aload_n 1, 1) := by decide +kernel
theorem dL_isNeedless_139 : decode cL_isNeedless 139 = .ok (.bipush 40, 2) := by decide +kernel
theorem dL_isNeedless_141 : decode cL_isNeedless 141 = .ok (.iaload, 1) := by decide +kernel
theorem dL_isNeedless_142 : decode cL_isNeedless 142 = .ok (.invokevirtual 73, 3) := by decide +kernel
theorem dL_isNeedless_145 : decode cL_isNeedless 145 = .ok (.ifCond .le 7, 3) := by decide +kernel
theorem dL_isNeedless_148 : decode cL_isNeedless 148 = .ok (.iconst 1, 1) := by decide +kernel
theorem dL_isNeedless_149 : decode cL_isNeedless 149 = .ok (.goto 4, 3) := by decide +kernel
theorem dL_isNeedless_152 : decode cL_isNeedless 152 = .ok (.iconst 0, 1) := by decide +kernel
theorem dL_isNeedless_153 : decode cL_isNeedless 153 = .ok (.iadd, 1) := by decide +kernel
theorem dL_isNeedless_154 : decode cL_isNeedless 154 = .ok (.istore 7, 2) := by decide +kernel
theorem dL_isNeedless_156 : decode cL_isNeedless 156 = .ok (.iinc 9 1, 3) := by decide +kernel
theorem dL_isNeedless_159 : decode cL_isNeedless 159 = .ok (.goto (-42), 3) := by decide +kernel
theorem dL_isNeedless_162 : decode cL_isNeedless 162 = .ok (.iload 8, 2) := by decide +kernel
theorem dL_isNeedless_164 : decode cL_isNeedless 164 = .ok (.ifCond .eq 23, 3) := by decide +kernel
theorem dL_isNeedless_167 : decode cL_isNeedless 167 = .ok (.iload 6, 2) := by decide +kernel
theorem dL_isNeedless_169 : decode cL_isNeedless 169 = .ok (.iload 7, 2) := by decide +kernel
theorem dL_isNeedless_171 : decode cL_isNeedless 171 = .ok (.if_icmp .ne 16, 3) := by decide +kernel
theorem dL_isNeedless_174 : decode cL_isNeedless 174 = .ok (.aload_n 0, 1) := by decide +kernel
theorem dL_isNeedless_175 : decode cL_isNeedless 175 = .ok (.iload_n 2, 1) := by decide +kernel
theorem dL_isNeedless_176 : decode cL_isNeedless 176 = .ok (.iconst 1, 1) := by decide +kernel
theorem dL_isNeedless_177 : decode cL_isNeedless 177 = .ok (.invokevirtual 34, 3) := by decide +kernel
theorem dL_isNeedless_180 : decode cL_isNeedless 180 = .ok (.ifCond .ne 7, 3) := by decide +kernel
theorem dL_isNeedless_183 : decode cL_isNeedless 183 = .ok (.iconst 1, 1) := by decide +kernel
theorem dL_isNeedless_184 : decode cL_isNeedless 184 = .ok (.goto 4, 3) := by decide +kernel
theorem dL_isNeedless_187 : decode cL_isNeedless 187 = .ok (.iconst 0, 1) := by decide +kernel
theorem dL_isNeedless_188 : decode cL_isNeedless 188 = .ok (.ireturn, 1) := by decide +kernel
set_option maxRecDepth 20000 in
theorem ggL_law_X4_init : GoodIn wsL_law wsX4_init := goodIn_r _ [6, 7, 8, 9, 10, 11, 12, 13, 14, 15, 16, 17, 310, 311, 312, 313, 314, 315] (by decide +kernel) (by decide +kernel)
set_option maxRecDepth 20000 in
theorem gL_law_X4_init : GoodIn wsL_law (wsX4_init) := ggL_law_X4_init
set_option maxRecDepth 20000 in
theorem ggL_law_X4_today : GoodIn wsL_law wsX4_today := goodIn_r _ [21, 17, 310, 311, 312, 313, 314, 315] (by decide +kernel) (by decide +kernel)
set_option maxRecDepth 20000 in
theorem gL_law_X4_today : GoodIn wsL_law (wsV RL 46 RX4 yX4_today wsX4_today) := goodIn_app (goodIn_of _ (by decide +kernel)) ggL_law_X4_today
set_option maxRecDepth 20000 in
theorem ggL_law_L_draw : GoodIn wsL_law wsL_draw := goodIn_r _ [25, 26, 27, 28] (by decide +kernel) (by decide +kernel)
set_option maxRecDepth 20000 in
theorem gL_law_L_draw : GoodIn wsL_law (va_wsS RL 95 yL_draw wsL_draw) := goodIn_app (goodIn_of _ (by decide +kernel)) ggL_law_L_draw
set_option maxRecDepth 20000 in
theorem ggL_law_L_step : GoodIn wsL_law wsL_step := goodIn_ca (goodIn_ca (goodIn_ca (goodIn_ca (goodIn_c7 (List.mem_of_getElem? (i := 31) rfl) rfl (goodIn_r _ [32, 33, 34, 2, 35, 36, 37, 15, 13, 12, 38, 39, 40, 41, 42, 43, 44, 45, 46, 47, 48, 8, 9, 49, 50, 51, 52, 53, 54, 55, 56, 57, 58, 59, 60, 61, 62, 63, 64, 65, 66, 67, 68, 17, 69, 70, 71, 72, 73, 74, 75, 76, 77, 78, 79, 80, 81, 82, 83, 84, 85, 86, 87, 88, 89, 14, 11, 10, 90, 91, 92, 93, 94, 95, 96, 97, 98, 99, 100, 101, 102, 103, 104, 105, 106, 107, 108, 109, 110, 111, 112, 113, 114, 115, 116, 117, 118, 119, 120, 121, 122, 123, 124, 125, 126, 127, 128, 129, 130, 131, 132, 133, 134, 135, 136, 16, 137, 138, 139, 140, 141, 142, 143, 144, 145, 146, 147, 148, 149, 150, 151, 152, 153, 154, 155, 156, 157, 158, 159, 160, 161, 162, 18, 19, 20, 21, 163, 164, 165, 166, 167, 168, 169, 170, 171, 172, 173, 174, 175, 176, 177, 24, 178, 310, 311, 312, 313, 314, 315, 316, 317, 318, 319, 320, 321, 322, 323, 324, 325, 326, 327, 328, 329] (by decide +kernel) (by decide +kernel))) (goodIn_sub (fun _ h => List.mem_append_left _ (List.mem_append_left _ (List.mem_append_left _ (List.mem_append_right _ h)))) (by decide +kernel))) (goodIn_sub (fun _ h => List.mem_append_left _ (List.mem_append_left _ (List.mem_append_right _ h))) (by decide +kernel))) (goodIn_sub (fun _ h => List.mem_append_left _ (List.mem_append_right _ h)) (by decide +kernel))) (goodIn_sub (fun _ h => List.mem_append_right _ h) (by decide +kernel))
set_option maxRecDepth 20000 in
theorem gL_law_L_step : GoodIn wsL_law (va_wsS RL 99 yL_step wsL_step) := goodIn_app (goodIn_of _ (by decide +kernel)) ggL_law_L_step
set_option maxRecDepth 20000 in
theorem ggL_law_L_areWays : GoodIn wsL_law wsL_areWays := goodIn_ca (goodIn_ca (goodIn_ca (goodIn_r _ [181, 182, 183, 184, 2, 185, 69, 70, 71, 72, 73, 74, 15, 13, 103, 104, 105, 106, 14, 11, 186, 187, 188, 189, 17, 40, 41, 42, 43, 44, 190, 191, 192, 193, 194, 195, 39, 196, 51, 197, 198, 199, 200, 201, 202, 203, 204, 56, 205, 124, 125, 126, 127, 57, 206, 207, 208, 55, 209, 79, 210, 80, 81, 82, 83, 62, 84, 85, 157, 158, 211, 212, 213, 214, 52, 215, 216, 217, 218, 219, 220, 221, 222, 223, 224, 225, 226, 227, 24, 228, 64, 65, 66, 67, 68, 75, 76, 77, 78, 115, 116, 117, 118, 119, 120, 121, 122, 123, 229, 230, 231, 232, 233, 234, 235, 236, 237, 238, 239, 240, 241, 242, 243, 244, 245, 246, 247, 248, 249, 250, 251, 252, 253, 254, 255, 256, 257, 258, 259, 260, 261, 262, 263, 264, 265, 266, 267, 268, 269, 310, 311, 312, 313, 314, 315, 316, 317, 318, 319, 320, 321, 324, 325, 326, 327, 322, 323] (by decide +kernel) (by decide +kernel)) (goodIn_sub (fun _ h => List.mem_append_left _ (List.mem_append_right _ h)) (by decide +kernel))) (goodIn_sub (fun _ h => List.mem_append_left _ (List.mem_append_left _ (List.mem_append_right _ h))) (by decide +kernel))) (goodIn_sub (fun _ h => List.mem_append_right _ h) (by decide +kernel))
set_option maxRecDepth 20000 in
theorem gL_law_L_areWays : GoodIn wsL_law (va_wsS RL 103 yL_areWays wsL_areWays) := goodIn_app (goodIn_of _ (by decide +kernel)) ggL_law_L_areWays
set_option maxRecDepth 20000 in
theorem ggL_law_L_areGaps : GoodIn wsL_law wsL_areGaps := goodIn_ca (goodIn_ca (goodIn_ca (goodIn_r _ [272, 229, 230, 231, 2, 232, 103, 104, 105, 106, 73, 74, 14, 11, 186, 187, 188, 189, 17, 40, 41, 42, 43, 44, 233, 234, 235, 236, 15, 69, 70, 71, 72, 13, 190, 191, 192, 193, 194, 195, 39, 196, 51, 197, 198, 199, 200, 201, 202, 203, 204, 56, 205, 124, 125, 126, 127, 57, 206, 207, 208, 55, 209, 79, 210, 80, 81, 82, 83, 62, 84, 85, 157, 158, 211, 212, 213, 214, 52, 215, 216, 217, 218, 219, 220, 221, 222, 223, 224, 225, 237, 238, 239, 240, 241, 242, 243, 273, 274, 275, 276, 277, 102, 278, 279, 280, 281, 156, 282, 283, 284, 285, 286, 287, 288, 289, 290, 291, 292, 293, 294, 295, 296, 310, 311, 312, 313, 314, 315, 316, 317, 318, 319, 320, 321, 324, 325, 326, 327, 322, 323, 328, 329] (by decide +kernel) (by decide +kernel)) (goodIn_sub (fun _ h => List.mem_append_left _ (List.mem_append_right _ h)) (by decide +kernel))) (goodIn_sub (fun _ h => List.mem_append_left _ (List.mem_append_left _ (List.mem_append_right _ h))) (by decide +kernel))) (goodIn_sub (fun _ h => List.mem_append_right _ h) (by decide +kernel))
set_option maxRecDepth 20000 in
theorem gL_law_L_areGaps : GoodIn wsL_law (va_wsS RL 107 yL_areGaps wsL_areGaps) := goodIn_app (goodIn_of _ (by decide +kernel)) ggL_law_L_areGaps
set_option maxRecDepth 20000 in
theorem ggL_law_L_isNeedless : GoodIn wsL_law wsL_isNeedless := goodIn_ca (goodIn_ca (goodIn_ca (goodIn_r _ [299, 300, 301, 302, 2, 303, 14, 69, 70, 71, 72, 73, 74, 15, 13, 304, 305, 306, 307, 17, 277, 308, 202, 203, 39, 204, 56, 205, 124, 125, 126, 127, 57, 206, 207, 208, 55, 209, 79, 210, 80, 81, 82, 83, 62, 84, 85, 157, 158, 309, 212, 213, 214, 52, 215, 216, 217, 218, 219, 220, 221, 222, 103, 104, 105, 106, 11, 278, 279, 280, 281, 102, 156, 193, 194, 195, 196, 51, 282, 283, 284, 285, 197, 198, 199, 200, 201, 211, 229, 230, 231, 232, 186, 187, 188, 189, 40, 41, 42, 43, 44, 233, 234, 235, 236, 190, 191, 192, 223, 224, 225, 237, 238, 239, 240, 241, 242, 243, 128, 129, 130, 131, 68, 132, 75, 76, 77, 78, 133, 134, 135, 136, 16, 137, 138, 139, 140, 141, 142, 143, 144, 145, 146, 147, 8, 9, 148, 149, 150, 151, 310, 311, 312, 313, 314, 315, 316, 317, 318, 319, 320, 321, 324, 325, 326, 327, 322, 323, 328, 329] (by decide +kernel) (by decide +kernel)) (goodIn_sub (fun _ h => List.mem_append_left _ (List.mem_append_right _ h)) (by decide +kernel))) (goodIn_sub (fun _ h => List.mem_append_right _ h) (by decide +kernel))) (goodIn_sub (fun _ h => List.mem_append_left _ (List.mem_append_left _ (List.mem_append_right _ h))) (by decide +kernel))
set_option maxRecDepth 20000 in
theorem gL_law_L_isNeedless : GoodIn wsL_law (va_wsS RL 110 yL_isNeedless wsL_isNeedless) := goodIn_app (goodIn_of _ (by decide +kernel)) ggL_law_L_isNeedless
theorem dL_law_0 : decode cL_law 0 = .ok (.new 11, 3) := by decide +kernel
theorem dL_law_3 : decode cL_law 3 = .ok (.dup, 1) := by decide +kernel
theorem dL_law_4 : decode cL_law 4 = .ok (.invokespecial 94, 3) := by decide +kernel
theorem dL_law_7 : decode cL_law 7 = .ok (.astore_n 1, 1) := by decide +kernel
theorem dL_law_8 : decode cL_law 8 = .ok (.bipush 41, 2) := by decide +kernel
theorem dL_law_10 : decode cL_law 10 = .ok (.newarray .int, 2) := by decide +kernel
theorem dL_law_12 : decode cL_law 12 = .ok (.astore_n 2, 1) := by decide +kernel
theorem dL_law_13 : decode cL_law 13 = .ok (.bipush 24, 2) := by decide +kernel
theorem dL_law_15 : decode cL_law 15 = .ok (.newarray .int, 2) := by decide +kernel
theorem dL_law_17 : decode cL_law 17 = .ok (.astore_n 3, 1) := by decide +kernel
theorem dL_law_18 : decode cL_law 18 = .ok (.bipush 24, 2) := by decide +kernel
theorem dL_law_20 : decode cL_law 20 = .ok (.newarray .int, 2) := by decide +kernel
theorem dL_law_22 : decode cL_law 22 = .ok (.astore 4, 2) := by decide +kernel
theorem dL_law_24 : decode cL_law 24 = .ok (.aload_n 1, 1) := by decide +kernel
theorem dL_law_25 : decode cL_law 25 = .ok (.invokevirtual 46, 3) := by decide +kernel
theorem dL_law_28 : decode cL_law 28 = .ok (.ifCond .ne 7, 3) := by decide +kernel
theorem dL_law_31 : decode cL_law 31 = .ok (.iconst 1, 1) := by decide +kernel
theorem dL_law_32 : decode cL_law 32 = .ok (.goto 4, 3) := by decide +kernel
theorem dL_law_35 : decode cL_law 35 = .ok (.iconst 0, 1) := by decide +kernel
theorem dL_law_36 : decode cL_law 36 = .ok (.istore 5, 2) := by decide +kernel
theorem dL_law_38 : decode cL_law 38 = .ok (.aload_n 0, 1) := by decide +kernel
theorem dL_law_39 : decode cL_law 39 = .ok (.arraylength, 1) := by decide +kernel
theorem dL_law_40 : decode cL_law 40 = .ok (.iconst 3, 1) := by decide +kernel
theorem dL_law_41 : decode cL_law 41 = .ok (.idiv, 1) := by decide +kernel
theorem dL_law_42 : decode cL_law 42 = .ok (.bipush 70, 2) := by decide +kernel
theorem dL_law_44 : decode cL_law 44 = .ok (.if_icmp .le 8, 3) := by decide +kernel
theorem dL_law_47 : decode cL_law 47 = .ok (.bipush 70, 2) := by decide +kernel
theorem dL_law_49 : decode cL_law 49 = .ok (.goto 7, 3) := by decide +kernel
theorem dL_law_52 : decode cL_law 52 = .ok (.aload_n 0, 1) := by decide +kernel
theorem dL_law_53 : decode cL_law 53 = .ok (.arraylength, 1) := by decide +kernel
theorem dL_law_54 : decode cL_law 54 = .ok (.iconst 3, 1) := by decide +kernel
theorem dL_law_55 : decode cL_law 55 = .ok (.idiv, 1) := by decide +kernel
theorem dL_law_56 : decode cL_law 56 = .ok (.istore 6, 2) := by decide +kernel
theorem dL_law_58 : decode cL_law 58 = .ok (.iconst 0, 1) := by decide +kernel
theorem dL_law_59 : decode cL_law 59 = .ok (.istore 7, 2) := by decide +kernel
theorem dL_law_61 : decode cL_law 61 = .ok (.iload 7, 2) := by decide +kernel
theorem dL_law_63 : decode cL_law 63 = .ok (.iload 6, 2) := by decide +kernel
theorem dL_law_65 : decode cL_law 65 = .ok (.if_icmp .ge 220, 3) := by decide +kernel
theorem dL_law_68 : decode cL_law 68 = .ok (.iload 5, 2) := by decide +kernel
theorem dL_law_70 : decode cL_law 70 = .ok (.ifCond .eq 215, 3) := by decide +kernel
theorem dL_law_73 : decode cL_law 73 = .ok (.aload_n 0, 1) := by decide +kernel
theorem dL_law_74 : decode cL_law 74 = .ok (.iconst 3, 1) := by decide +kernel
theorem dL_law_75 : decode cL_law 75 = .ok (.iload 7, 2) := by decide +kernel
theorem dL_law_77 : decode cL_law 77 = .ok (.imul, 1) := by decide +kernel
theorem dL_law_78 : decode cL_law 78 = .ok (.iconst 1, 1) := by decide +kernel
theorem dL_law_79 : decode cL_law 79 = .ok (.iadd, 1) := by decide +kernel
theorem dL_law_80 : decode cL_law 80 = .ok (.invokestatic 95, 3) := by decide +kernel
theorem dL_law_83 : decode cL_law 83 = .ok (.istore 8, 2) := by decide +kernel
theorem dL_law_85 : decode cL_law 85 = .ok (.aload_n 0, 1) := by decide +kernel
theorem dL_law_86 : decode cL_law 86 = .ok (.iconst 3, 1) := by decide +kernel
theorem dL_law_87 : decode cL_law 87 = .ok (.iload 7, 2) := by decide +kernel
theorem dL_law_89 : decode cL_law 89 = .ok (.imul, 1) := by decide +kernel
theorem dL_law_90 : decode cL_law 90 = .ok (.iconst 2, 1) := by decide +kernel
theorem dL_law_91 : decode cL_law 91 = .ok (.iadd, 1) := by decide +kernel
theorem dL_law_92 : decode cL_law 92 = .ok (.invokestatic 95, 3) := by decide +kernel
theorem dL_law_95 : decode cL_law 95 = .ok (.istore 9, 2) := by decide +kernel
theorem dL_law_97 : decode cL_law 97 = .ok (.aload_n 1, 1) := by decide +kernel
theorem dL_law_98 : decode cL_law 98 = .ok (.aload_n 2, 1) := by decide +kernel
theorem dL_law_99 : decode cL_law 99 = .ok (.aload_n 3, 1) := by decide +kernel
theorem dL_law_100 : decode cL_law 100 = .ok (.aload 4, 2) := by decide +kernel
theorem dL_law_102 : decode cL_law 102 = .ok (.aload_n 0, 1) := by decide +kernel
theorem dL_law_103 : decode cL_law 103 = .ok (.iconst 3, 1) := by decide +kernel
theorem dL_law_104 : decode cL_law 104 = .ok (.iload 7, 2) := by decide +kernel
theorem dL_law_106 : decode cL_law 106 = .ok (.imul, 1) := by decide +kernel
theorem dL_law_107 : decode cL_law 107 = .ok (.invokestatic 95, 3) := by decide +kernel
theorem dL_law_110 : decode cL_law 110 = .ok (.iload 8, 2) := by decide +kernel
theorem dL_law_112 : decode cL_law 112 = .ok (.iload 9, 2) := by decide +kernel
theorem dL_law_114 : decode cL_law 114 = .ok (.invokestatic 99, 3) := by decide +kernel
theorem dL_law_117 : decode cL_law 117 = .ok (.istore 5, 2) := by decide +kernel
theorem dL_law_119 : decode cL_law 119 = .ok (.iload 5, 2) := by decide +kernel
theorem dL_law_121 : decode cL_law 121 = .ok (.ifCond .eq 158, 3) := by decide +kernel
theorem dL_law_124 : decode cL_law 124 = .ok (.iload 7, 2) := by decide +kernel
theorem dL_law_126 : decode cL_law 126 = .ok (.iconst 4, 1) := by decide +kernel
theorem dL_law_127 : decode cL_law 127 = .ok (.irem, 1) := by decide +kernel
theorem dL_law_128 : decode cL_law 128 = .ok (.iconst 3, 1) := by decide +kernel
theorem dL_law_129 : decode cL_law 129 = .ok (.if_icmp .ne 150, 3) := by decide +kernel
theorem dL_law_132 : decode cL_law 132 = .ok (.aload_n 2, 1) := by decide +kernel
theorem dL_law_133 : decode cL_law 133 = .ok (.bipush 38, 2) := by decide +kernel
theorem dL_law_135 : decode cL_law 135 = .ok (.iaload, 1) := by decide +kernel
theorem dL_law_136 : decode cL_law 136 = .ok (.ifCond .le 143, 3) := by decide +kernel
theorem dL_law_139 : decode cL_law 139 = .ok (.aload_n 2, 1) := by decide +kernel
theorem dL_law_140 : decode cL_law 140 = .ok (.bipush 39, 2) := by decide +kernel
theorem dL_law_142 : decode cL_law 142 = .ok (.iaload, 1) := by decide +kernel
theorem dL_law_143 : decode cL_law 143 = .ok (.ifCond .le 136, 3) := by decide +kernel
theorem dL_law_146 : decode cL_law 146 = .ok (.iload 9, 2) := by decide +kernel
theorem dL_law_148 : decode cL_law 148 = .ok (.aload_n 2, 1) := by decide +kernel
theorem dL_law_149 : decode cL_law 149 = .ok (.bipush 39, 2) := by decide +kernel
theorem dL_law_151 : decode cL_law 151 = .ok (.iaload, 1) := by decide +kernel
theorem dL_law_152 : decode cL_law 152 = .ok (.irem, 1) := by decide +kernel
theorem dL_law_153 : decode cL_law 153 = .ok (.istore 10, 2) := by decide +kernel
theorem dL_law_155 : decode cL_law 155 = .ok (.iload 8, 2) := by decide +kernel
theorem dL_law_157 : decode cL_law 157 = .ok (.iload 9, 2) := by decide +kernel
theorem dL_law_159 : decode cL_law 159 = .ok (.iconst 3, 1) := by decide +kernel
theorem dL_law_160 : decode cL_law 160 = .ok (.irem, 1) := by decide +kernel
theorem dL_law_161 : decode cL_law 161 = .ok (.ifCond .ne 8, 3) := by decide +kernel
theorem dL_law_164 : decode cL_law 164 = .ok (.bipush 56, 2) := by decide +kernel
theorem dL_law_166 : decode cL_law 166 = .ok (.goto 13, 3) := by decide +kernel
theorem dL_law_169 : decode cL_law 169 = .ok (.iconst 1, 1) := by decide +kernel
theorem dL_law_170 : decode cL_law 170 = .ok (.aload_n 2, 1) := by decide +kernel
theorem dL_law_171 : decode cL_law 171 = .ok (.bipush 40, 2) := by decide +kernel
theorem dL_law_173 : decode cL_law 173 = .ok (.iaload, 1) := by decide +kernel
theorem dL_law_174 : decode cL_law 174 = .ok (.sipush 360, 3) := by decide +kernel
theorem dL_law_177 : decode cL_law 177 = .ok (.idiv, 1) := by decide +kernel
theorem dL_law_178 : decode cL_law 178 = .ok (.iadd, 1) := by decide +kernel
theorem dL_law_179 : decode cL_law 179 = .ok (.irem, 1) := by decide +kernel
theorem dL_law_180 : decode cL_law 180 = .ok (.istore 11, 2) := by decide +kernel
theorem dL_law_182 : decode cL_law 182 = .ok (.aload_n 1, 1) := by decide +kernel
theorem dL_law_183 : decode cL_law 183 = .ok (.aload_n 2, 1) := by decide +kernel
theorem dL_law_184 : decode cL_law 184 = .ok (.aload_n 3, 1) := by decide +kernel
theorem dL_law_185 : decode cL_law 185 = .ok (.aload 4, 2) := by decide +kernel
theorem dL_law_187 : decode cL_law 187 = .ok (.iload 10, 2) := by decide +kernel
theorem dL_law_189 : decode cL_law 189 = .ok (.iload 11, 2) := by decide +kernel
theorem dL_law_191 : decode cL_law 191 = .ok (.iload 9, 2) := by decide +kernel
theorem dL_law_193 : decode cL_law 193 = .ok (.iconst 3, 1) := by decide +kernel
theorem dL_law_194 : decode cL_law 194 = .ok (.idiv, 1) := by decide +kernel
theorem dL_law_195 : decode cL_law 195 = .ok (.iconst 4, 1) := by decide +kernel
theorem dL_law_196 : decode cL_law 196 = .ok (.irem, 1) := by decide +kernel
theorem dL_law_197 : decode cL_law 197 = .ok (.aload_n 2, 1) := by decide +kernel
theorem dL_law_198 : decode cL_law 198 = .ok (.bipush 40, 2) := by decide +kernel
theorem dL_law_200 : decode cL_law 200 = .ok (.iaload, 1) := by decide +kernel
theorem dL_law_201 : decode cL_law 201 = .ok (.invokestatic 103, 3) := by decide +kernel
theorem dL_law_204 : decode cL_law 204 = .ok (.ifCond .eq 72, 3) := by decide +kernel
theorem dL_law_207 : decode cL_law 207 = .ok (.aload_n 1, 1) := by decide +kernel
theorem dL_law_208 : decode cL_law 208 = .ok (.aload_n 2, 1) := by decide +kernel
theorem dL_law_209 : decode cL_law 209 = .ok (.aload_n 3, 1) := by decide +kernel
theorem dL_law_210 : decode cL_law 210 = .ok (.aload 4, 2) := by decide +kernel
theorem dL_law_212 : decode cL_law 212 = .ok (.iload 10, 2) := by decide +kernel
theorem dL_law_214 : decode cL_law 214 = .ok (.iload 11, 2) := by decide +kernel
theorem dL_law_216 : decode cL_law 216 = .ok (.iload 9, 2) := by decide +kernel
theorem dL_law_218 : decode cL_law 218 = .ok (.iconst 3, 1) := by decide +kernel
theorem dL_law_219 : decode cL_law 219 = .ok (.idiv, 1) := by decide +kernel
theorem dL_law_220 : decode cL_law 220 = .ok (.iconst 4, 1) := by decide +kernel
theorem dL_law_221 : decode cL_law 221 = .ok (.irem, 1) := by decide +kernel
theorem dL_law_222 : decode cL_law 222 = .ok (.iload 8, 2) := by decide +kernel
theorem dL_law_224 : decode cL_law 224 = .ok (.aload_n 2, 1) := by decide +kernel
theorem dL_law_225 : decode cL_law 225 = .ok (.bipush 40, 2) := by decide +kernel
theorem dL_law_227 : decode cL_law 227 = .ok (.iaload, 1) := by decide +kernel
theorem dL_law_228 : decode cL_law 228 = .ok (.iconst 1, 1) := by decide +kernel
theorem dL_law_229 : decode cL_law 229 = .ok (.iadd, 1) := by decide +kernel
theorem dL_law_230 : decode cL_law 230 = .ok (.irem, 1) := by decide +kernel
theorem dL_law_231 : decode cL_law 231 = .ok (.invokestatic 103, 3) := by decide +kernel
theorem dL_law_234 : decode cL_law 234 = .ok (.ifCond .eq 42, 3) := by decide +kernel
theorem dL_law_237 : decode cL_law 237 = .ok (.aload_n 1, 1) := by decide +kernel
theorem dL_law_238 : decode cL_law 238 = .ok (.aload_n 2, 1) := by decide +kernel
theorem dL_law_239 : decode cL_law 239 = .ok (.iload 10, 2) := by decide +kernel
theorem dL_law_241 : decode cL_law 241 = .ok (.iload 8, 2) := by decide +kernel
theorem dL_law_243 : decode cL_law 243 = .ok (.iconst 4, 1) := by decide +kernel
theorem dL_law_244 : decode cL_law 244 = .ok (.irem, 1) := by decide +kernel
theorem dL_law_245 : decode cL_law 245 = .ok (.invokestatic 107, 3) := by decide +kernel
theorem dL_law_248 : decode cL_law 248 = .ok (.ifCond .eq 28, 3) := by decide +kernel
theorem dL_law_251 : decode cL_law 251 = .ok (.aload_n 1, 1) := by decide +kernel
theorem dL_law_252 : decode cL_law 252 = .ok (.aload_n 2, 1) := by decide +kernel
theorem dL_law_253 : decode cL_law 253 = .ok (.iload 8, 2) := by decide +kernel
theorem dL_law_255 : decode cL_law 255 = .ok (.aload_n 2, 1) := by decide +kernel
theorem dL_law_256 : decode cL_law 256 = .ok (.bipush 38, 2) := by decide +kernel
theorem dL_law_258 : decode cL_law 258 = .ok (.iaload, 1) := by decide +kernel
theorem dL_law_259 : decode cL_law 259 = .ok (.irem, 1) := by decide +kernel
theorem dL_law_260 : decode cL_law 260 = .ok (.iload 10, 2) := by decide +kernel
theorem dL_law_262 : decode cL_law 262 = .ok (.iload 9, 2) := by decide +kernel
theorem dL_law_264 : decode cL_law 264 = .ok (.iconst 4, 1) := by decide +kernel
theorem dL_law_265 : decode cL_law 265 = .ok (.irem, 1) := by decide +kernel
theorem dL_law_266 : decode cL_law 266 = .ok (.invokestatic 110, 3) := by decide +kernel
theorem dL_law_269 : decode cL_law 269 = .ok (.ifCond .eq 7, 3) := by decide +kernel
theorem dL_law_272 : decode cL_law 272 = .ok (.iconst 1, 1) := by decide +kernel
theorem dL_law_273 : decode cL_law 273 = .ok (.goto 4, 3) := by decide +kernel
theorem dL_law_276 : decode cL_law 276 = .ok (.iconst 0, 1) := by decide +kernel
theorem dL_law_277 : decode cL_law 277 = .ok (.istore 5, 2) := by decide +kernel
theorem dL_law_279 : decode cL_law 279 = .ok (.iinc 7 1, 3) := by decide +kernel
theorem dL_law_282 : decode cL_law 282 = .ok (.goto (-221), 3) := by decide +kernel
theorem dL_law_285 : decode cL_law 285 = .ok (.iload 5, 2) := by decide +kernel
theorem dL_law_287 : decode cL_law 287 = .ok (.ireturn, 1) := by decide +kernel
abbrev vwCl : List vw_C := [(RX0, TX0, 4), (RX1, TX1, 2), (RX2, TX2, 6), (RX3, TX3, 2), (RX4, TX4, 6)]
