theorem dX9_one_13 : decode cX9_one 13 = .ok (.aload_n 0, 1) := by decide +kernel
theorem dX9_one_14 : decode cX9_one 14 = .ok (.dup, 1) := by decide +kernel
theorem dX9_one_15 : decode cX9_one 15 = .ok (.getfield 67, 3) := by decide +kernel
theorem dX9_one_18 : decode cX9_one 18 = .ok (.iconst 1, 1) := by decide +kernel
theorem dX9_one_19 : decode cX9_one 19 = .ok (.iadd, 1) := by decide +kernel
theorem dX9_one_20 : decode cX9_one 20 = .ok (.putfield 67, 3) := by decide +kernel
theorem dX9_one_23 : decode cX9_one 23 = .ok (.aload_n 0, 1) := by decide +kernel
theorem dX9_one_24 : decode cX9_one 24 = .ok (.iconst 1, 1) := by decide +kernel
theorem dX9_one_25 : decode cX9_one 25 = .ok (.iload_n 1, 1) := by decide +kernel
theorem dX9_one_26 : decode cX9_one 26 = .ok (.invokevirtual 85, 3) := by decide +kernel
theorem dX9_one_29 : decode cX9_one 29 = .ok (.iconst 1, 1) := by decide +kernel
theorem dX9_one_30 : decode cX9_one 30 = .ok (.ireturn, 1) := by decide +kernel
theorem dX9_one_31 : decode cX9_one 31 = .ok (.iload_n 1, 1) := by decide +kernel
theorem dX9_one_32 : decode cX9_one 32 = .ok (.bipush 48, 2) := by decide +kernel
theorem dX9_one_34 : decode cX9_one 34 = .ok (.bipush 57, 2) := by decide +kernel
theorem dX9_one_36 : decode cX9_one 36 = .ok (.invokestatic 57, 3) := by decide +kernel
theorem dX9_one_39 : decode cX9_one 39 = .ok (.ifCond .eq 63, 3) := by decide +kernel
theorem dX9_one_42 : decode cX9_one 42 = .ok (.iconst 0, 1) := by decide +kernel
theorem dX9_one_43 : decode cX9_one 43 = .ok (.istore_n 2, 1) := by decide +kernel
theorem dX9_one_44 : decode cX9_one 44 = .ok (.iconst 0, 1) := by decide +kernel
theorem dX9_one_45 : decode cX9_one 45 = .ok (.istore_n 3, 1) := by decide +kernel
theorem dX9_one_46 : decode cX9_one 46 = .ok (.iload_n 3, 1) := by decide +kernel
theorem dX9_one_47 : decode cX9_one 47 = .ok (.iconst 4, 1) := by decide +kernel
theorem dX9_one_48 : decode cX9_one 48 = .ok (.if_icmp .ge 46, 3) := by decide +kernel
theorem dX9_one_51 : decode cX9_one 51 = .ok (.aload_n 0, 1) := by decide +kernel
theorem dX9_one_52 : decode cX9_one 52 = .ok (.invokevirtual 81, 3) := by decide +kernel
theorem dX9_one_55 : decode cX9_one 55 = .ok (.bipush 48, 2) := by decide +kernel
theorem dX9_one_57 : decode cX9_one 57 = .ok (.bipush 57, 2) := by decide +kernel
theorem dX9_one_59 : decode cX9_one 59 = .ok (.invokestatic 57, 3) := by decide +kernel
theorem dX9_one_62 : decode cX9_one 62 = .ok (.ifCond .eq 32, 3) := by decide +kernel
theorem dX9_one_65 : decode cX9_one 65 = .ok (.bipush 10, 2) := by decide +kernel
theorem dX9_one_67 : decode cX9_one 67 = .ok (.iload_n 2, 1) := by decide +kernel
theorem dX9_one_68 : decode cX9_one 68 = .ok (.imul, 1) := by decide +kernel
theorem dX9_one_69 : decode cX9_one 69 = .ok (.aload_n 0, 1) := by decide +kernel
theorem dX9_one_70 : decode cX9_one 70 = .ok (.invokevirtual 81, 3) := by decide +kernel
theorem dX9_one_73 : decode cX9_one 73 = .ok (.iadd, 1) := by decide +kernel
theorem dX9_one_74 : decode cX9_one 74 = .ok (.bipush 48, 2) := by decide +kernel
theorem dX9_one_76 : decode cX9_one 76 = .ok (.isub, 1) := by decide +kernel
theorem dX9_one_77 : decode cX9_one 77 = .ok (.istore_n 2, 1) := by decide +kernel
theorem dX9_one_78 : decode cX9_one 78 = .ok (.aload_n 0, 1) := by decide +kernel
theorem dX9_one_79 : decode cX9_one 79 = .ok (.dup, 1) := by decide +kernel
theorem dX9_one_80 : decode cX9_one 80 = .ok (.getfield 67, 3) := by decide +kernel
theorem dX9_one_83 : decode cX9_one 83 = .ok (.iconst 1, 1) := by decide +kernel
theorem dX9_one_84 : decode cX9_one 84 = .ok (.iadd, 1) := by decide +kernel
theorem dX9_one_85 : decode cX9_one 85 = .ok (.putfield 67, 3) := by decide +kernel
theorem dX9_one_88 : decode cX9_one 88 = .ok (.iinc 3 1, 3) := by decide +kernel
theorem dX9_one_91 : decode cX9_one 91 = .ok (.goto (-45), 3) := by decide +kernel
theorem dX9_one_94 : decode cX9_one 94 = .ok (.aload_n 0, 1) := by decide +kernel
theorem dX9_one_95 : decode cX9_one 95 = .ok (.iconst 0, 1) := by decide +kernel
theorem dX9_one_96 : decode cX9_one 96 = .ok (.iload_n 2, 1) := by decide +kernel
theorem dX9_one_97 : decode cX9_one 97 = .ok (.invokevirtual 85, 3) := by decide +kernel
theorem dX9_one_100 : decode cX9_one 100 = .ok (.iconst 1, 1) := by decide +kernel
theorem dX9_one_101 : decode cX9_one 101 = .ok (.ireturn, 1) := by decide +kernel
theorem dX9_one_102 : decode cX9_one 102 = .ok (.iload_n 1, 1) := by decide +kernel
theorem dX9_one_103 : decode cX9_one 103 = .ok (.bipush 33, 2) := by decide +kernel
theorem dX9_one_105 : decode cX9_one 105 = .ok (.if_icmp .ne 37, 3) := by decide +kernel
theorem dX9_one_108 : decode cX9_one 108 = .ok (.aload_n 0, 1) := by decide +kernel
theorem dX9_one_109 : decode cX9_one 109 = .ok (.invokevirtual 108, 3) := by decide +kernel
theorem dX9_one_112 : decode cX9_one 112 = .ok (.ifCond .eq 10, 3) := by decide +kernel
theorem dX9_one_115 : decode cX9_one 115 = .ok (.aload_n 0, 1) := by decide +kernel
theorem dX9_one_116 : decode cX9_one 116 = .ok (.invokevirtual 98, 3) := by decide +kernel
theorem dX9_one_119 : decode cX9_one 119 = .ok (.ifCond .ne 5, 3) := by decide +kernel
theorem dX9_one_122 : decode cX9_one 122 = .ok (.iconst 0, 1) := by decide +kernel
theorem dX9_one_123 : decode cX9_one 123 = .ok (.ireturn, 1) := by decide +kernel
theorem dX9_one_124 : decode cX9_one 124 = .ok (.aload_n 0, 1) := by decide +kernel
theorem dX9_one_125 : decode cX9_one 125 = .ok (.dup, 1) := by decide +kernel
theorem dX9_one_126 : decode cX9_one 126 = .ok (.getfield 101, 3) := by decide +kernel
theorem dX9_one_129 : decode cX9_one 129 = .ok (.iconst 1, 1) := by decide +kernel
theorem dX9_one_130 : decode cX9_one 130 = .ok (.isub, 1) := by decide +kernel
theorem dX9_one_131 : decode cX9_one 131 = .ok (.putfield 101, 3) := by decide +kernel
theorem dX9_one_134 : decode cX9_one 134 = .ok (.aload_n 0, 1) := by decide +kernel
theorem dX9_one_135 : decode cX9_one 135 = .ok (.iconst 2, 1) := by decide +kernel
theorem dX9_one_136 : decode cX9_one 136 = .ok (.iconst 0, 1) := by decide +kernel
theorem dX9_one_137 : decode cX9_one 137 = .ok (.invokevirtual 85, 3) := by decide +kernel
theorem dX9_one_140 : decode cX9_one 140 = .ok (.iconst 1, 1) := by decide +kernel
theorem dX9_one_141 : decode cX9_one 141 = .ok (.ireturn, 1) := by decide +kernel
theorem dX9_one_142 : decode cX9_one 142 = .ok (.iload_n 1, 1) := by decide +kernel
theorem dX9_one_143 : decode cX9_one 143 = .ok (.bipush 40, 2) := by decide +kernel
theorem dX9_one_145 : decode cX9_one 145 = .ok (.if_icmp .ne 26, 3) := by decide +kernel
theorem dX9_one_148 : decode cX9_one 148 = .ok (.aload_n 0, 1) := by decide +kernel
theorem dX9_one_149 : decode cX9_one 149 = .ok (.invokevirtual 108, 3) := by decide +kernel
theorem dX9_one_152 : decode cX9_one 152 = .ok (.ifCond .eq 19, 3) := by decide +kernel
theorem dX9_one_155 : decode cX9_one 155 = .ok (.aload_n 0, 1) := by decide +kernel
theorem dX9_one_156 : decode cX9_one 156 = .ok (.invokevirtual 111, 3) := by decide +kernel
theorem dX9_one_159 : decode cX9_one 159 = .ok (.ifCond .eq 12, 3) := by decide +kernel
theorem dX9_one_162 : decode cX9_one 162 = .ok (.aload_n 0, 1) := by decide +kernel
theorem dX9_one_163 : decode cX9_one 163 = .ok (.invokevirtual 81, 3) := by decide +kernel
theorem dX9_one_166 : decode cX9_one 166 = .ok (.bipush 41, 2) := by decide +kernel
theorem dX9_one_168 : decode cX9_one 168 = .ok (.if_icmp .eq 5, 3) := by decide +kernel
theorem dX9_one_171 : decode cX9_one 171 = .ok (.iconst 0, 1) := by decide +kernel
theorem dX9_one_172 : decode cX9_one 172 = .ok (.ireturn, 1) := by decide +kernel
theorem dX9_one_173 : decode cX9_one 173 = .ok (.aload_n 0, 1) := by decide +kernel
theorem dX9_one_174 : decode cX9_one 174 = .ok (.dup, 1) := by decide +kernel
theorem dX9_one_175 : decode cX9_one 175 = .ok (.getfield 67, 3) := by decide +kernel
theorem dX9_one_178 : decode cX9_one 178 = .ok (.iconst 1, 1) := by decide +kernel
theorem dX9_one_179 : decode cX9_one 179 = .ok (.iadd, 1) := by decide +kernel
theorem dX9_one_180 : decode cX9_one 180 = .ok (.putfield 67, 3) := by decide +kernel
theorem dX9_one_183 : decode cX9_one 183 = .ok (.aload_n 0, 1) := by decide +kernel
theorem dX9_one_184 : decode cX9_one 184 = .ok (.dup, 1) := by decide +kernel
theorem dX9_one_185 : decode cX9_one 185 = .ok (.getfield 101, 3) := by decide +kernel
theorem dX9_one_188 : decode cX9_one 188 = .ok (.iconst 1, 1) := by decide +kernel
theorem dX9_one_189 : decode cX9_one 189 = .ok (.isub, 1) := by decide +kernel
theorem dX9_one_190 : decode cX9_one 190 = .ok (.putfield 101, 3) := by decide +kernel
theorem dX9_one_193 : decode cX9_one 193 = .ok (.iconst 1, 1) := by decide +kernel
theorem dX9_one_194 : decode cX9_one 194 = .ok (.ireturn, 1) := by decide +kernel
theorem dX9_hasText_0 : decode cX9_hasText 0 = .ok (.aload_n 0, 1) := by decide +kernel
theorem dX9_hasText_1 : decode cX9_hasText 1 = .ok (.getfield 7, 3) := by decide +kernel
theorem dX9_hasText_4 : decode cX9_hasText 4 = .ok (.bipush 32, 2) := by decide +kernel
theorem dX9_hasText_6 : decode cX9_hasText 6 = .ok (.bipush 125, 2) := by decide +kernel
theorem dX9_hasText_8 : decode cX9_hasText 8 = .ok (.iload_n 1, 1) := by decide +kernel
theorem dX9_hasText_9 : decode cX9_hasText 9 = .ok (.imul, 1) := by decide +kernel
theorem dX9_hasText_10 : decode cX9_hasText 10 = .ok (.iadd, 1) := by decide +kernel
theorem dX9_hasText_11 : decode cX9_hasText 11 = .ok (.iaload, 1) := by decide +kernel
theorem dX9_hasText_12 : decode cX9_hasText 12 = .ok (.ifCond .le 7, 3) := by decide +kernel
theorem dX9_hasText_15 : decode cX9_hasText 15 = .ok (.iconst 1, 1) := by decide +kernel
theorem dX9_hasText_16 : decode cX9_hasText 16 = .ok (.goto 4, 3) := by decide +kernel
theorem dX9_hasText_19 : decode cX9_hasText 19 = .ok (.iconst 0, 1) := by decide +kernel
theorem dX9_hasText_20 : decode cX9_hasText 20 = .ok (.ireturn, 1) := by decide +kernel
set_option maxRecDepth 20000 in
theorem ggX9_text_X9_in : GoodIn wsX9_text wsX9_in := goodIn_r _ [10] (by decide +kernel) (by decide +kernel)
set_option maxRecDepth 20000 in
theorem gX9_text_X9_in : GoodIn wsX9_text (va_wsS RX9 57 yX9_in wsX9_in) := goodIn_app (goodIn_of _ (by decide +kernel)) ggX9_text_X9_in
set_option maxRecDepth 20000 in
theorem ggX9_text_X9_error : GoodIn wsX9_text wsX9_error := goodIn_r _ [14, 15, 16, 57, 58, 59, 60, 61, 62, 63, 64, 65, 66, 67, 68, 69, 70, 71, 72, 73, 74, 75, 76, 77, 78, 79, 80, 81] (by decide +kernel) (by decide +kernel)
set_option maxRecDepth 20000 in
theorem gX9_text_X9_error : GoodIn wsX9_text (wsV RX9 61 RX9 yX9_error wsX9_error) := goodIn_app (goodIn_of _ (by decide +kernel)) ggX9_text_X9_error
set_option maxRecDepth 20000 in
theorem ggX9_text_X9_whole : GoodIn wsX9_text wsX9_whole := goodIn_r _ [20, 2, 21, 22, 23, 9, 24, 25, 26, 27, 5, 28, 29, 30, 31, 6, 4, 32, 33, 34, 35, 36, 37, 38, 39, 40, 3, 41, 42, 43, 44, 1, 7, 8, 10, 45, 46, 47, 48, 49, 50, 51, 17, 18, 19, 52, 53, 54, 55, 56, 57, 58, 59, 60, 61, 62, 63, 64, 65, 66, 67, 68, 69, 70, 71, 72, 73, 74, 75, 76, 77, 78, 79, 80, 81] (by decide +kernel) (by decide +kernel)
set_option maxRecDepth 20000 in
theorem gX9_text_X9_whole : GoodIn wsX9_text (wsV RX9 111 RX9 yX9_whole wsX9_whole) := goodIn_app (goodIn_of _ (by decide +kernel)) ggX9_text_X9_whole
theorem dX9_text_0 : decode cX9_text 0 = .ok (.iload_n 1, 1) := by decide +kernel
theorem dX9_text_1 : decode cX9_text 1 = .ok (.iconst 0, 1) := by decide +kernel
theorem dX9_text_2 : decode cX9_text 2 = .ok (.iconst 1, 1) := by decide +kernel
theorem dX9_text_3 : decode cX9_text 3 = .ok (.invokestatic 57, 3) := by decide +kernel
theorem dX9_text_6 : decode cX9_text 6 = .ok (.ifCond .ne 9, 3) := by decide +kernel
theorem dX9_text_9 : decode cX9_text 9 = .ok (.aload_n 0, 1) := by decide +kernel
theorem dX9_text_10 : decode cX9_text 10 = .ok (.iconst 1, 1) := by decide +kernel
theorem dX9_text_11 : decode cX9_text 11 = .ok (.invokevirtual 61, 3) := by decide +kernel
theorem dX9_text_14 : decode cX9_text 14 = .ok (.ireturn, 1) := by decide +kernel
theorem dX9_text_15 : decode cX9_text 15 = .ok (.aload_n 0, 1) := by decide +kernel
theorem dX9_text_16 : decode cX9_text 16 = .ok (.iload_n 1, 1) := by decide +kernel
theorem dX9_text_17 : decode cX9_text 17 = .ok (.putfield 71, 3) := by decide +kernel
theorem dX9_text_20 : decode cX9_text 20 = .ok (.aload_n 0, 1) := by decide +kernel
theorem dX9_text_21 : decode cX9_text 21 = .ok (.iconst 0, 1) := by decide +kernel
theorem dX9_text_22 : decode cX9_text 22 = .ok (.putfield 67, 3) := by decide +kernel
theorem dX9_text_25 : decode cX9_text 25 = .ok (.aload_n 0, 1) := by decide +kernel
theorem dX9_text_26 : decode cX9_text 26 = .ok (.iconst 0, 1) := by decide +kernel
theorem dX9_text_27 : decode cX9_text 27 = .ok (.putfield 101, 3) := by decide +kernel
theorem dX9_text_30 : decode cX9_text 30 = .ok (.aload_n 0, 1) := by decide +kernel
theorem dX9_text_31 : decode cX9_text 31 = .ok (.iconst 0, 1) := by decide +kernel
theorem dX9_text_32 : decode cX9_text 32 = .ok (.putfield 74, 3) := by decide +kernel
theorem dX9_text_35 : decode cX9_text 35 = .ok (.aload_n 0, 1) := by decide +kernel
theorem dX9_text_36 : decode cX9_text 36 = .ok (.invokevirtual 111, 3) := by decide +kernel
theorem dX9_text_39 : decode cX9_text 39 = .ok (.ifCond .eq 20, 3) := by decide +kernel
theorem dX9_text_42 : decode cX9_text 42 = .ok (.aload_n 0, 1) := by decide +kernel
theorem dX9_text_43 : decode cX9_text 43 = .ok (.getfield 67, 3) := by decide +kernel
theorem dX9_text_46 : decode cX9_text 46 = .ok (.aload_n 0, 1) := by decide +kernel
theorem dX9_text_47 : decode cX9_text 47 = .ok (.getfield 7, 3) := by decide +kernel
theorem dX9_text_50 : decode cX9_text 50 = .ok (.iconst 5, 1) := by decide +kernel
theorem dX9_text_51 : decode cX9_text 51 = .ok (.iaload, 1) := by decide +kernel
theorem dX9_text_52 : decode cX9_text 52 = .ok (.if_icmp .ne 7, 3) := by decide +kernel
theorem dX9_text_55 : decode cX9_text 55 = .ok (.iconst 1, 1) := by decide +kernel
theorem dX9_text_56 : decode cX9_text 56 = .ok (.goto 4, 3) := by decide +kernel
theorem dX9_text_59 : decode cX9_text 59 = .ok (.iconst 0, 1) := by decide +kernel
theorem dX9_text_60 : decode cX9_text 60 = .ok (.istore_n 2, 1) := by decide +kernel
theorem dX9_text_61 : decode cX9_text 61 = .ok (.aload_n 0, 1) := by decide +kernel
theorem dX9_text_62 : decode cX9_text 62 = .ok (.getfield 7, 3) := by decide +kernel
theorem dX9_text_65 : decode cX9_text 65 = .ok (.iconst 5, 1) := by decide +kernel
theorem dX9_text_66 : decode cX9_text 66 = .ok (.iconst 0, 1) := by decide +kernel
theorem dX9_text_67 : decode cX9_text 67 = .ok (.iastore, 1) := by decide +kernel
theorem dX9_text_68 : decode cX9_text 68 = .ok (.iload_n 2, 1) := by decide +kernel
theorem dX9_text_69 : decode cX9_text 69 = .ok (.ifCond .ne 11, 3) := by decide +kernel
theorem dX9_text_72 : decode cX9_text 72 = .ok (.bipush (-10), 2) := by decide +kernel
theorem dX9_text_74 : decode cX9_text 74 = .ok (.aload_n 0, 1) := by decide +kernel
theorem dX9_text_75 : decode cX9_text 75 = .ok (.getfield 67, 3) := by decide +kernel
theorem dX9_text_78 : decode cX9_text 78 = .ok (.isub, 1) := by decide +kernel
theorem dX9_text_79 : decode cX9_text 79 = .ok (.ireturn, 1) := by decide +kernel
theorem dX9_text_80 : decode cX9_text 80 = .ok (.bipush 32, 2) := by decide +kernel
theorem dX9_text_82 : decode cX9_text 82 = .ok (.bipush 125, 2) := by decide +kernel
theorem dX9_text_84 : decode cX9_text 84 = .ok (.iload_n 1, 1) := by decide +kernel
theorem dX9_text_85 : decode cX9_text 85 = .ok (.imul, 1) := by decide +kernel
theorem dX9_text_86 : decode cX9_text 86 = .ok (.iadd, 1) := by decide +kernel
theorem dX9_text_87 : decode cX9_text 87 = .ok (.istore_n 3, 1) := by decide +kernel
theorem dX9_text_88 : decode cX9_text 88 = .ok (.aload_n 0, 1) := by decide +kernel
theorem dX9_text_89 : decode cX9_text 89 = .ok (.getfield 7, 3) := by decide +kernel
theorem dX9_text_92 : decode cX9_text 92 = .ok (.iload_n 3, 1) := by decide +kernel
theorem dX9_text_93 : decode cX9_text 93 = .ok (.aload_n 0, 1) := by decide +kernel
theorem dX9_text_94 : decode cX9_text 94 = .ok (.getfield 74, 3) := by decide +kernel
theorem dX9_text_97 : decode cX9_text 97 = .ok (.iastore, 1) := by decide +kernel
theorem dX9_text_98 : decode cX9_text 98 = .ok (.iconst 0, 1) := by decide +kernel
theorem dX9_text_99 : decode cX9_text 99 = .ok (.istore 4, 2) := by decide +kernel
theorem dX9_text_101 : decode cX9_text 101 = .ok (.iload 4, 2) := by decide +kernel
theorem dX9_text_103 : decode cX9_text 103 = .ok (.iconst 2, 1) := by decide +kernel
theorem dX9_text_104 : decode cX9_text 104 = .ok (.aload_n 0, 1) := by decide +kernel
theorem dX9_text_105 : decode cX9_text 105 = .ok (.getfield 74, 3) := by decide +kernel
theorem dX9_text_108 : decode cX9_text 108 = .ok (.imul, 1) := by decide +kernel
theorem dX9_text_109 : decode cX9_text 109 = .ok (.if_icmp .ge 27, 3) := by decide +kernel
theorem dX9_text_112 : decode cX9_text 112 = .ok (.aload_n 0, 1) := by decide +kernel
theorem dX9_text_113 : decode cX9_text 113 = .ok (.getfield 7, 3) := by decide +kernel
theorem dX9_text_116 : decode cX9_text 116 = .ok (.iload_n 3, 1) := by decide +kernel
theorem dX9_text_117 : decode cX9_text 117 = .ok (.iconst 1, 1) := by decide +kernel
theorem dX9_text_118 : decode cX9_text 118 = .ok (.iadd, 1) := by decide +kernel
theorem dX9_text_119 : decode cX9_text 119 = .ok (.iload 4, 2) := by decide +kernel
theorem dX9_text_121 : decode cX9_text 121 = .ok (.iadd, 1) := by decide +kernel
theorem dX9_text_122 : decode cX9_text 122 = .ok (.aload_n 0, 1) := by decide +kernel
theorem dX9_text_123 : decode cX9_text 123 = .ok (.getfield 22, 3) := by decide +kernel
theorem dX9_text_126 : decode cX9_text 126 = .ok (.iload 4, 2) := by decide +kernel
theorem dX9_text_128 : decode cX9_text 128 = .ok (.iaload, 1) := by decide +kernel
theorem dX9_text_129 : decode cX9_text 129 = .ok (.iastore, 1) := by decide +kernel
theorem dX9_text_130 : decode cX9_text 130 = .ok (.iinc 4 1, 3) := by decide +kernel
theorem dX9_text_133 : decode cX9_text 133 = .ok (.goto (-32), 3) := by decide +kernel
theorem dX9_text_136 : decode cX9_text 136 = .ok (.iconst 1, 1) := by decide +kernel
theorem dX9_text_137 : decode cX9_text 137 = .ok (.ireturn, 1) := by decide +kernel
set_option maxRecDepth 20000 in
theorem ggX9_untell_X9_in : GoodIn wsX9_untell wsX9_in := goodIn_r _ [5] (by decide +kernel) (by decide +kernel)
set_option maxRecDepth 20000 in
theorem gX9_untell_X9_in : GoodIn wsX9_untell (va_wsS RX9 57 yX9_in wsX9_in) := goodIn_app (goodIn_of _ (by decide +kernel)) ggX9_untell_X9_in
set_option maxRecDepth 20000 in
theorem ggX9_untell_X9_error : GoodIn wsX9_untell wsX9_error := goodIn_r _ [9, 10, 11, 16, 17, 18, 19, 20, 21, 22, 23, 24, 25, 26, 27, 28, 29, 30, 31, 32, 33, 34, 35, 36, 37, 38, 39, 40] (by decide +kernel) (by decide +kernel)
set_option maxRecDepth 20000 in
theorem gX9_untell_X9_error : GoodIn wsX9_untell (wsV RX9 61 RX9 yX9_error wsX9_error) := goodIn_app (goodIn_of _ (by decide +kernel)) ggX9_untell_X9_error
set_option maxRecDepth 20000 in
theorem ggX9_untell_X9_hasText : GoodIn wsX9_untell wsX9_hasText := goodIn_r _ [15, 1, 16, 17, 18, 19, 20, 21, 22, 23, 24, 25, 26, 27, 28, 29, 30, 31, 32, 33, 34, 35, 36, 37, 38, 39, 40] (by decide +kernel) (by decide +kernel)
set_option maxRecDepth 20000 in
theorem gX9_untell_X9_hasText : GoodIn wsX9_untell (wsV RX9 114 RX9 yX9_hasText wsX9_hasText) := goodIn_app (goodIn_of _ (by decide +kernel)) ggX9_untell_X9_hasText
theorem dX9_untell_0 : decode cX9_untell 0 = .ok (.iload_n 1, 1) := by decide +kernel
theorem dX9_untell_1 : decode cX9_untell 1 = .ok (.iconst 0, 1) := by decide +kernel
theorem dX9_untell_2 : decode cX9_untell 2 = .ok (.iconst 1, 1) := by decide +kernel
theorem dX9_untell_3 : decode cX9_untell 3 = .ok (.invokestatic 57, 3) := by decide +kernel
theorem dX9_untell_6 : decode cX9_untell 6 = .ok (.ifCond .ne 9, 3) := by decide +kernel
theorem dX9_untell_9 : decode cX9_untell 9 = .ok (.aload_n 0, 1) := by decide +kernel
theorem dX9_untell_10 : decode cX9_untell 10 = .ok (.iconst 1, 1) := by decide +kernel
theorem dX9_untell_11 : decode cX9_untell 11 = .ok (.invokevirtual 61, 3) := by decide +kernel
theorem dX9_untell_14 : decode cX9_untell 14 = .ok (.ireturn, 1) := by decide +kernel
theorem dX9_untell_15 : decode cX9_untell 15 = .ok (.aload_n 0, 1) := by decide +kernel
theorem dX9_untell_16 : decode cX9_untell 16 = .ok (.iload_n 1, 1) := by decide +kernel
theorem dX9_untell_17 : decode cX9_untell 17 = .ok (.invokevirtual 114, 3) := by decide +kernel
theorem dX9_untell_20 : decode cX9_untell 20 = .ok (.ifCond .eq 7, 3) := by decide +kernel
theorem dX9_untell_23 : decode cX9_untell 23 = .ok (.iconst 1, 1) := by decide +kernel
theorem dX9_untell_24 : decode cX9_untell 24 = .ok (.goto 4, 3) := by decide +kernel
theorem dX9_untell_27 : decode cX9_untell 27 = .ok (.iconst 0, 1) := by decide +kernel
theorem dX9_untell_28 : decode cX9_untell 28 = .ok (.istore_n 2, 1) := by decide +kernel
theorem dX9_untell_29 : decode cX9_untell 29 = .ok (.aload_n 0, 1) := by decide +kernel
theorem dX9_untell_30 : decode cX9_untell 30 = .ok (.getfield 7, 3) := by decide +kernel
theorem dX9_untell_33 : decode cX9_untell 33 = .ok (.bipush 32, 2) := by decide +kernel
theorem dX9_untell_35 : decode cX9_untell 35 = .ok (.bipush 125, 2) := by decide +kernel
theorem dX9_untell_37 : decode cX9_untell 37 = .ok (.iload_n 1, 1) := by decide +kernel
theorem dX9_untell_38 : decode cX9_untell 38 = .ok (.imul, 1) := by decide +kernel
theorem dX9_untell_39 : decode cX9_untell 39 = .ok (.iadd, 1) := by decide +kernel
theorem dX9_untell_40 : decode cX9_untell 40 = .ok (.iconst 0, 1) := by decide +kernel
theorem dX9_untell_41 : decode cX9_untell 41 = .ok (.iastore, 1) := by decide +kernel
theorem dX9_untell_42 : decode cX9_untell 42 = .ok (.iload_n 2, 1) := by decide +kernel
theorem dX9_untell_43 : decode cX9_untell 43 = .ok (.ireturn, 1) := by decide +kernel
theorem dX9_joined_0 : decode cX9_joined 0 = .ok (.iload_n 0, 1) := by decide +kernel
theorem dX9_joined_1 : decode cX9_joined 1 = .ok (.tableswitch 217 37 62 #[153, 203, 217, 217, 217, 127, 119, 217, 123, 217, 131, 217, 217, 217, 217, 217, 217, 217, 217, 217, 217, 217, 217, 170, 192, 181], 119) := by decide +kernel
theorem dX9_joined_120 : decode cX9_joined 120 = .ok (.iload_n 1, 1) := by decide +kernel
theorem dX9_joined_121 : decode cX9_joined 121 = .ok (.iload_n 2, 1) := by decide +kernel
theorem dX9_joined_122 : decode cX9_joined 122 = .ok (.iadd, 1) := by decide +kernel
theorem dX9_joined_123 : decode cX9_joined 123 = .ok (.ireturn, 1) := by decide +kernel
theorem dX9_joined_124 : decode cX9_joined 124 = .ok (.iload_n 1, 1) := by decide +kernel
theorem dX9_joined_125 : decode cX9_joined 125 = .ok (.iload_n 2, 1) := by decide +kernel
theorem dX9_joined_126 : decode cX9_joined 126 = .ok (.isub, 1) := by decide +kernel
theorem dX9_joined_127 : decode cX9_joined 127 = .ok (.ireturn, 1) := by decide +kernel
theorem dX9_joined_128 : decode cX9_joined 128 = .ok (.iload_n 1, 1) := by decide +kernel
theorem dX9_joined_129 : decode cX9_joined 129 = .ok (.iload_n 2, 1) := by decide +kernel
theorem dX9_joined_130 : decode cX9_joined 130 = .ok (.imul, 1) := by decide +kernel
theorem dX9_joined_131 : decode cX9_joined 131 = .ok (.ireturn, 1) := by decide +kernel
theorem dX9_joined_132 : decode cX9_joined 132 = .ok (.iload_n 2, 1) := by decide +kernel
theorem dX9_joined_133 : decode cX9_joined 133 = .ok (.ifCond .ne 7, 3) := by decide +kernel
theorem dX9_joined_136 : decode cX9_joined 136 = .ok (.iconst 0, 1) := by decide +kernel
theorem dX9_joined_137 : decode cX9_joined 137 = .ok (.goto 16, 3) := by decide +kernel
theorem dX9_joined_140 : decode cX9_joined 140 = .ok (.iload_n 2, 1) := by decide +kernel
theorem dX9_joined_141 : decode cX9_joined 141 = .ok (.iconst (-1), 1) := by decide +kernel
theorem dX9_joined_142 : decode cX9_joined 142 = .ok (.if_icmp .ne 8, 3) := by decide +kernel
theorem dX9_joined_145 : decode cX9_joined 145 = .ok (.iload_n 1, 1) := by decide +kernel
theorem dX9_joined_146 : decode cX9_joined 146 = .ok (.ineg, 1) := by decide +kernel
theorem dX9_joined_147 : decode cX9_joined 147 = .ok (.goto 6, 3) := by decide +kernel
theorem dX9_joined_150 : decode cX9_joined 150 = .ok (.iload_n 1, 1) := by decide +kernel
theorem dX9_joined_151 : decode cX9_joined 151 = .ok (.iload_n 2, 1) := by decide +kernel
theorem dX9_joined_152 : decode cX9_joined 152 = .ok (.idiv, 1) := by decide +kernel
theorem dX9_joined_153 : decode cX9_joined 153 = .ok (.ireturn, 1) := by decide +kernel
theorem dX9_joined_154 : decode cX9_joined 154 = .ok (.iload_n 2, 1) := by decide +kernel
theorem dX9_joined_155 : decode cX9_joined 155 = .ok (.ifCond .eq 8, 3) := by decide +kernel
theorem dX9_joined_158 : decode cX9_joined 158 = .ok (.iload_n 2, 1) := by decide +kernel
theorem dX9_joined_159 : decode cX9_joined 159 = .ok (.iconst (-1), 1) := by decide +kernel
theorem dX9_joined_160 : decode cX9_joined 160 = .ok (.if_icmp .ne 7, 3) := by decide +kernel
theorem dX9_joined_163 : decode cX9_joined 163 = .ok (.iconst 0, 1) := by decide +kernel
theorem dX9_joined_164 : decode cX9_joined 164 = .ok (.goto 6, 3) := by decide +kernel
theorem dX9_joined_167 : decode cX9_joined 167 = .ok (.iload_n 1, 1) := by decide +kernel
theorem dX9_joined_168 : decode cX9_joined 168 = .ok (.iload_n 2, 1) := by decide +kernel
theorem dX9_joined_169 : decode cX9_joined 169 = .ok (.irem, 1) := by decide +kernel
theorem dX9_joined_170 : decode cX9_joined 170 = .ok (.ireturn, 1) := by decide +kernel
theorem dX9_joined_171 : decode cX9_joined 171 = .ok (.iload_n 1, 1) := by decide +kernel
theorem dX9_joined_172 : decode cX9_joined 172 = .ok (.iload_n 2, 1) := by decide +kernel
theorem dX9_joined_173 : decode cX9_joined 173 = .ok (.if_icmp .ge 7, 3) := by decide +kernel
theorem dX9_joined_176 : decode cX9_joined 176 = .ok (.iconst 1, 1) := by decide +kernel
theorem dX9_joined_177 : decode cX9_joined 177 = .ok (.goto 4, 3) := by decide +kernel
theorem dX9_joined_180 : decode cX9_joined 180 = .ok (.iconst 0, 1) := by decide +kernel
theorem dX9_joined_181 : decode cX9_joined 181 = .ok (.ireturn, 1) := by decide +kernel
theorem dX9_joined_182 : decode cX9_joined 182 = .ok (.iload_n 1, 1) := by decide +kernel
theorem dX9_joined_183 : decode cX9_joined 183 = .ok (.iload_n 2, 1) := by decide +kernel
theorem dX9_joined_184 : decode cX9_joined 184 = .ok (.if_icmp .le 7, 3) := by decide +kernel
theorem dX9_joined_187 : decode cX9_joined 187 = .ok (.iconst 1, 1) := by decide +kernel
theorem dX9_joined_188 : decode cX9_joined 188 = .ok (.goto 4, 3) := by decide +kernel
theorem dX9_joined_191 : decode cX9_joined 191 = .ok (.iconst 0, 1) := by decide +kernel
theorem dX9_joined_192 : decode cX9_joined 192 = .ok (.ireturn, 1) := by decide +kernel
theorem dX9_joined_193 : decode cX9_joined 193 = .ok (.iload_n 1, 1) := by decide +kernel
theorem dX9_joined_194 : decode cX9_joined 194 = .ok (.iload_n 2, 1) := by decide +kernel
theorem dX9_joined_195 : decode cX9_joined 195 = .ok (.if_icmp .ne 7, 3) := by decide +kernel
theorem dX9_joined_198 : decode cX9_joined 198 = .ok (.iconst 1, 1) := by decide +kernel
theorem dX9_joined_199 : decode cX9_joined 199 = .ok (.goto 4, 3) := by decide +kernel
theorem dX9_joined_202 : decode cX9_joined 202 = .ok (.iconst 0, 1) := by decide +kernel
theorem dX9_joined_203 : decode cX9_joined 203 = .ok (.ireturn, 1) := by decide +kernel
theorem dX9_joined_204 : decode cX9_joined 204 = .ok (.iload_n 1, 1) := by decide +kernel
theorem dX9_joined_205 : decode cX9_joined 205 = .ok (.ifCond .eq 11, 3) := by decide +kernel
theorem dX9_joined_208 : decode cX9_joined 208 = .ok (.iload_n 2, 1) := by decide +kernel
theorem dX9_joined_209 : decode cX9_joined 209 = .ok (.ifCond .eq 7, 3) := by decide +kernel
theorem dX9_joined_212 : decode cX9_joined 212 = .ok (.iconst 1, 1) := by decide +kernel
theorem dX9_joined_213 : decode cX9_joined 213 = .ok (.goto 4, 3) := by decide +kernel
theorem dX9_joined_216 : decode cX9_joined 216 = .ok (.iconst 0, 1) := by decide +kernel
theorem dX9_joined_217 : decode cX9_joined 217 = .ok (.ireturn, 1) := by decide +kernel
theorem dX9_joined_218 : decode cX9_joined 218 = .ok (.iload_n 1, 1) := by decide +kernel
theorem dX9_joined_219 : decode cX9_joined 219 = .ok (.ifCond .ne 7, 3) := by decide +kernel
theorem dX9_joined_222 : decode cX9_joined 222 = .ok (.iload_n 2, 1) := by decide +kernel
theorem dX9_joined_223 : decode cX9_joined 223 = .ok (.ifCond .eq 7, 3) := by decide +kernel
theorem dX9_joined_226 : decode cX9_joined 226 = .ok (.iconst 1, 1) := by decide +kernel
theorem dX9_joined_227 : decode cX9_joined 227 = .ok (.goto 4, 3) := by decide +kernel
theorem dX9_joined_230 : decode cX9_joined 230 = .ok (.iconst 0, 1) := by decide +kernel
theorem dX9_joined_231 : decode cX9_joined 231 = .ok (.ireturn, 1) := by decide +kernel
set_option maxRecDepth 20000 in
theorem ggX9_worked_X9_joined : GoodIn wsX9_worked wsX9_joined := goodIn_r _ [7] (by decide +kernel) (by decide +kernel)
set_option maxRecDepth 20000 in
theorem gX9_worked_X9_joined : GoodIn wsX9_worked (va_wsS RX9 117 yX9_joined wsX9_joined) := goodIn_app (goodIn_of _ (by decide +kernel)) ggX9_worked_X9_joined
theorem dX9_worked_0 : decode cX9_worked 0 = .ok (.bipush 32, 2) := by decide +kernel
theorem dX9_worked_2 : decode cX9_worked 2 = .ok (.bipush 125, 2) := by decide +kernel
theorem dX9_worked_4 : decode cX9_worked 4 = .ok (.iload_n 1, 1) := by decide +kernel
theorem dX9_worked_5 : decode cX9_worked 5 = .ok (.imul, 1) := by decide +kernel
theorem dX9_worked_6 : decode cX9_worked 6 = .ok (.iadd, 1) := by decide +kernel
theorem dX9_worked_7 : decode cX9_worked 7 = .ok (.istore_n 2, 1) := by decide +kernel
theorem dX9_worked_8 : decode cX9_worked 8 = .ok (.iconst 0, 1) := by decide +kernel
theorem dX9_worked_9 : decode cX9_worked 9 = .ok (.istore_n 3, 1) := by decide +kernel
theorem dX9_worked_10 : decode cX9_worked 10 = .ok (.iconst 0, 1) := by decide +kernel
theorem dX9_worked_11 : decode cX9_worked 11 = .ok (.istore 4, 2) := by decide +kernel
theorem dX9_worked_13 : decode cX9_worked 13 = .ok (.iload 4, 2) := by decide +kernel
theorem dX9_worked_15 : decode cX9_worked 15 = .ok (.aload_n 0, 1) := by decide +kernel
theorem dX9_worked_16 : decode cX9_worked 16 = .ok (.getfield 7, 3) := by decide +kernel
theorem dX9_worked_19 : decode cX9_worked 19 = .ok (.iload_n 2, 1) := by decide +kernel
theorem dX9_worked_20 : decode cX9_worked 20 = .ok (.iaload, 1) := by decide +kernel
theorem dX9_worked_21 : decode cX9_worked 21 = .ok (.if_icmp .ge 142, 3) := by decide +kernel
theorem dX9_worked_24 : decode cX9_worked 24 = .ok (.aload_n 0, 1) := by decide +kernel
theorem dX9_worked_25 : decode cX9_worked 25 = .ok (.getfield 7, 3) := by decide +kernel
theorem dX9_worked_28 : decode cX9_worked 28 = .ok (.iload_n 2, 1) := by decide +kernel
theorem dX9_worked_29 : decode cX9_worked 29 = .ok (.iconst 1, 1) := by decide +kernel
theorem dX9_worked_30 : decode cX9_worked 30 = .ok (.iadd, 1) := by decide +kernel
theorem dX9_worked_31 : decode cX9_worked 31 = .ok (.iconst 2, 1) := by decide +kernel
theorem dX9_worked_32 : decode cX9_worked 32 = .ok (.iload 4, 2) := by decide +kernel
theorem dX9_worked_34 : decode cX9_worked 34 = .ok (.imul, 1) := by decide +kernel
theorem dX9_worked_35 : decode cX9_worked 35 = .ok (.iadd, 1) := by decide +kernel
theorem dX9_worked_36 : decode cX9_worked 36 = .ok (.iaload, 1) := by decide +kernel
theorem dX9_worked_37 : decode cX9_worked 37 = .ok (.istore 5, 2) := by decide +kernel
theorem dX9_worked_39 : decode cX9_worked 39 = .ok (.aload_n 0, 1) := by decide +kernel
theorem dX9_worked_40 : decode cX9_worked 40 = .ok (.getfield 7, 3) := by decide +kernel
theorem dX9_worked_43 : decode cX9_worked 43 = .ok (.iload_n 2, 1) := by decide +kernel
theorem dX9_worked_44 : decode cX9_worked 44 = .ok (.iconst 2, 1) := by decide +kernel
theorem dX9_worked_45 : decode cX9_worked 45 = .ok (.iadd, 1) := by decide +kernel
theorem dX9_worked_46 : decode cX9_worked 46 = .ok (.iconst 2, 1) := by decide +kernel
theorem dX9_worked_47 : decode cX9_worked 47 = .ok (.iload 4, 2) := by decide +kernel
theorem dX9_worked_49 : decode cX9_worked 49 = .ok (.imul, 1) := by decide +kernel
theorem dX9_worked_50 : decode cX9_worked 50 = .ok (.iadd, 1) := by decide +kernel
theorem dX9_worked_51 : decode cX9_worked 51 = .ok (.iaload, 1) := by decide +kernel
theorem dX9_worked_52 : decode cX9_worked 52 = .ok (.istore 6, 2) := by decide +kernel
theorem dX9_worked_54 : decode cX9_worked 54 = .ok (.iload 5, 2) := by decide +kernel
theorem dX9_worked_56 : decode cX9_worked 56 = .ok (.ifCond .eq 9, 3) := by decide +kernel
theorem dX9_worked_59 : decode cX9_worked 59 = .ok (.iload 5, 2) := by decide +kernel
theorem dX9_worked_61 : decode cX9_worked 61 = .ok (.iconst 1, 1) := by decide +kernel
theorem dX9_worked_62 : decode cX9_worked 62 = .ok (.if_icmp .ne 32, 3) := by decide +kernel
theorem dX9_worked_65 : decode cX9_worked 65 = .ok (.aload_n 0, 1) := by decide +kernel
theorem dX9_worked_66 : decode cX9_worked 66 = .ok (.getfield 28, 3) := by decide +kernel
theorem dX9_worked_69 : decode cX9_worked 69 = .ok (.iload_n 3, 1) := by decide +kernel
theorem dX9_worked_70 : decode cX9_worked 70 = .ok (.iload 5, 2) := by decide +kernel
theorem dX9_worked_72 : decode cX9_worked 72 = .ok (.ifCond .ne 8, 3) := by decide +kernel
theorem dX9_worked_75 : decode cX9_worked 75 = .ok (.iload 6, 2) := by decide +kernel
theorem dX9_worked_77 : decode cX9_worked 77 = .ok (.goto 10, 3) := by decide +kernel
theorem dX9_worked_80 : decode cX9_worked 80 = .ok (.aload_n 0, 1) := by decide +kernel
theorem dX9_worked_81 : decode cX9_worked 81 = .ok (.getfield 25, 3) := by decide +kernel
theorem dX9_worked_84 : decode cX9_worked 84 = .ok (.iload 6, 2) := by decide +kernel
theorem dX9_worked_86 : decode cX9_worked 86 = .ok (.iaload, 1) := by decide +kernel
theorem dX9_worked_87 : decode cX9_worked 87 = .ok (.iastore, 1) := by decide +kernel
theorem dX9_worked_88 : decode cX9_worked 88 = .ok (.iinc 3 1, 3) := by decide +kernel
theorem dX9_worked_91 : decode cX9_worked 91 = .ok (.goto 66, 3) := by decide +kernel
theorem dX9_worked_94 : decode cX9_worked 94 = .ok (.iload 5, 2) := by decide +kernel
theorem dX9_worked_96 : decode cX9_worked 96 = .ok (.iconst 2, 1) := by decide +kernel
theorem dX9_worked_97 : decode cX9_worked 97 = .ok (.if_icmp .ne 30, 3) := by decide +kernel
theorem dX9_worked_100 : decode cX9_worked 100 = .ok (.aload_n 0, 1) := by decide +kernel
theorem dX9_worked_101 : decode cX9_worked 101 = .ok (.getfield 28, 3) := by decide +kernel
theorem dX9_worked_104 : decode cX9_worked 104 = .ok (.iload_n 3, 1) := by decide +kernel
theorem dX9_worked_105 : decode cX9_worked 105 = .ok (.iconst 1, 1) := by decide +kernel
theorem dX9_worked_106 : decode cX9_worked 106 = .ok (.isub, 1) := by decide +kernel
theorem dX9_worked_107 : decode cX9_worked 107 = .ok (.aload_n 0, 1) := by decide +kernel
theorem dX9_worked_108 : decode cX9_worked 108 = .ok (.getfield 28, 3) := by decide +kernel
theorem dX9_worked_111 : decode cX9_worked 111 = .ok (.iload_n 3, 1) := by decide +kernel
theorem dX9_worked_112 : decode cX9_worked 112 = .ok (.iconst 1, 1) := by decide +kernel
theorem dX9_worked_113 : decode cX9_worked 113 = .ok (.isub, 1) := by decide +kernel
theorem dX9_worked_114 : decode cX9_worked 114 = .ok (.iaload, 1) := by decide +kernel
theorem dX9_worked_115 : decode cX9_worked 115 = .ok (.ifCond .ne 7, 3) := by decide +kernel
theorem dX9_worked_118 : decode cX9_worked 118 = .ok (.iconst 1, 1) := by decide +kernel
theorem dX9_worked_119 : decode cX9_worked 119 = .ok (.goto 4, 3) := by decide +kernel
theorem dX9_worked_122 : decode cX9_worked 122 = .ok (.iconst 0, 1) := by decide +kernel
theorem dX9_worked_123 : decode cX9_worked 123 = .ok (.iastore, 1) := by decide +kernel
theorem dX9_worked_124 : decode cX9_worked 124 = .ok (.goto 33, 3) := by decide +kernel
theorem dX9_worked_127 : decode cX9_worked 127 = .ok (.iinc 3 (-1), 3) := by decide +kernel
theorem dX9_worked_130 : decode cX9_worked 130 = .ok (.aload_n 0, 1) := by decide +kernel
theorem dX9_worked_131 : decode cX9_worked 131 = .ok (.getfield 28, 3) := by decide +kernel
theorem dX9_worked_134 : decode cX9_worked 134 = .ok (.iload_n 3, 1) := by decide +kernel
theorem dX9_worked_135 : decode cX9_worked 135 = .ok (.iconst 1, 1) := by decide +kernel
theorem dX9_worked_136 : decode cX9_worked 136 = .ok (.isub, 1) := by decide +kernel
theorem dX9_worked_137 : decode cX9_worked 137 = .ok (.iload 6, 2) := by decide +kernel
theorem dX9_worked_139 : decode cX9_worked 139 = .ok (.aload_n 0, 1) := by decide +kernel
theorem dX9_worked_140 : decode cX9_worked 140 = .ok (.getfield 28, 3) := by decide +kernel
theorem dX9_worked_143 : decode cX9_worked 143 = .ok (.iload_n 3, 1) := by decide +kernel
theorem dX9_worked_144 : decode cX9_worked 144 = .ok (.iconst 1, 1) := by decide +kernel
theorem dX9_worked_145 : decode cX9_worked 145 = .ok (.isub, 1) := by decide +kernel
theorem dX9_worked_146 : decode cX9_worked 146 = .ok (.iaload, 1) := by decide +kernel
theorem dX9_worked_147 : decode cX9_worked 147 = .ok (.aload_n 0, 1) := by decide +kernel
theorem dX9_worked_148 : decode cX9_worked 148 = .ok (.getfield 28, 3) := by decide +kernel
theorem dX9_worked_151 : decode cX9_worked 151 = .ok (.iload_n 3, 1) := by decide +kernel
theorem dX9_worked_152 : decode cX9_worked 152 = .ok (.iaload, 1) := by decide +kernel
theorem dX9_worked_153 : decode cX9_worked 153 = .ok (.invokestatic 117, 3) := by decide +kernel
theorem dX9_worked_156 : decode cX9_worked 156 = .ok (.iastore, 1) := by decide +kernel
theorem dX9_worked_157 : decode cX9_worked 157 = .ok (.iinc 4 1, 3) := by decide +kernel
theorem dX9_worked_160 : decode cX9_worked 160 = .ok (.goto (-147), 3) := by decide +kernel
theorem dX9_worked_163 : decode cX9_worked 163 = .ok (.aload_n 0, 1) := by decide +kernel
theorem dX9_worked_164 : decode cX9_worked 164 = .ok (.getfield 28, 3) := by decide +kernel
theorem dX9_worked_167 : decode cX9_worked 167 = .ok (.iconst 0, 1) := by decide +kernel
theorem dX9_worked_168 : decode cX9_worked 168 = .ok (.iaload, 1) := by decide +kernel
theorem dX9_worked_169 : decode cX9_worked 169 = .ok (.ireturn, 1) := by decide +kernel
theorem dX9_ones_0 : decode cX9_ones 0 = .ok (.iconst 0, 1) := by decide +kernel
theorem dX9_ones_1 : decode cX9_ones 1 = .ok (.istore_n 1, 1) := by decide +kernel
theorem dX9_ones_2 : decode cX9_ones 2 = .ok (.iload_n 0, 1) := by decide +kernel
theorem dX9_ones_3 : decode cX9_ones 3 = .ok (.istore_n 2, 1) := by decide +kernel
theorem dX9_ones_4 : decode cX9_ones 4 = .ok (.iload_n 2, 1) := by decide +kernel
theorem dX9_ones_5 : decode cX9_ones 5 = .ok (.ifCond .eq 15, 3) := by decide +kernel
theorem dX9_ones_8 : decode cX9_ones 8 = .ok (.iinc 1 1, 3) := by decide +kernel
theorem dX9_ones_11 : decode cX9_ones 11 = .ok (.iload_n 2, 1) := by decide +kernel
theorem dX9_ones_12 : decode cX9_ones 12 = .ok (.iload_n 2, 1) := by decide +kernel
theorem dX9_ones_13 : decode cX9_ones 13 = .ok (.iconst 1, 1) := by decide +kernel
theorem dX9_ones_14 : decode cX9_ones 14 = .ok (.isub, 1) := by decide +kernel
theorem dX9_ones_15 : decode cX9_ones 15 = .ok (.iand, 1) := by decide +kernel
theorem dX9_ones_16 : decode cX9_ones 16 = .ok (.istore_n 2, 1) := by decide +kernel
theorem dX9_ones_17 : decode cX9_ones 17 = .ok (.goto (-13), 3) := by decide +kernel
theorem dX9_ones_20 : decode cX9_ones 20 = .ok (.iload_n 1, 1) := by decide +kernel
theorem dX9_ones_21 : decode cX9_ones 21 = .ok (.ireturn, 1) := by decide +kernel
set_option maxRecDepth 20000 in
theorem ggX9_turnBy_X9_hasText : GoodIn wsX9_turnBy wsX9_hasText := goodIn_r _ [6, 7, 19, 20, 21, 22, 23, 24, 25, 26, 27, 28, 29, 30, 31, 32, 33, 34, 35, 36, 37, 38, 39, 40, 41, 42, 43] (by decide +kernel) (by decide +kernel)
set_option maxRecDepth 20000 in
theorem gX9_turnBy_X9_hasText : GoodIn wsX9_turnBy (wsV RX9 114 RX9 yX9_hasText wsX9_hasText) := goodIn_app (goodIn_of _ (by decide +kernel)) ggX9_turnBy_X9_hasText
set_option maxRecDepth 20000 in
theorem ggX9_turnBy_X9_worked : GoodIn wsX9_turnBy wsX9_worked := goodIn_r _ [11, 7, 12, 1, 13, 14, 5, 15, 19, 20, 21, 22, 23, 24, 25, 26, 27, 28, 29, 30, 31, 32, 33, 34, 35, 36, 37, 38, 39, 40, 41, 42, 43] (by decide +kernel) (by decide +kernel)
set_option maxRecDepth 20000 in
theorem gX9_turnBy_X9_worked : GoodIn wsX9_turnBy (wsV RX9 121 RX9 yX9_worked wsX9_worked) := goodIn_app (goodIn_of _ (by decide +kernel)) ggX9_turnBy_X9_worked
set_option maxRecDepth 20000 in
theorem ggX9_turnBy_X9_held : GoodIn wsX9_turnBy wsX9_held := goodIn_r _ [18] (by decide +kernel) (by decide +kernel)
set_option maxRecDepth 20000 in
theorem gX9_turnBy_X9_held : GoodIn wsX9_turnBy (va_wsS RX9 124 yX9_held wsX9_held) := goodIn_app (goodIn_of _ (by decide +kernel)) ggX9_turnBy_X9_held
theorem dX9_turnBy_0 : decode cX9_turnBy 0 = .ok (.aload_n 0, 1) := by decide +kernel
theorem dX9_turnBy_1 : decode cX9_turnBy 1 = .ok (.getfield 25, 3) := by decide +kernel
theorem dX9_turnBy_4 : decode cX9_turnBy 4 = .ok (.bipush 98, 2) := by decide +kernel
theorem dX9_turnBy_6 : decode cX9_turnBy 6 = .ok (.iload_n 1, 1) := by decide +kernel
theorem dX9_turnBy_7 : decode cX9_turnBy 7 = .ok (.iastore, 1) := by decide +kernel
theorem dX9_turnBy_8 : decode cX9_turnBy 8 = .ok (.aload_n 0, 1) := by decide +kernel
theorem dX9_turnBy_9 : decode cX9_turnBy 9 = .ok (.getfield 25, 3) := by decide +kernel
theorem dX9_turnBy_12 : decode cX9_turnBy 12 = .ok (.bipush 101, 2) := by decide +kernel
theorem dX9_turnBy_14 : decode cX9_turnBy 14 = .ok (.iload_n 2, 1) := by decide +kernel
theorem dX9_turnBy_15 : decode cX9_turnBy 15 = .ok (.bipush 16, 2) := by decide +kernel
theorem dX9_turnBy_17 : decode cX9_turnBy 17 = .ok (.irem, 1) := by decide +kernel
theorem dX9_turnBy_18 : decode cX9_turnBy 18 = .ok (.iastore, 1) := by decide +kernel
theorem dX9_turnBy_19 : decode cX9_turnBy 19 = .ok (.aload_n 0, 1) := by decide +kernel
theorem dX9_turnBy_20 : decode cX9_turnBy 20 = .ok (.getfield 25, 3) := by decide +kernel
theorem dX9_turnBy_23 : decode cX9_turnBy 23 = .ok (.bipush 121, 2) := by decide +kernel
theorem dX9_turnBy_25 : decode cX9_turnBy 25 = .ok (.iload_n 3, 1) := by decide +kernel
theorem dX9_turnBy_26 : decode cX9_turnBy 26 = .ok (.bipush 8, 2) := by decide +kernel
theorem dX9_turnBy_28 : decode cX9_turnBy 28 = .ok (.irem, 1) := by decide +kernel
theorem dX9_turnBy_29 : decode cX9_turnBy 29 = .ok (.iastore, 1) := by decide +kernel
theorem dX9_turnBy_30 : decode cX9_turnBy 30 = .ok (.aload_n 0, 1) := by decide +kernel
theorem dX9_turnBy_31 : decode cX9_turnBy 31 = .ok (.iconst 0, 1) := by decide +kernel
theorem dX9_turnBy_32 : decode cX9_turnBy 32 = .ok (.invokevirtual 114, 3) := by decide +kernel
theorem dX9_turnBy_35 : decode cX9_turnBy 35 = .ok (.ifCond .eq 11, 3) := by decide +kernel
theorem dX9_turnBy_38 : decode cX9_turnBy 38 = .ok (.aload_n 0, 1) := by decide +kernel
theorem dX9_turnBy_39 : decode cX9_turnBy 39 = .ok (.iconst 0, 1) := by decide +kernel
theorem dX9_turnBy_40 : decode cX9_turnBy 40 = .ok (.invokevirtual 121, 3) := by decide +kernel
theorem dX9_turnBy_43 : decode cX9_turnBy 43 = .ok (.goto 4, 3) := by decide +kernel
theorem dX9_turnBy_46 : decode cX9_turnBy 46 = .ok (.iload_n 1, 1) := by decide +kernel
theorem dX9_turnBy_47 : decode cX9_turnBy 47 = .ok (.iconst 0, 1) := by decide +kernel
theorem dX9_turnBy_48 : decode cX9_turnBy 48 = .ok (.bipush 30, 2) := by decide +kernel
theorem dX9_turnBy_50 : decode cX9_turnBy 50 = .ok (.invokestatic 124, 3) := by decide +kernel
theorem dX9_turnBy_53 : decode cX9_turnBy 53 = .ok (.ireturn, 1) := by decide +kernel
set_option maxRecDepth 20000 in
theorem ggX9_signsOf_X9_ones : GoodIn wsX9_signsOf wsX9_ones := goodIn_r _ [4] (by decide +kernel) (by decide +kernel)
set_option maxRecDepth 20000 in
theorem gX9_signsOf_X9_ones : GoodIn wsX9_signsOf (va_wsS RX9 127 yX9_ones wsX9_ones) := goodIn_app (goodIn_of _ (by decide +kernel)) ggX9_signsOf_X9_ones
theorem dX9_signsOf_0 : decode cX9_signsOf 0 = .ok (.iload_n 2, 1) := by decide +kernel
theorem dX9_signsOf_1 : decode cX9_signsOf 1 = .ok (.iload_n 1, 1) := by decide +kernel
theorem dX9_signsOf_2 : decode cX9_signsOf 2 = .ok (.ifCond .ne 7, 3) := by decide +kernel
theorem dX9_signsOf_5 : decode cX9_signsOf 5 = .ok (.iload_n 3, 1) := by decide +kernel
theorem dX9_signsOf_6 : decode cX9_signsOf 6 = .ok (.goto 6, 3) := by decide +kernel
theorem dX9_signsOf_9 : decode cX9_signsOf 9 = .ok (.iload_n 3, 1) := by decide +kernel
theorem dX9_signsOf_10 : decode cX9_signsOf 10 = .ok (.iconst (-1), 1) := by decide +kernel
theorem dX9_signsOf_11 : decode cX9_signsOf 11 = .ok (.ixor, 1) := by decide +kernel
theorem dX9_signsOf_12 : decode cX9_signsOf 12 = .ok (.iand, 1) := by decide +kernel
theorem dX9_signsOf_13 : decode cX9_signsOf 13 = .ok (.invokestatic 127, 3) := by decide +kernel
theorem dX9_signsOf_16 : decode cX9_signsOf 16 = .ok (.ireturn, 1) := by decide +kernel
set_option maxRecDepth 20000 in
theorem ggX9_turnOf_X9_signsOf : GoodIn wsX9_turnOf wsX9_signsOf := goodIn_r _ [6, 7, 8, 5, 9] (by decide +kernel) (by decide +kernel)
set_option maxRecDepth 20000 in
theorem gX9_turnOf_X9_signsOf : GoodIn wsX9_turnOf (wsV RX9 130 RX9 yX9_signsOf wsX9_signsOf) := goodIn_app (goodIn_of _ (by decide +kernel)) ggX9_turnOf_X9_signsOf
set_option maxRecDepth 20000 in
theorem ggX9_turnOf_X9_turnBy : GoodIn wsX9_turnOf wsX9_turnBy := goodIn_r _ [13, 14, 15, 16, 17, 5, 18, 1, 19, 20, 21, 22, 23, 24, 25, 26, 27, 28, 29, 30, 31, 32, 33, 34, 35, 36, 37, 38, 39, 40, 41, 42, 43, 44, 45, 46, 47, 48, 49, 50, 51, 52, 53, 54] (by decide +kernel) (by decide +kernel)
set_option maxRecDepth 20000 in
theorem gX9_turnOf_X9_turnBy : GoodIn wsX9_turnOf (wsV RX9 133 RX9 yX9_turnBy wsX9_turnBy) := goodIn_app (goodIn_of _ (by decide +kernel)) ggX9_turnOf_X9_turnBy
theorem dX9_turnOf_0 : decode cX9_turnOf 0 = .ok (.aload_n 0, 1) := by decide +kernel
theorem dX9_turnOf_1 : decode cX9_turnOf 1 = .ok (.aload_n 0, 1) := by decide +kernel
theorem dX9_turnOf_2 : decode cX9_turnOf 2 = .ok (.iload_n 1, 1) := by decide +kernel
theorem dX9_turnOf_3 : decode cX9_turnOf 3 = .ok (.iload_n 2, 1) := by decide +kernel
theorem dX9_turnOf_4 : decode cX9_turnOf 4 = .ok (.aload_n 0, 1) := by decide +kernel
theorem dX9_turnOf_5 : decode cX9_turnOf 5 = .ok (.getfield 7, 3) := by decide +kernel
theorem dX9_turnOf_8 : decode cX9_turnOf 8 = .ok (.iconst 1, 1) := by decide +kernel
theorem dX9_turnOf_9 : decode cX9_turnOf 9 = .ok (.iaload, 1) := by decide +kernel
theorem dX9_turnOf_10 : decode cX9_turnOf 10 = .ok (.invokevirtual 130, 3) := by decide +kernel
theorem dX9_turnOf_13 : decode cX9_turnOf 13 = .ok (.iload_n 2, 1) := by decide +kernel
theorem dX9_turnOf_14 : decode cX9_turnOf 14 = .ok (.aload_n 0, 1) := by decide +kernel
theorem dX9_turnOf_15 : decode cX9_turnOf 15 = .ok (.getfield 7, 3) := by decide +kernel
theorem dX9_turnOf_18 : decode cX9_turnOf 18 = .ok (.iconst 0, 1) := by decide +kernel
theorem dX9_turnOf_19 : decode cX9_turnOf 19 = .ok (.iaload, 1) := by decide +kernel
theorem dX9_turnOf_20 : decode cX9_turnOf 20 = .ok (.invokevirtual 133, 3) := by decide +kernel
theorem dX9_turnOf_23 : decode cX9_turnOf 23 = .ok (.ireturn, 1) := by decide +kernel
set_option maxRecDepth 20000 in
theorem ggX9_markBy_X9_hasText : GoodIn wsX9_markBy wsX9_hasText := goodIn_r _ [6, 7, 19, 20, 21, 22, 23, 24, 25, 26, 27, 28, 29, 30, 31, 32, 33, 34, 35, 36, 37, 38, 39, 40, 41, 42, 43] (by decide +kernel) (by decide +kernel)
set_option maxRecDepth 20000 in
theorem gX9_markBy_X9_hasText : GoodIn wsX9_markBy (wsV RX9 114 RX9 yX9_hasText wsX9_hasText) := goodIn_app (goodIn_of _ (by decide +kernel)) ggX9_markBy_X9_hasText
set_option maxRecDepth 20000 in
theorem ggX9_markBy_X9_worked : GoodIn wsX9_markBy wsX9_worked := goodIn_r _ [11, 7, 12, 1, 13, 14, 5, 15, 19, 20, 21, 22, 23, 24, 25, 26, 27, 28, 29, 30, 31, 32, 33, 34, 35, 36, 37, 38, 39, 40, 41, 42, 43] (by decide +kernel) (by decide +kernel)
set_option maxRecDepth 20000 in
theorem gX9_markBy_X9_worked : GoodIn wsX9_markBy (wsV RX9 121 RX9 yX9_worked wsX9_worked) := goodIn_app (goodIn_of _ (by decide +kernel)) ggX9_markBy_X9_worked
set_option maxRecDepth 20000 in
theorem ggX9_markBy_X9_held : GoodIn wsX9_markBy wsX9_held := goodIn_r _ [18] (by decide +kernel) (by decide +kernel)
set_option maxRecDepth 20000 in
theorem gX9_markBy_X9_held : GoodIn wsX9_markBy (va_wsS RX9 124 yX9_held wsX9_held) := goodIn_app (goodIn_of _ (by decide +kernel)) ggX9_markBy_X9_held
theorem dX9_markBy_0 : decode cX9_markBy 0 = .ok (.aload_n 0, 1) := by decide +kernel
theorem dX9_markBy_1 : decode cX9_markBy 1 = .ok (.getfield 25, 3) := by decide +kernel
theorem dX9_markBy_4 : decode cX9_markBy 4 = .ok (.bipush 114, 2) := by decide +kernel
theorem dX9_markBy_6 : decode cX9_markBy 6 = .ok (.iload_n 1, 1) := by decide +kernel
theorem dX9_markBy_7 : decode cX9_markBy 7 = .ok (.iastore, 1) := by decide +kernel
theorem dX9_markBy_8 : decode cX9_markBy 8 = .ok (.aload_n 0, 1) := by decide +kernel
theorem dX9_markBy_9 : decode cX9_markBy 9 = .ok (.getfield 25, 3) := by decide +kernel
theorem dX9_markBy_12 : decode cX9_markBy 12 = .ok (.bipush 106, 2) := by decide +kernel
theorem dX9_markBy_14 : decode cX9_markBy 14 = .ok (.iload_n 2, 1) := by decide +kernel
theorem dX9_markBy_15 : decode cX9_markBy 15 = .ok (.iastore, 1) := by decide +kernel
theorem dX9_markBy_16 : decode cX9_markBy 16 = .ok (.aload_n 0, 1) := by decide +kernel
theorem dX9_markBy_17 : decode cX9_markBy 17 = .ok (.getfield 25, 3) := by decide +kernel
theorem dX9_markBy_20 : decode cX9_markBy 20 = .ok (.bipush 121, 2) := by decide +kernel
theorem dX9_markBy_22 : decode cX9_markBy 22 = .ok (.iload_n 3, 1) := by decide +kernel
theorem dX9_markBy_23 : decode cX9_markBy 23 = .ok (.iastore, 1) := by decide +kernel
theorem dX9_markBy_24 : decode cX9_markBy 24 = .ok (.aload_n 0, 1) := by decide +kernel
theorem dX9_markBy_25 : decode cX9_markBy 25 = .ok (.iconst 1, 1) := by decide +kernel
theorem dX9_markBy_26 : decode cX9_markBy 26 = .ok (.invokevirtual 114, 3) := by decide +kernel
theorem dX9_markBy_29 : decode cX9_markBy 29 = .ok (.ifCond .eq 11, 3) := by decide +kernel
theorem dX9_markBy_32 : decode cX9_markBy 32 = .ok (.aload_n 0, 1) := by decide +kernel
theorem dX9_markBy_33 : decode cX9_markBy 33 = .ok (.iconst 1, 1) := by decide +kernel
theorem dX9_markBy_34 : decode cX9_markBy 34 = .ok (.invokevirtual 121, 3) := by decide +kernel
theorem dX9_markBy_37 : decode cX9_markBy 37 = .ok (.goto 4, 3) := by decide +kernel
theorem dX9_markBy_40 : decode cX9_markBy 40 = .ok (.iload_n 1, 1) := by decide +kernel
theorem dX9_markBy_41 : decode cX9_markBy 41 = .ok (.iconst 0, 1) := by decide +kernel
theorem dX9_markBy_42 : decode cX9_markBy 42 = .ok (.bipush 40, 2) := by decide +kernel
theorem dX9_markBy_44 : decode cX9_markBy 44 = .ok (.invokestatic 124, 3) := by decide +kernel
theorem dX9_markBy_47 : decode cX9_markBy 47 = .ok (.ireturn, 1) := by decide +kernel
set_option maxRecDepth 20000 in
theorem ggX9_looksAt_X9_its : GoodIn wsX9_looksAt wsX9_its := goodIn_r _ [6, 1, 7, 8, 9, 10, 11, 12, 13, 14, 15, 16, 17, 18, 19, 20, 21, 22, 23, 24, 25, 26, 27, 28, 29, 30, 31] (by decide +kernel) (by decide +kernel)
set_option maxRecDepth 20000 in
theorem gX9_looksAt_X9_its : GoodIn wsX9_looksAt (wsV RX9 136 RX9 yX9_its wsX9_its) := goodIn_app (goodIn_of _ (by decide +kernel)) ggX9_looksAt_X9_its
theorem dX9_looksAt_0 : decode cX9_looksAt 0 = .ok (.aload_n 0, 1) := by decide +kernel
theorem dX9_looksAt_1 : decode cX9_looksAt 1 = .ok (.iload_n 1, 1) := by decide +kernel
theorem dX9_looksAt_2 : decode cX9_looksAt 2 = .ok (.iconst 1, 1) := by decide +kernel
theorem dX9_looksAt_3 : decode cX9_looksAt 3 = .ok (.invokevirtual 136, 3) := by decide +kernel
theorem dX9_looksAt_6 : decode cX9_looksAt 6 = .ok (.iconst 2, 1) := by decide +kernel
theorem dX9_looksAt_7 : decode cX9_looksAt 7 = .ok (.irem, 1) := by decide +kernel
theorem dX9_looksAt_8 : decode cX9_looksAt 8 = .ok (.istore_n 2, 1) := by decide +kernel
theorem dX9_looksAt_9 : decode cX9_looksAt 9 = .ok (.aload_n 0, 1) := by decide +kernel
theorem dX9_looksAt_10 : decode cX9_looksAt 10 = .ok (.iload_n 1, 1) := by decide +kernel
theorem dX9_looksAt_11 : decode cX9_looksAt 11 = .ok (.iconst 0, 1) := by decide +kernel
theorem dX9_looksAt_12 : decode cX9_looksAt 12 = .ok (.invokevirtual 136, 3) := by decide +kernel
theorem dX9_looksAt_15 : decode cX9_looksAt 15 = .ok (.tableswitch 98 1 6 #[37, 46, 64, 85, 46, 96], 37) := by decide +kernel
theorem dX9_looksAt_52 : decode cX9_looksAt 52 = .ok (.aload_n 0, 1) := by decide +kernel
theorem dX9_looksAt_53 : decode cX9_looksAt 53 = .ok (.getfield 7, 3) := by decide +kernel
theorem dX9_looksAt_56 : decode cX9_looksAt 56 = .ok (.iconst 0, 1) := by decide +kernel
theorem dX9_looksAt_57 : decode cX9_looksAt 57 = .ok (.iaload, 1) := by decide +kernel
theorem dX9_looksAt_58 : decode cX9_looksAt 58 = .ok (.iconst 2, 1) := by decide +kernel
theorem dX9_looksAt_59 : decode cX9_looksAt 59 = .ok (.irem, 1) := by decide +kernel
theorem dX9_looksAt_60 : decode cX9_looksAt 60 = .ok (.ireturn, 1) := by decide +kernel
theorem dX9_looksAt_61 : decode cX9_looksAt 61 = .ok (.aload_n 0, 1) := by decide +kernel
theorem dX9_looksAt_62 : decode cX9_looksAt 62 = .ok (.iload_n 1, 1) := by decide +kernel
theorem dX9_looksAt_63 : decode cX9_looksAt 63 = .ok (.iconst 1, 1) := by decide +kernel
theorem dX9_looksAt_64 : decode cX9_looksAt 64 = .ok (.invokevirtual 136, 3) := by decide +kernel
theorem dX9_looksAt_67 : decode cX9_looksAt 67 = .ok (.iconst 4, 1) := by decide +kernel
theorem dX9_looksAt_68 : decode cX9_looksAt 68 = .ok (.if_icmp .le 9, 3) := by decide +kernel
theorem dX9_looksAt_71 : decode cX9_looksAt 71 = .ok (.iconst 1, 1) := by decide +kernel
theorem dX9_looksAt_72 : decode cX9_looksAt 72 = .ok (.iload_n 2, 1) := by decide +kernel
theorem dX9_looksAt_73 : decode cX9_looksAt 73 = .ok (.isub, 1) := by decide +kernel
theorem dX9_looksAt_74 : decode cX9_looksAt 74 = .ok (.goto 4, 3) := by decide +kernel
theorem dX9_looksAt_77 : decode cX9_looksAt 77 = .ok (.iload_n 2, 1) := by decide +kernel
theorem dX9_looksAt_78 : decode cX9_looksAt 78 = .ok (.ireturn, 1) := by decide +kernel
theorem dX9_looksAt_79 : decode cX9_looksAt 79 = .ok (.aload_n 0, 1) := by decide +kernel
theorem dX9_looksAt_80 : decode cX9_looksAt 80 = .ok (.getfield 7, 3) := by decide +kernel
theorem dX9_looksAt_83 : decode cX9_looksAt 83 = .ok (.iconst 2, 1) := by decide +kernel
theorem dX9_looksAt_84 : decode cX9_looksAt 84 = .ok (.iaload, 1) := by decide +kernel
theorem dX9_looksAt_85 : decode cX9_looksAt 85 = .ok (.aload_n 0, 1) := by decide +kernel
theorem dX9_looksAt_86 : decode cX9_looksAt 86 = .ok (.getfield 7, 3) := by decide +kernel
theorem dX9_looksAt_89 : decode cX9_looksAt 89 = .ok (.iconst 3, 1) := by decide +kernel
theorem dX9_looksAt_90 : decode cX9_looksAt 90 = .ok (.iaload, 1) := by decide +kernel
theorem dX9_looksAt_91 : decode cX9_looksAt 91 = .ok (.if_icmp .gt 7, 3) := by decide +kernel
theorem dX9_looksAt_94 : decode cX9_looksAt 94 = .ok (.iconst 0, 1) := by decide +kernel
theorem dX9_looksAt_95 : decode cX9_looksAt 95 = .ok (.goto 4, 3) := by decide +kernel
theorem dX9_looksAt_98 : decode cX9_looksAt 98 = .ok (.iconst 1, 1) := by decide +kernel
theorem dX9_looksAt_99 : decode cX9_looksAt 99 = .ok (.ireturn, 1) := by decide +kernel
theorem dX9_looksAt_100 : decode cX9_looksAt 100 = .ok (.iconst 1, 1) := by decide +kernel
theorem dX9_looksAt_101 : decode cX9_looksAt 101 = .ok (.aload_n 0, 1) := by decide +kernel
theorem dX9_looksAt_102 : decode cX9_looksAt 102 = .ok (.getfield 7, 3) := by decide +kernel
theorem dX9_looksAt_105 : decode cX9_looksAt 105 = .ok (.iconst 0, 1) := by decide +kernel
theorem dX9_looksAt_106 : decode cX9_looksAt 106 = .ok (.iaload, 1) := by decide +kernel
theorem dX9_looksAt_107 : decode cX9_looksAt 107 = .ok (.iconst 2, 1) := by decide +kernel
theorem dX9_looksAt_108 : decode cX9_looksAt 108 = .ok (.irem, 1) := by decide +kernel
theorem dX9_looksAt_109 : decode cX9_looksAt 109 = .ok (.isub, 1) := by decide +kernel
theorem dX9_looksAt_110 : decode cX9_looksAt 110 = .ok (.ireturn, 1) := by decide +kernel
theorem dX9_looksAt_111 : decode cX9_looksAt 111 = .ok (.iconst 0, 1) := by decide +kernel
theorem dX9_looksAt_112 : decode cX9_looksAt 112 = .ok (.ireturn, 1) := by decide +kernel
theorem dX9_looksAt_113 : decode cX9_looksAt 113 = .ok (.iload_n 2, 1) := by decide +kernel
theorem dX9_looksAt_114 : decode cX9_looksAt 114 = .ok (.ireturn, 1) := by decide +kernel
set_option maxRecDepth 20000 in
theorem ggX9_readOf_X9_its : GoodIn wsX9_readOf wsX9_its := goodIn_r _ [6, 1, 7, 8, 9, 10, 11, 12, 13, 14, 15, 16, 17, 18, 19, 20, 21, 22, 23, 24, 25, 26, 27, 28, 29, 30, 31] (by decide +kernel) (by decide +kernel)
set_option maxRecDepth 20000 in
theorem gX9_readOf_X9_its : GoodIn wsX9_readOf (wsV RX9 136 RX9 yX9_its wsX9_its) := goodIn_app (goodIn_of _ (by decide +kernel)) ggX9_readOf_X9_its
theorem dX9_readOf_0 : decode cX9_readOf 0 = .ok (.aload_n 0, 1) := by decide +kernel
theorem dX9_readOf_1 : decode cX9_readOf 1 = .ok (.iload_n 1, 1) := by decide +kernel
theorem dX9_readOf_2 : decode cX9_readOf 2 = .ok (.iconst 1, 1) := by decide +kernel
theorem dX9_readOf_3 : decode cX9_readOf 3 = .ok (.invokevirtual 136, 3) := by decide +kernel
theorem dX9_readOf_6 : decode cX9_readOf 6 = .ok (.istore 4, 2) := by decide +kernel
theorem dX9_readOf_8 : decode cX9_readOf 8 = .ok (.aload_n 0, 1) := by decide +kernel
theorem dX9_readOf_9 : decode cX9_readOf 9 = .ok (.iload_n 1, 1) := by decide +kernel
theorem dX9_readOf_10 : decode cX9_readOf 10 = .ok (.iconst 0, 1) := by decide +kernel
theorem dX9_readOf_11 : decode cX9_readOf 11 = .ok (.invokevirtual 136, 3) := by decide +kernel
theorem dX9_readOf_14 : decode cX9_readOf 14 = .ok (.tableswitch 93 1 6 #[38, 46, 51, 55, 65, 80], 38) := by decide +kernel
theorem dX9_readOf_52 : decode cX9_readOf 52 = .ok (.iconst 2, 1) := by decide +kernel
theorem dX9_readOf_53 : decode cX9_readOf 53 = .ok (.iload_n 2, 1) := by decide +kernel
theorem dX9_readOf_54 : decode cX9_readOf 54 = .ok (.imul, 1) := by decide +kernel
theorem dX9_readOf_55 : decode cX9_readOf 55 = .ok (.iload_n 3, 1) := by decide +kernel
theorem dX9_readOf_56 : decode cX9_readOf 56 = .ok (.iconst 3, 1) := by decide +kernel
theorem dX9_readOf_57 : decode cX9_readOf 57 = .ok (.irem, 1) := by decide +kernel
theorem dX9_readOf_58 : decode cX9_readOf 58 = .ok (.iadd, 1) := by decide +kernel
theorem dX9_readOf_59 : decode cX9_readOf 59 = .ok (.ireturn, 1) := by decide +kernel
theorem dX9_readOf_60 : decode cX9_readOf 60 = .ok (.iload_n 2, 1) := by decide +kernel
theorem dX9_readOf_61 : decode cX9_readOf 61 = .ok (.iload 4, 2) := by decide +kernel
theorem dX9_readOf_63 : decode cX9_readOf 63 = .ok (.iadd, 1) := by decide +kernel
theorem dX9_readOf_64 : decode cX9_readOf 64 = .ok (.ireturn, 1) := by decide +kernel
theorem dX9_readOf_65 : decode cX9_readOf 65 = .ok (.iload_n 2, 1) := by decide +kernel
theorem dX9_readOf_66 : decode cX9_readOf 66 = .ok (.iconst 2, 1) := by decide +kernel
theorem dX9_readOf_67 : decode cX9_readOf 67 = .ok (.irem, 1) := by decide +kernel
theorem dX9_readOf_68 : decode cX9_readOf 68 = .ok (.ireturn, 1) := by decide +kernel
theorem dX9_readOf_69 : decode cX9_readOf 69 = .ok (.iconst 2, 1) := by decide +kernel
theorem dX9_readOf_70 : decode cX9_readOf 70 = .ok (.iload_n 2, 1) := by decide +kernel
theorem dX9_readOf_71 : decode cX9_readOf 71 = .ok (.imul, 1) := by decide +kernel
theorem dX9_readOf_72 : decode cX9_readOf 72 = .ok (.iload_n 3, 1) := by decide +kernel
theorem dX9_readOf_73 : decode cX9_readOf 73 = .ok (.iconst 3, 1) := by decide +kernel
theorem dX9_readOf_74 : decode cX9_readOf 74 = .ok (.irem, 1) := by decide +kernel
theorem dX9_readOf_75 : decode cX9_readOf 75 = .ok (.iadd, 1) := by decide +kernel
theorem dX9_readOf_76 : decode cX9_readOf 76 = .ok (.iconst 3, 1) := by decide +kernel
theorem dX9_readOf_77 : decode cX9_readOf 77 = .ok (.iadd, 1) := by decide +kernel
theorem dX9_readOf_78 : decode cX9_readOf 78 = .ok (.ireturn, 1) := by decide +kernel
theorem dX9_readOf_79 : decode cX9_readOf 79 = .ok (.iload_n 2, 1) := by decide +kernel
theorem dX9_readOf_80 : decode cX9_readOf 80 = .ok (.iload 4, 2) := by decide +kernel
theorem dX9_readOf_82 : decode cX9_readOf 82 = .ok (.iadd, 1) := by decide +kernel
theorem dX9_readOf_83 : decode cX9_readOf 83 = .ok (.iconst 2, 1) := by decide +kernel
theorem dX9_readOf_84 : decode cX9_readOf 84 = .ok (.idiv, 1) := by decide +kernel
theorem dX9_readOf_85 : decode cX9_readOf 85 = .ok (.aload_n 0, 1) := by decide +kernel
theorem dX9_readOf_86 : decode cX9_readOf 86 = .ok (.getfield 7, 3) := by decide +kernel
theorem dX9_readOf_89 : decode cX9_readOf 89 = .ok (.bipush 7, 2) := by decide +kernel
theorem dX9_readOf_91 : decode cX9_readOf 91 = .ok (.iaload, 1) := by decide +kernel
theorem dX9_readOf_92 : decode cX9_readOf 92 = .ok (.iadd, 1) := by decide +kernel
theorem dX9_readOf_93 : decode cX9_readOf 93 = .ok (.ireturn, 1) := by decide +kernel
theorem dX9_readOf_94 : decode cX9_readOf 94 = .ok (.iload 4, 2) := by decide +kernel
theorem dX9_readOf_96 : decode cX9_readOf 96 = .ok (.bipush 9, 2) := by decide +kernel
theorem dX9_readOf_98 : decode cX9_readOf 98 = .ok (.if_icmp .ne 7, 3) := by decide +kernel
theorem dX9_readOf_101 : decode cX9_readOf 101 = .ok (.iload_n 2, 1) := by decide +kernel
theorem dX9_readOf_102 : decode cX9_readOf 102 = .ok (.goto 4, 3) := by decide +kernel
theorem dX9_readOf_105 : decode cX9_readOf 105 = .ok (.iconst 0, 1) := by decide +kernel
theorem dX9_readOf_106 : decode cX9_readOf 106 = .ok (.ireturn, 1) := by decide +kernel
theorem dX9_readOf_107 : decode cX9_readOf 107 = .ok (.iload_n 2, 1) := by decide +kernel
theorem dX9_readOf_108 : decode cX9_readOf 108 = .ok (.ireturn, 1) := by decide +kernel
set_option maxRecDepth 20000 in
theorem ggX9_year1_X9_turnOf : GoodIn wsX9_year1 wsX9_turnOf := goodIn_r _ [6, 1, 7, 8, 9, 5, 10, 11, 12, 13, 14, 15, 16, 17, 18, 19, 20, 21, 22, 23, 24, 25, 26, 27, 28, 29, 30, 31, 32, 33, 54, 55, 56, 57, 58, 59, 60, 61, 62, 63, 64, 65, 66, 67, 68, 69, 70, 71, 72, 73, 74, 75, 76, 77, 78] (by decide +kernel) (by decide +kernel)
set_option maxRecDepth 20000 in
theorem gX9_year1_X9_turnOf : GoodIn wsX9_year1 (wsV RX9 140 RX9 yX9_turnOf wsX9_turnOf) := goodIn_app (goodIn_of _ (by decide +kernel)) ggX9_year1_X9_turnOf
set_option maxRecDepth 20000 in
theorem ggX9_year1_X9_looksAt : GoodIn wsX9_year1 wsX9_looksAt := goodIn_r _ [37, 1, 38, 39, 40, 5, 41, 54, 55, 56, 57, 58, 59, 60, 61, 62, 63, 64, 65, 66, 67, 68, 69, 70, 71, 72, 73, 74, 75, 76, 77, 78] (by decide +kernel) (by decide +kernel)
set_option maxRecDepth 20000 in
theorem gX9_year1_X9_looksAt : GoodIn wsX9_year1 (wsV RX9 143 RX9 yX9_looksAt wsX9_looksAt) := goodIn_app (goodIn_of _ (by decide +kernel)) ggX9_year1_X9_looksAt
set_option maxRecDepth 20000 in
theorem ggX9_year1_X9_readOf : GoodIn wsX9_year1 wsX9_readOf := goodIn_r _ [45, 1, 38, 39, 40, 5, 41, 54, 55, 56, 57, 58, 59, 60, 61, 62, 63, 64, 65, 66, 67, 68, 69, 70, 71, 72, 73, 74, 75, 76, 77, 78] (by decide +kernel) (by decide +kernel)
set_option maxRecDepth 20000 in
theorem gX9_year1_X9_readOf : GoodIn wsX9_year1 (wsV RX9 146 RX9 yX9_readOf wsX9_readOf) := goodIn_app (goodIn_of _ (by decide +kernel)) ggX9_year1_X9_readOf
set_option maxRecDepth 20000 in
theorem ggX9_year1_X9_its : GoodIn wsX9_year1 wsX9_its := goodIn_r _ [41, 1, 54, 55, 56, 57, 58, 59, 60, 61, 62, 63, 64, 65, 66, 67, 68, 69, 70, 71, 72, 73, 74, 75, 76, 77, 78] (by decide +kernel) (by decide +kernel)
set_option maxRecDepth 20000 in
theorem gX9_year1_X9_its : GoodIn wsX9_year1 (wsV RX9 136 RX9 yX9_its wsX9_its) := goodIn_app (goodIn_of _ (by decide +kernel)) ggX9_year1_X9_its
set_option maxRecDepth 20000 in
theorem ggX9_year1_X9_markBy : GoodIn wsX9_year1 wsX9_markBy := goodIn_r _ [49, 18, 19, 20, 21, 5, 22, 1, 23, 24, 25, 26, 27, 28, 29, 30, 31, 32, 33, 54, 55, 56, 57, 58, 59, 60, 61, 62, 63, 64, 65, 66, 67, 68, 69, 70, 71, 72, 73, 74, 75, 76, 77, 78] (by decide +kernel) (by decide +kernel)
set_option maxRecDepth 20000 in
theorem gX9_year1_X9_markBy : GoodIn wsX9_year1 (wsV RX9 149 RX9 yX9_markBy wsX9_markBy) := goodIn_app (goodIn_of _ (by decide +kernel)) ggX9_year1_X9_markBy
set_option maxRecDepth 20000 in
theorem ggX9_year1_X9_held : GoodIn wsX9_year1 wsX9_held := goodIn_r _ [33] (by decide +kernel) (by decide +kernel)
set_option maxRecDepth 20000 in
theorem gX9_year1_X9_held : GoodIn wsX9_year1 (va_wsS RX9 124 yX9_held wsX9_held) := goodIn_app (goodIn_of _ (by decide +kernel)) ggX9_year1_X9_held
set_option maxRecDepth 20000 in
theorem ggX9_year1_X9_lays1 : GoodIn wsX9_year1 wsX9_lays1 := goodIn_r _ [53, 1, 54, 55, 56, 57, 58, 59, 60, 61, 62, 63, 64, 65, 66, 67, 68, 69, 70, 71, 72, 73, 74, 75, 76, 77, 78] (by decide +kernel) (by decide +kernel)
set_option maxRecDepth 20000 in
theorem gX9_year1_X9_lays1 : GoodIn wsX9_year1 (wsV RX9 152 RX9 yX9_lays1 wsX9_lays1) := goodIn_app (goodIn_of _ (by decide +kernel)) ggX9_year1_X9_lays1
theorem dX9_year1_0 : decode cX9_year1 0 = .ok (.aload_n 0, 1) := by decide +kernel
theorem dX9_year1_1 : decode cX9_year1 1 = .ok (.iconst 0, 1) := by decide +kernel
theorem dX9_year1_2 : decode cX9_year1 2 = .ok (.iload_n 1, 1) := by decide +kernel
theorem dX9_year1_3 : decode cX9_year1 3 = .ok (.invokevirtual 140, 3) := by decide +kernel
theorem dX9_year1_6 : decode cX9_year1 6 = .ok (.istore_n 2, 1) := by decide +kernel
theorem dX9_year1_7 : decode cX9_year1 7 = .ok (.aload_n 0, 1) := by decide +kernel
theorem dX9_year1_8 : decode cX9_year1 8 = .ok (.iconst 1, 1) := by decide +kernel
theorem dX9_year1_9 : decode cX9_year1 9 = .ok (.iload_n 1, 1) := by decide +kernel
theorem dX9_year1_10 : decode cX9_year1 10 = .ok (.invokevirtual 140, 3) := by decide +kernel
theorem dX9_year1_13 : decode cX9_year1 13 = .ok (.istore_n 3, 1) := by decide +kernel
theorem dX9_year1_14 : decode cX9_year1 14 = .ok (.aload_n 0, 1) := by decide +kernel
theorem dX9_year1_15 : decode cX9_year1 15 = .ok (.getfield 7, 3) := by decide +kernel
theorem dX9_year1_18 : decode cX9_year1 18 = .ok (.iconst 2, 1) := by decide +kernel
theorem dX9_year1_19 : decode cX9_year1 19 = .ok (.aload_n 0, 1) := by decide +kernel
theorem dX9_year1_20 : decode cX9_year1 20 = .ok (.getfield 7, 3) := by decide +kernel
theorem dX9_year1_23 : decode cX9_year1 23 = .ok (.iconst 2, 1) := by decide +kernel
theorem dX9_year1_24 : decode cX9_year1 24 = .ok (.iaload, 1) := by decide +kernel
theorem dX9_year1_25 : decode cX9_year1 25 = .ok (.iload_n 2, 1) := by decide +kernel
theorem dX9_year1_26 : decode cX9_year1 26 = .ok (.iadd, 1) := by decide +kernel
theorem dX9_year1_27 : decode cX9_year1 27 = .ok (.sipush 360, 3) := by decide +kernel
theorem dX9_year1_30 : decode cX9_year1 30 = .ok (.irem, 1) := by decide +kernel
theorem dX9_year1_31 : decode cX9_year1 31 = .ok (.iastore, 1) := by decide +kernel
theorem dX9_year1_32 : decode cX9_year1 32 = .ok (.aload_n 0, 1) := by decide +kernel
theorem dX9_year1_33 : decode cX9_year1 33 = .ok (.getfield 7, 3) := by decide +kernel
theorem dX9_year1_36 : decode cX9_year1 36 = .ok (.iconst 3, 1) := by decide +kernel
theorem dX9_year1_37 : decode cX9_year1 37 = .ok (.aload_n 0, 1) := by decide +kernel
theorem dX9_year1_38 : decode cX9_year1 38 = .ok (.getfield 7, 3) := by decide +kernel
theorem dX9_year1_41 : decode cX9_year1 41 = .ok (.iconst 3, 1) := by decide +kernel
theorem dX9_year1_42 : decode cX9_year1 42 = .ok (.iaload, 1) := by decide +kernel
theorem dX9_year1_43 : decode cX9_year1 43 = .ok (.iload_n 3, 1) := by decide +kernel
theorem dX9_year1_44 : decode cX9_year1 44 = .ok (.iadd, 1) := by decide +kernel
theorem dX9_year1_45 : decode cX9_year1 45 = .ok (.sipush 360, 3) := by decide +kernel
theorem dX9_year1_48 : decode cX9_year1 48 = .ok (.irem, 1) := by decide +kernel
theorem dX9_year1_49 : decode cX9_year1 49 = .ok (.iastore, 1) := by decide +kernel
theorem dX9_year1_50 : decode cX9_year1 50 = .ok (.iconst 0, 1) := by decide +kernel
theorem dX9_year1_51 : decode cX9_year1 51 = .ok (.istore 4, 2) := by decide +kernel
theorem dX9_year1_53 : decode cX9_year1 53 = .ok (.iload 4, 2) := by decide +kernel
theorem dX9_year1_55 : decode cX9_year1 55 = .ok (.aload_n 0, 1) := by decide +kernel
theorem dX9_year1_56 : decode cX9_year1 56 = .ok (.getfield 7, 3) := by decide +kernel
theorem dX9_year1_59 : decode cX9_year1 59 = .ok (.bipush 7, 2) := by decide +kernel
theorem dX9_year1_61 : decode cX9_year1 61 = .ok (.iaload, 1) := by decide +kernel
theorem dX9_year1_62 : decode cX9_year1 62 = .ok (.if_icmp .ge 93, 3) := by decide +kernel
theorem dX9_year1_65 : decode cX9_year1 65 = .ok (.aload_n 0, 1) := by decide +kernel
theorem dX9_year1_66 : decode cX9_year1 66 = .ok (.iload 4, 2) := by decide +kernel
theorem dX9_year1_68 : decode cX9_year1 68 = .ok (.invokevirtual 143, 3) := by decide +kernel
theorem dX9_year1_71 : decode cX9_year1 71 = .ok (.istore 5, 2) := by decide +kernel
theorem dX9_year1_73 : decode cX9_year1 73 = .ok (.aload_n 0, 1) := by decide +kernel
theorem dX9_year1_74 : decode cX9_year1 74 = .ok (.iload 4, 2) := by decide +kernel
theorem dX9_year1_76 : decode cX9_year1 76 = .ok (.iload 5, 2) := by decide +kernel
theorem dX9_year1_78 : decode cX9_year1 78 = .ok (.ifCond .ne 7, 3) := by decide +kernel
theorem dX9_year1_81 : decode cX9_year1 81 = .ok (.iload_n 2, 1) := by decide +kernel
theorem dX9_year1_82 : decode cX9_year1 82 = .ok (.goto 4, 3) := by decide +kernel
theorem dX9_year1_85 : decode cX9_year1 85 = .ok (.iload_n 3, 1) := by decide +kernel
theorem dX9_year1_86 : decode cX9_year1 86 = .ok (.aload_n 0, 1) := by decide +kernel
theorem dX9_year1_87 : decode cX9_year1 87 = .ok (.getfield 7, 3) := by decide +kernel
theorem dX9_year1_90 : decode cX9_year1 90 = .ok (.iconst 2, 1) := by decide +kernel
theorem dX9_year1_91 : decode cX9_year1 91 = .ok (.iload 5, 2) := by decide +kernel
theorem dX9_year1_93 : decode cX9_year1 93 = .ok (.iadd, 1) := by decide +kernel
theorem dX9_year1_94 : decode cX9_year1 94 = .ok (.iaload, 1) := by decide +kernel
theorem dX9_year1_95 : decode cX9_year1 95 = .ok (.invokevirtual 146, 3) := by decide +kernel
theorem dX9_year1_98 : decode cX9_year1 98 = .ok (.istore 6, 2) := by decide +kernel
theorem dX9_year1_100 : decode cX9_year1 100 = .ok (.aload_n 0, 1) := by decide +kernel
theorem dX9_year1_101 : decode cX9_year1 101 = .ok (.iload 4, 2) := by decide +kernel
theorem dX9_year1_103 : decode cX9_year1 103 = .ok (.iconst 2, 1) := by decide +kernel
theorem dX9_year1_104 : decode cX9_year1 104 = .ok (.aload_n 0, 1) := by decide +kernel
theorem dX9_year1_105 : decode cX9_year1 105 = .ok (.iload 4, 2) := by decide +kernel
theorem dX9_year1_107 : decode cX9_year1 107 = .ok (.iconst 2, 1) := by decide +kernel
theorem dX9_year1_108 : decode cX9_year1 108 = .ok (.invokevirtual 136, 3) := by decide +kernel
theorem dX9_year1_111 : decode cX9_year1 111 = .ok (.aload_n 0, 1) := by decide +kernel
theorem dX9_year1_112 : decode cX9_year1 112 = .ok (.iload 6, 2) := by decide +kernel
theorem dX9_year1_114 : decode cX9_year1 114 = .ok (.aload_n 0, 1) := by decide +kernel
theorem dX9_year1_115 : decode cX9_year1 115 = .ok (.getfield 7, 3) := by decide +kernel
theorem dX9_year1_118 : decode cX9_year1 118 = .ok (.iconst 2, 1) := by decide +kernel
theorem dX9_year1_119 : decode cX9_year1 119 = .ok (.iload 5, 2) := by decide +kernel
theorem dX9_year1_121 : decode cX9_year1 121 = .ok (.iadd, 1) := by decide +kernel
theorem dX9_year1_122 : decode cX9_year1 122 = .ok (.iaload, 1) := by decide +kernel
theorem dX9_year1_123 : decode cX9_year1 123 = .ok (.bipush 10, 2) := by decide +kernel
theorem dX9_year1_125 : decode cX9_year1 125 = .ok (.irem, 1) := by decide +kernel
theorem dX9_year1_126 : decode cX9_year1 126 = .ok (.aload_n 0, 1) := by decide +kernel
theorem dX9_year1_127 : decode cX9_year1 127 = .ok (.getfield 7, 3) := by decide +kernel
theorem dX9_year1_130 : decode cX9_year1 130 = .ok (.iconst 0, 1) := by decide +kernel
theorem dX9_year1_131 : decode cX9_year1 131 = .ok (.iaload, 1) := by decide +kernel
theorem dX9_year1_132 : decode cX9_year1 132 = .ok (.bipush 8, 2) := by decide +kernel
theorem dX9_year1_134 : decode cX9_year1 134 = .ok (.irem, 1) := by decide +kernel
theorem dX9_year1_135 : decode cX9_year1 135 = .ok (.invokevirtual 149, 3) := by decide +kernel
theorem dX9_year1_138 : decode cX9_year1 138 = .ok (.iadd, 1) := by decide +kernel
theorem dX9_year1_139 : decode cX9_year1 139 = .ok (.iconst 0, 1) := by decide +kernel
theorem dX9_year1_140 : decode cX9_year1 140 = .ok (.sipush 9999, 3) := by decide +kernel
theorem dX9_year1_143 : decode cX9_year1 143 = .ok (.invokestatic 124, 3) := by decide +kernel
theorem dX9_year1_146 : decode cX9_year1 146 = .ok (.invokevirtual 152, 3) := by decide +kernel
theorem dX9_year1_149 : decode cX9_year1 149 = .ok (.iinc 4 1, 3) := by decide +kernel
theorem dX9_year1_152 : decode cX9_year1 152 = .ok (.goto (-99), 3) := by decide +kernel
theorem dX9_year1_155 : decode cX9_year1 155 = .ok (.aload_n 0, 1) := by decide +kernel
theorem dX9_year1_156 : decode cX9_year1 156 = .ok (.getfield 7, 3) := by decide +kernel
theorem dX9_year1_159 : decode cX9_year1 159 = .ok (.iconst 0, 1) := by decide +kernel
theorem dX9_year1_160 : decode cX9_year1 160 = .ok (.dup2, 1) := by decide +kernel
theorem dX9_year1_161 : decode cX9_year1 161 = .ok (.iaload, 1) := by decide +kernel
theorem dX9_year1_162 : decode cX9_year1 162 = .ok (.iconst 1, 1) := by decide +kernel
theorem dX9_year1_163 : decode cX9_year1 163 = .ok (.iadd, 1) := by decide +kernel
theorem dX9_year1_164 : decode cX9_year1 164 = .ok (.iastore, 1) := by decide +kernel
theorem dX9_year1_165 : decode cX9_year1 165 = .ok (.return_, 1) := by decide +kernel
set_option maxRecDepth 20000 in
theorem ggX9_goes_X9_year1 : GoodIn wsX9_goes wsX9_year1 := goodIn_r _ [6, 1, 7, 8, 9, 5, 10, 11, 12, 13, 14, 15, 16, 17, 18, 19, 20, 21, 22, 23, 24, 25, 26, 27, 28, 29, 30, 31, 32, 33, 34, 35, 36, 37, 38, 39, 40, 41, 42, 43, 44, 45, 46, 47, 48, 49, 50, 51, 52, 53, 54, 55, 56, 57, 58, 59, 60, 61, 62, 63, 64, 65, 66, 67, 68, 69, 70, 71, 72, 73, 74, 75, 76, 77, 78, 79, 80, 81, 82] (by decide +kernel) (by decide +kernel)
set_option maxRecDepth 20000 in
theorem gX9_goes_X9_year1 : GoodIn wsX9_goes (wsV RX9 156 RX9 yX9_year1 wsX9_year1) := goodIn_app (goodIn_of _ (by decide +kernel)) ggX9_goes_X9_year1
theorem dX9_goes_0 : decode cX9_goes 0 = .ok (.iconst 0, 1) := by decide +kernel
theorem dX9_goes_1 : decode cX9_goes 1 = .ok (.istore_n 2, 1) := by decide +kernel
theorem dX9_goes_2 : decode cX9_goes 2 = .ok (.iload_n 2, 1) := by decide +kernel
theorem dX9_goes_3 : decode cX9_goes 3 = .ok (.iload_n 1, 1) := by decide +kernel
theorem dX9_goes_4 : decode cX9_goes 4 = .ok (.if_icmp .ge 30, 3) := by decide +kernel
theorem dX9_goes_7 : decode cX9_goes 7 = .ok (.aload_n 0, 1) := by decide +kernel
theorem dX9_goes_8 : decode cX9_goes 8 = .ok (.aload_n 0, 1) := by decide +kernel
theorem dX9_goes_9 : decode cX9_goes 9 = .ok (.getfield 7, 3) := by decide +kernel
theorem dX9_goes_12 : decode cX9_goes 12 = .ok (.bipush 8, 2) := by decide +kernel
theorem dX9_goes_14 : decode cX9_goes 14 = .ok (.aload_n 0, 1) := by decide +kernel
theorem dX9_goes_15 : decode cX9_goes 15 = .ok (.getfield 7, 3) := by decide +kernel
theorem dX9_goes_18 : decode cX9_goes 18 = .ok (.iconst 0, 1) := by decide +kernel
theorem dX9_goes_19 : decode cX9_goes 19 = .ok (.iaload, 1) := by decide +kernel
theorem dX9_goes_20 : decode cX9_goes 20 = .ok (.bipush 6, 2) := by decide +kernel
theorem dX9_goes_22 : decode cX9_goes 22 = .ok (.irem, 1) := by decide +kernel
theorem dX9_goes_23 : decode cX9_goes 23 = .ok (.iadd, 1) := by decide +kernel
theorem dX9_goes_24 : decode cX9_goes 24 = .ok (.iaload, 1) := by decide +kernel
theorem dX9_goes_25 : decode cX9_goes 25 = .ok (.invokevirtual 156, 3) := by decide +kernel
theorem dX9_goes_28 : decode cX9_goes 28 = .ok (.iinc 2 1, 3) := by decide +kernel
theorem dX9_goes_31 : decode cX9_goes 31 = .ok (.goto (-29), 3) := by decide +kernel
theorem dX9_goes_34 : decode cX9_goes 34 = .ok (.return_, 1) := by decide +kernel
set_option maxRecDepth 20000 in
theorem ggX9_marksAll_X9_its : GoodIn wsX9_marksAll wsX9_its := goodIn_r _ [6, 1, 7, 8, 9, 10, 11, 12, 13, 14, 15, 16, 17, 18, 19, 20, 21, 22, 23, 24, 25, 26, 27, 28, 29, 30, 31] (by decide +kernel) (by decide +kernel)
set_option maxRecDepth 20000 in
theorem gX9_marksAll_X9_its : GoodIn wsX9_marksAll (wsV RX9 136 RX9 yX9_its wsX9_its) := goodIn_app (goodIn_of _ (by decide +kernel)) ggX9_marksAll_X9_its
theorem dX9_marksAll_0 : decode cX9_marksAll 0 = .ok (.iconst 0, 1) := by decide +kernel
theorem dX9_marksAll_1 : decode cX9_marksAll 1 = .ok (.istore_n 1, 1) := by decide +kernel
theorem dX9_marksAll_2 : decode cX9_marksAll 2 = .ok (.iconst 0, 1) := by decide +kernel
theorem dX9_marksAll_3 : decode cX9_marksAll 3 = .ok (.istore_n 2, 1) := by decide +kernel
theorem dX9_marksAll_4 : decode cX9_marksAll 4 = .ok (.iload_n 2, 1) := by decide +kernel
theorem dX9_marksAll_5 : decode cX9_marksAll 5 = .ok (.aload_n 0, 1) := by decide +kernel
theorem dX9_marksAll_6 : decode cX9_marksAll 6 = .ok (.getfield 7, 3) := by decide +kernel
theorem dX9_marksAll_9 : decode cX9_marksAll 9 = .ok (.bipush 7, 2) := by decide +kernel
theorem dX9_marksAll_11 : decode cX9_marksAll 11 = .ok (.iaload, 1) := by decide +kernel
theorem dX9_marksAll_12 : decode cX9_marksAll 12 = .ok (.if_icmp .ge 18, 3) := by decide +kernel
theorem dX9_marksAll_15 : decode cX9_marksAll 15 = .ok (.iload_n 1, 1) := by decide +kernel
theorem dX9_marksAll_16 : decode cX9_marksAll 16 = .ok (.aload_n 0, 1) := by decide +kernel
theorem dX9_marksAll_17 : decode cX9_marksAll 17 = .ok (.iload_n 2, 1) := by decide +kernel
theorem dX9_marksAll_18 : decode cX9_marksAll 18 = .ok (.iconst 2, 1) := by decide +kernel
theorem dX9_marksAll_19 : decode cX9_marksAll 19 = .ok (.invokevirtual 136, 3) := by decide +kernel
theorem dX9_marksAll_22 : decode cX9_marksAll 22 = .ok (.iadd, 1) := by decide +kernel
theorem dX9_marksAll_23 : decode cX9_marksAll 23 = .ok (.istore_n 1, 1) := by decide +kernel
theorem dX9_marksAll_24 : decode cX9_marksAll 24 = .ok (.iinc 2 1, 3) := by decide +kernel
theorem dX9_marksAll_27 : decode cX9_marksAll 27 = .ok (.goto (-23), 3) := by decide +kernel
theorem dX9_marksAll_30 : decode cX9_marksAll 30 = .ok (.iload_n 1, 1) := by decide +kernel
theorem dX9_marksAll_31 : decode cX9_marksAll 31 = .ok (.ireturn, 1) := by decide +kernel
set_option maxRecDepth 20000 in
theorem ggX9_isKm_X9_in : GoodIn wsX9_isKm wsX9_in := goodIn_r _ [4] (by decide +kernel) (by decide +kernel)
set_option maxRecDepth 20000 in
theorem gX9_isKm_X9_in : GoodIn wsX9_isKm (va_wsS RX9 57 yX9_in wsX9_in) := goodIn_app (goodIn_of _ (by decide +kernel)) ggX9_isKm_X9_in
theorem dX9_isKm_0 : decode cX9_isKm 0 = .ok (.iload_n 0, 1) := by decide +kernel
theorem dX9_isKm_1 : decode cX9_isKm 1 = .ok (.iconst 0, 1) := by decide +kernel
theorem dX9_isKm_2 : decode cX9_isKm 2 = .ok (.bipush 69, 2) := by decide +kernel
theorem dX9_isKm_4 : decode cX9_isKm 4 = .ok (.invokestatic 57, 3) := by decide +kernel
theorem dX9_isKm_7 : decode cX9_isKm 7 = .ok (.ireturn, 1) := by decide +kernel
set_option maxRecDepth 20000 in
theorem ggX9_reader_X9_isKm : GoodIn wsX9_reader wsX9_isKm := goodIn_r _ [5, 6, 7, 4, 8] (by decide +kernel) (by decide +kernel)
set_option maxRecDepth 20000 in
theorem gX9_reader_X9_isKm : GoodIn wsX9_reader (va_wsS RX9 160 yX9_isKm wsX9_isKm) := goodIn_app (goodIn_of _ (by decide +kernel)) ggX9_reader_X9_isKm
set_option maxRecDepth 20000 in
theorem ggX9_reader_X9_error : GoodIn wsX9_reader wsX9_error := goodIn_r _ [12, 13, 14, 19, 20, 21, 22, 23, 24, 25, 26, 27, 28, 29, 30, 31, 32, 33, 34, 35, 36, 37, 38, 39, 40, 41, 42, 43] (by decide +kernel) (by decide +kernel)
set_option maxRecDepth 20000 in
theorem gX9_reader_X9_error : GoodIn wsX9_reader (wsV RX9 61 RX9 yX9_error wsX9_error) := goodIn_app (goodIn_of _ (by decide +kernel)) ggX9_reader_X9_error
set_option maxRecDepth 20000 in
theorem ggX9_reader_X9_lays1 : GoodIn wsX9_reader wsX9_lays1 := goodIn_r _ [18, 1, 19, 20, 21, 22, 23, 24, 25, 26, 27, 28, 29, 30, 31, 32, 33, 34, 35, 36, 37, 38, 39, 40, 41, 42, 43] (by decide +kernel) (by decide +kernel)
set_option maxRecDepth 20000 in
theorem gX9_reader_X9_lays1 : GoodIn wsX9_reader (wsV RX9 152 RX9 yX9_lays1 wsX9_lays1) := goodIn_app (goodIn_of _ (by decide +kernel)) ggX9_reader_X9_lays1
theorem dX9_reader_0 : decode cX9_reader 0 = .ok (.iload_n 1, 1) := by decide +kernel
theorem dX9_reader_1 : decode cX9_reader 1 = .ok (.invokestatic 160, 3) := by decide +kernel
theorem dX9_reader_4 : decode cX9_reader 4 = .ok (.ifCond .ne 9, 3) := by decide +kernel
theorem dX9_reader_7 : decode cX9_reader 7 = .ok (.aload_n 0, 1) := by decide +kernel
theorem dX9_reader_8 : decode cX9_reader 8 = .ok (.iconst 1, 1) := by decide +kernel
theorem dX9_reader_9 : decode cX9_reader 9 = .ok (.invokevirtual 61, 3) := by decide +kernel
theorem dX9_reader_12 : decode cX9_reader 12 = .ok (.ireturn, 1) := by decide +kernel
theorem dX9_reader_13 : decode cX9_reader 13 = .ok (.aload_n 0, 1) := by decide +kernel
theorem dX9_reader_14 : decode cX9_reader 14 = .ok (.getfield 7, 3) := by decide +kernel
theorem dX9_reader_17 : decode cX9_reader 17 = .ok (.bipush 7, 2) := by decide +kernel
theorem dX9_reader_19 : decode cX9_reader 19 = .ok (.iaload, 1) := by decide +kernel
theorem dX9_reader_20 : decode cX9_reader 20 = .ok (.bipush 6, 2) := by decide +kernel
theorem dX9_reader_22 : decode cX9_reader 22 = .ok (.if_icmp .ne 9, 3) := by decide +kernel
theorem dX9_reader_25 : decode cX9_reader 25 = .ok (.aload_n 0, 1) := by decide +kernel
theorem dX9_reader_26 : decode cX9_reader 26 = .ok (.iconst 4, 1) := by decide +kernel
theorem dX9_reader_27 : decode cX9_reader 27 = .ok (.invokevirtual 61, 3) := by decide +kernel
theorem dX9_reader_30 : decode cX9_reader 30 = .ok (.ireturn, 1) := by decide +kernel
theorem dX9_reader_31 : decode cX9_reader 31 = .ok (.aload_n 0, 1) := by decide +kernel
theorem dX9_reader_32 : decode cX9_reader 32 = .ok (.getfield 7, 3) := by decide +kernel
theorem dX9_reader_35 : decode cX9_reader 35 = .ok (.bipush 7, 2) := by decide +kernel
theorem dX9_reader_37 : decode cX9_reader 37 = .ok (.iaload, 1) := by decide +kernel
theorem dX9_reader_38 : decode cX9_reader 38 = .ok (.istore_n 2, 1) := by decide +kernel
theorem dX9_reader_39 : decode cX9_reader 39 = .ok (.aload_n 0, 1) := by decide +kernel
theorem dX9_reader_40 : decode cX9_reader 40 = .ok (.iload_n 2, 1) := by decide +kernel
theorem dX9_reader_41 : decode cX9_reader 41 = .ok (.iconst 0, 1) := by decide +kernel
theorem dX9_reader_42 : decode cX9_reader 42 = .ok (.iload_n 1, 1) := by decide +kernel
theorem dX9_reader_43 : decode cX9_reader 43 = .ok (.bipush 10, 2) := by decide +kernel
theorem dX9_reader_45 : decode cX9_reader 45 = .ok (.idiv, 1) := by decide +kernel
theorem dX9_reader_46 : decode cX9_reader 46 = .ok (.invokevirtual 152, 3) := by decide +kernel
theorem dX9_reader_49 : decode cX9_reader 49 = .ok (.aload_n 0, 1) := by decide +kernel
theorem dX9_reader_50 : decode cX9_reader 50 = .ok (.iload_n 2, 1) := by decide +kernel
theorem dX9_reader_51 : decode cX9_reader 51 = .ok (.iconst 1, 1) := by decide +kernel
theorem dX9_reader_52 : decode cX9_reader 52 = .ok (.iload_n 1, 1) := by decide +kernel
theorem dX9_reader_53 : decode cX9_reader 53 = .ok (.bipush 10, 2) := by decide +kernel
theorem dX9_reader_55 : decode cX9_reader 55 = .ok (.irem, 1) := by decide +kernel
theorem dX9_reader_56 : decode cX9_reader 56 = .ok (.invokevirtual 152, 3) := by decide +kernel
theorem dX9_reader_59 : decode cX9_reader 59 = .ok (.aload_n 0, 1) := by decide +kernel
theorem dX9_reader_60 : decode cX9_reader 60 = .ok (.iload_n 2, 1) := by decide +kernel
theorem dX9_reader_61 : decode cX9_reader 61 = .ok (.iconst 2, 1) := by decide +kernel
theorem dX9_reader_62 : decode cX9_reader 62 = .ok (.iconst 0, 1) := by decide +kernel
theorem dX9_reader_63 : decode cX9_reader 63 = .ok (.invokevirtual 152, 3) := by decide +kernel
theorem dX9_reader_66 : decode cX9_reader 66 = .ok (.aload_n 0, 1) := by decide +kernel
theorem dX9_reader_67 : decode cX9_reader 67 = .ok (.getfield 7, 3) := by decide +kernel
theorem dX9_reader_70 : decode cX9_reader 70 = .ok (.bipush 7, 2) := by decide +kernel
theorem dX9_reader_72 : decode cX9_reader 72 = .ok (.dup2, 1) := by decide +kernel
theorem dX9_reader_73 : decode cX9_reader 73 = .ok (.iaload, 1) := by decide +kernel
theorem dX9_reader_74 : decode cX9_reader 74 = .ok (.iconst 1, 1) := by decide +kernel
theorem dX9_reader_75 : decode cX9_reader 75 = .ok (.iadd, 1) := by decide +kernel
theorem dX9_reader_76 : decode cX9_reader 76 = .ok (.iastore, 1) := by decide +kernel
theorem dX9_reader_77 : decode cX9_reader 77 = .ok (.iload_n 2, 1) := by decide +kernel
theorem dX9_reader_78 : decode cX9_reader 78 = .ok (.ireturn, 1) := by decide +kernel
set_option maxRecDepth 20000 in
theorem ggX9_readerIs_X9_isReader : GoodIn wsX9_readerIs wsX9_isReader := goodIn_r _ [5, 6, 7, 8, 4, 9, 24, 25, 26, 27, 28, 29, 30, 31, 32, 33, 34, 35, 36, 37, 38, 39, 40, 41, 42, 43, 44, 45, 46, 47, 48] (by decide +kernel) (by decide +kernel)
set_option maxRecDepth 20000 in
theorem gX9_readerIs_X9_isReader : GoodIn wsX9_readerIs (wsV RX9 163 RX9 yX9_isReader wsX9_isReader) := goodIn_app (goodIn_of _ (by decide +kernel)) ggX9_readerIs_X9_isReader
set_option maxRecDepth 20000 in
theorem ggX9_readerIs_X9_in : GoodIn wsX9_readerIs wsX9_in := goodIn_r _ [9] (by decide +kernel) (by decide +kernel)
set_option maxRecDepth 20000 in
theorem gX9_readerIs_X9_in : GoodIn wsX9_readerIs (va_wsS RX9 57 yX9_in wsX9_in) := goodIn_app (goodIn_of _ (by decide +kernel)) ggX9_readerIs_X9_in
set_option maxRecDepth 20000 in
theorem ggX9_readerIs_X9_error : GoodIn wsX9_readerIs wsX9_error := goodIn_r _ [13, 14, 15, 24, 25, 26, 27, 28, 29, 30, 31, 32, 33, 34, 35, 36, 37, 38, 39, 40, 41, 42, 43, 44, 45, 46, 47, 48] (by decide +kernel) (by decide +kernel)
set_option maxRecDepth 20000 in
theorem gX9_readerIs_X9_error : GoodIn wsX9_readerIs (wsV RX9 61 RX9 yX9_error wsX9_error) := goodIn_app (goodIn_of _ (by decide +kernel)) ggX9_readerIs_X9_error
set_option maxRecDepth 20000 in
theorem ggX9_readerIs_X9_looksAt : GoodIn wsX9_readerIs wsX9_looksAt := goodIn_r _ [19, 6, 20, 21, 22, 4, 23, 24, 25, 26, 27, 28, 29, 30, 31, 32, 33, 34, 35, 36, 37, 38, 39, 40, 41, 42, 43, 44, 45, 46, 47, 48] (by decide +kernel) (by decide +kernel)
set_option maxRecDepth 20000 in
theorem gX9_readerIs_X9_looksAt : GoodIn wsX9_readerIs (wsV RX9 143 RX9 yX9_looksAt wsX9_looksAt) := goodIn_app (goodIn_of _ (by decide +kernel)) ggX9_readerIs_X9_looksAt
set_option maxRecDepth 20000 in
theorem ggX9_readerIs_X9_its : GoodIn wsX9_readerIs wsX9_its := goodIn_r _ [23, 6, 24, 25, 26, 27, 28, 29, 30, 31, 32, 33, 34, 35, 36, 37, 38, 39, 40, 41, 42, 43, 44, 45, 46, 47, 48] (by decide +kernel) (by decide +kernel)
set_option maxRecDepth 20000 in
theorem gX9_readerIs_X9_its : GoodIn wsX9_readerIs (wsV RX9 136 RX9 yX9_its wsX9_its) := goodIn_app (goodIn_of _ (by decide +kernel)) ggX9_readerIs_X9_its
theorem dX9_readerIs_0 : decode cX9_readerIs 0 = .ok (.aload_n 0, 1) := by decide +kernel
theorem dX9_readerIs_1 : decode cX9_readerIs 1 = .ok (.iload_n 1, 1) := by decide +kernel
theorem dX9_readerIs_2 : decode cX9_readerIs 2 = .ok (.invokevirtual 163, 3) := by decide +kernel
theorem dX9_readerIs_5 : decode cX9_readerIs 5 = .ok (.ifCond .eq 12, 3) := by decide +kernel
theorem dX9_readerIs_8 : decode cX9_readerIs 8 = .ok (.iload_n 2, 1) := by decide +kernel
theorem dX9_readerIs_9 : decode cX9_readerIs 9 = .ok (.iconst 0, 1) := by decide +kernel
theorem dX9_readerIs_10 : decode cX9_readerIs 10 = .ok (.iconst 3, 1) := by decide +kernel
theorem dX9_readerIs_11 : decode cX9_readerIs 11 = .ok (.invokestatic 57, 3) := by decide +kernel
theorem dX9_readerIs_14 : decode cX9_readerIs 14 = .ok (.ifCond .ne 9, 3) := by decide +kernel
theorem dX9_readerIs_17 : decode cX9_readerIs 17 = .ok (.aload_n 0, 1) := by decide +kernel
theorem dX9_readerIs_18 : decode cX9_readerIs 18 = .ok (.iconst 1, 1) := by decide +kernel
theorem dX9_readerIs_19 : decode cX9_readerIs 19 = .ok (.invokevirtual 61, 3) := by decide +kernel
theorem dX9_readerIs_22 : decode cX9_readerIs 22 = .ok (.ireturn, 1) := by decide +kernel
theorem dX9_readerIs_23 : decode cX9_readerIs 23 = .ok (.iload_n 2, 1) := by decide +kernel
theorem dX9_readerIs_24 : decode cX9_readerIs 24 = .ok (.iconst 3, 1) := by decide +kernel
theorem dX9_readerIs_25 : decode cX9_readerIs 25 = .ok (.if_icmp .ne 11, 3) := by decide +kernel
theorem dX9_readerIs_28 : decode cX9_readerIs 28 = .ok (.aload_n 0, 1) := by decide +kernel
theorem dX9_readerIs_29 : decode cX9_readerIs 29 = .ok (.iload_n 1, 1) := by decide +kernel
theorem dX9_readerIs_30 : decode cX9_readerIs 30 = .ok (.invokevirtual 143, 3) := by decide +kernel
theorem dX9_readerIs_33 : decode cX9_readerIs 33 = .ok (.goto 9, 3) := by decide +kernel
theorem dX9_readerIs_36 : decode cX9_readerIs 36 = .ok (.aload_n 0, 1) := by decide +kernel
theorem dX9_readerIs_37 : decode cX9_readerIs 37 = .ok (.iload_n 1, 1) := by decide +kernel
theorem dX9_readerIs_38 : decode cX9_readerIs 38 = .ok (.iload_n 2, 1) := by decide +kernel
theorem dX9_readerIs_39 : decode cX9_readerIs 39 = .ok (.invokevirtual 136, 3) := by decide +kernel
theorem dX9_readerIs_42 : decode cX9_readerIs 42 = .ok (.ireturn, 1) := by decide +kernel
set_option maxRecDepth 20000 in
theorem ggX9_become_X9_isReader : GoodIn wsX9_become wsX9_isReader := goodIn_r _ [5, 6, 7, 8, 4, 9, 27, 28, 29, 30, 31, 32, 33, 34, 35, 36, 37, 38, 39, 40, 41, 42, 43, 44, 45, 46, 47, 48, 49, 50, 51] (by decide +kernel) (by decide +kernel)
set_option maxRecDepth 20000 in
theorem gX9_become_X9_isReader : GoodIn wsX9_become (wsV RX9 163 RX9 yX9_isReader wsX9_isReader) := goodIn_app (goodIn_of _ (by decide +kernel)) ggX9_become_X9_isReader
set_option maxRecDepth 20000 in
theorem ggX9_become_X9_isKm : GoodIn wsX9_become wsX9_isKm := goodIn_r _ [12, 7, 8, 4, 9] (by decide +kernel) (by decide +kernel)
set_option maxRecDepth 20000 in
theorem gX9_become_X9_isKm : GoodIn wsX9_become (va_wsS RX9 160 yX9_isKm wsX9_isKm) := goodIn_app (goodIn_of _ (by decide +kernel)) ggX9_become_X9_isKm
set_option maxRecDepth 20000 in
theorem ggX9_become_X9_error : GoodIn wsX9_become wsX9_error := goodIn_r _ [16, 17, 18, 27, 28, 29, 30, 31, 32, 33, 34, 35, 36, 37, 38, 39, 40, 41, 42, 43, 44, 45, 46, 47, 48, 49, 50, 51] (by decide +kernel) (by decide +kernel)
set_option maxRecDepth 20000 in
theorem gX9_become_X9_error : GoodIn wsX9_become (wsV RX9 61 RX9 yX9_error wsX9_error) := goodIn_app (goodIn_of _ (by decide +kernel)) ggX9_become_X9_error
set_option maxRecDepth 20000 in
theorem ggX9_become_X9_its : GoodIn wsX9_become wsX9_its := goodIn_r _ [22, 6, 27, 28, 29, 30, 31, 32, 33, 34, 35, 36, 37, 38, 39, 40, 41, 42, 43, 44, 45, 46, 47, 48, 49, 50, 51] (by decide +kernel) (by decide +kernel)
set_option maxRecDepth 20000 in
theorem gX9_become_X9_its : GoodIn wsX9_become (wsV RX9 136 RX9 yX9_its wsX9_its) := goodIn_app (goodIn_of _ (by decide +kernel)) ggX9_become_X9_its
set_option maxRecDepth 20000 in
theorem ggX9_become_X9_lays1 : GoodIn wsX9_become wsX9_lays1 := goodIn_r _ [26, 6, 27, 28, 29, 30, 31, 32, 33, 34, 35, 36, 37, 38, 39, 40, 41, 42, 43, 44, 45, 46, 47, 48, 49, 50, 51] (by decide +kernel) (by decide +kernel)
set_option maxRecDepth 20000 in
theorem gX9_become_X9_lays1 : GoodIn wsX9_become (wsV RX9 152 RX9 yX9_lays1 wsX9_lays1) := goodIn_app (goodIn_of _ (by decide +kernel)) ggX9_become_X9_lays1
theorem dX9_become_0 : decode cX9_become 0 = .ok (.aload_n 0, 1) := by decide +kernel
theorem dX9_become_1 : decode cX9_become 1 = .ok (.iload_n 1, 1) := by decide +kernel
theorem dX9_become_2 : decode cX9_become 2 = .ok (.invokevirtual 163, 3) := by decide +kernel
theorem dX9_become_5 : decode cX9_become 5 = .ok (.ifCond .eq 10, 3) := by decide +kernel
theorem dX9_become_8 : decode cX9_become 8 = .ok (.iload_n 2, 1) := by decide +kernel
theorem dX9_become_9 : decode cX9_become 9 = .ok (.invokestatic 160, 3) := by decide +kernel
theorem dX9_become_12 : decode cX9_become 12 = .ok (.ifCond .ne 9, 3) := by decide +kernel
theorem dX9_become_15 : decode cX9_become 15 = .ok (.aload_n 0, 1) := by decide +kernel
theorem dX9_become_16 : decode cX9_become 16 = .ok (.iconst 1, 1) := by decide +kernel
theorem dX9_become_17 : decode cX9_become 17 = .ok (.invokevirtual 61, 3) := by decide +kernel
theorem dX9_become_20 : decode cX9_become 20 = .ok (.ireturn, 1) := by decide +kernel
theorem dX9_become_21 : decode cX9_become 21 = .ok (.aload_n 0, 1) := by decide +kernel
theorem dX9_become_22 : decode cX9_become 22 = .ok (.iload_n 1, 1) := by decide +kernel
theorem dX9_become_23 : decode cX9_become 23 = .ok (.iconst 0, 1) := by decide +kernel
theorem dX9_become_24 : decode cX9_become 24 = .ok (.invokevirtual 136, 3) := by decide +kernel
theorem dX9_become_27 : decode cX9_become 27 = .ok (.istore_n 3, 1) := by decide +kernel
theorem dX9_become_28 : decode cX9_become 28 = .ok (.aload_n 0, 1) := by decide +kernel
theorem dX9_become_29 : decode cX9_become 29 = .ok (.iload_n 1, 1) := by decide +kernel
theorem dX9_become_30 : decode cX9_become 30 = .ok (.iconst 0, 1) := by decide +kernel
theorem dX9_become_31 : decode cX9_become 31 = .ok (.iload_n 2, 1) := by decide +kernel
theorem dX9_become_32 : decode cX9_become 32 = .ok (.bipush 10, 2) := by decide +kernel
theorem dX9_become_34 : decode cX9_become 34 = .ok (.idiv, 1) := by decide +kernel
theorem dX9_become_35 : decode cX9_become 35 = .ok (.invokevirtual 152, 3) := by decide +kernel
theorem dX9_become_38 : decode cX9_become 38 = .ok (.aload_n 0, 1) := by decide +kernel
theorem dX9_become_39 : decode cX9_become 39 = .ok (.iload_n 1, 1) := by decide +kernel
theorem dX9_become_40 : decode cX9_become 40 = .ok (.iconst 1, 1) := by decide +kernel
theorem dX9_become_41 : decode cX9_become 41 = .ok (.iload_n 2, 1) := by decide +kernel
theorem dX9_become_42 : decode cX9_become 42 = .ok (.bipush 10, 2) := by decide +kernel
theorem dX9_become_44 : decode cX9_become 44 = .ok (.irem, 1) := by decide +kernel
theorem dX9_become_45 : decode cX9_become 45 = .ok (.invokevirtual 152, 3) := by decide +kernel
theorem dX9_become_48 : decode cX9_become 48 = .ok (.iload_n 3, 1) := by decide +kernel
theorem dX9_become_49 : decode cX9_become 49 = .ok (.ireturn, 1) := by decide +kernel
set_option maxRecDepth 20000 in
theorem ggX9_as_X9_isReader : GoodIn wsX9_as wsX9_isReader := goodIn_r _ [5, 6, 7, 8, 4, 9, 23, 24, 25, 26, 27, 28, 29, 30, 31, 32, 33, 34, 35, 36, 37, 38, 39, 40, 41, 42, 43, 44, 45, 46, 47] (by decide +kernel) (by decide +kernel)
set_option maxRecDepth 20000 in
theorem gX9_as_X9_isReader : GoodIn wsX9_as (wsV RX9 163 RX9 yX9_isReader wsX9_isReader) := goodIn_app (goodIn_of _ (by decide +kernel)) ggX9_as_X9_isReader
set_option maxRecDepth 20000 in
theorem ggX9_as_X9_in : GoodIn wsX9_as wsX9_in := goodIn_r _ [9] (by decide +kernel) (by decide +kernel)
set_option maxRecDepth 20000 in
theorem gX9_as_X9_in : GoodIn wsX9_as (va_wsS RX9 57 yX9_in wsX9_in) := goodIn_app (goodIn_of _ (by decide +kernel)) ggX9_as_X9_in
set_option maxRecDepth 20000 in
theorem ggX9_as_X9_error : GoodIn wsX9_as wsX9_error := goodIn_r _ [13, 14, 15, 23, 24, 25, 26, 27, 28, 29, 30, 31, 32, 33, 34, 35, 36, 37, 38, 39, 40, 41, 42, 43, 44, 45, 46, 47] (by decide +kernel) (by decide +kernel)
set_option maxRecDepth 20000 in
theorem gX9_as_X9_error : GoodIn wsX9_as (wsV RX9 61 RX9 yX9_error wsX9_error) := goodIn_app (goodIn_of _ (by decide +kernel)) ggX9_as_X9_error
set_option maxRecDepth 20000 in
theorem ggX9_as_X9_its : GoodIn wsX9_as wsX9_its := goodIn_r _ [19, 6, 23, 24, 25, 26, 27, 28, 29, 30, 31, 32, 33, 34, 35, 36, 37, 38, 39, 40, 41, 42, 43, 44, 45, 46, 47] (by decide +kernel) (by decide +kernel)
set_option maxRecDepth 20000 in
theorem gX9_as_X9_its : GoodIn wsX9_as (wsV RX9 136 RX9 yX9_its wsX9_its) := goodIn_app (goodIn_of _ (by decide +kernel)) ggX9_as_X9_its
set_option maxRecDepth 20000 in
theorem ggX9_as_X9_above : GoodIn wsX9_as wsX9_above := goodIn_r _ [22] (by decide +kernel) (by decide +kernel)
set_option maxRecDepth 20000 in
theorem gX9_as_X9_above : GoodIn wsX9_as (va_wsS RX9 166 yX9_above wsX9_above) := goodIn_app (goodIn_of _ (by decide +kernel)) ggX9_as_X9_above
theorem dX9_as_0 : decode cX9_as 0 = .ok (.aload_n 0, 1) := by decide +kernel
theorem dX9_as_1 : decode cX9_as 1 = .ok (.iload_n 1, 1) := by decide +kernel
theorem dX9_as_2 : decode cX9_as 2 = .ok (.invokevirtual 163, 3) := by decide +kernel
theorem dX9_as_5 : decode cX9_as 5 = .ok (.ifCond .eq 13, 3) := by decide +kernel
theorem dX9_as_8 : decode cX9_as 8 = .ok (.iload_n 2, 1) := by decide +kernel
theorem dX9_as_9 : decode cX9_as 9 = .ok (.iconst 0, 1) := by decide +kernel
theorem dX9_as_10 : decode cX9_as 10 = .ok (.bipush 6, 2) := by decide +kernel
theorem dX9_as_12 : decode cX9_as 12 = .ok (.invokestatic 57, 3) := by decide +kernel
theorem dX9_as_15 : decode cX9_as 15 = .ok (.ifCond .ne 9, 3) := by decide +kernel
theorem dX9_as_18 : decode cX9_as 18 = .ok (.aload_n 0, 1) := by decide +kernel
theorem dX9_as_19 : decode cX9_as 19 = .ok (.iconst 1, 1) := by decide +kernel
theorem dX9_as_20 : decode cX9_as 20 = .ok (.invokevirtual 61, 3) := by decide +kernel
theorem dX9_as_23 : decode cX9_as 23 = .ok (.ireturn, 1) := by decide +kernel
theorem dX9_as_24 : decode cX9_as 24 = .ok (.aload_n 0, 1) := by decide +kernel
theorem dX9_as_25 : decode cX9_as 25 = .ok (.iload_n 1, 1) := by decide +kernel
theorem dX9_as_26 : decode cX9_as 26 = .ok (.iconst 0, 1) := by decide +kernel
theorem dX9_as_27 : decode cX9_as 27 = .ok (.invokevirtual 136, 3) := by decide +kernel
theorem dX9_as_30 : decode cX9_as 30 = .ok (.istore_n 3, 1) := by decide +kernel
theorem dX9_as_31 : decode cX9_as 31 = .ok (.iload_n 2, 1) := by decide +kernel
theorem dX9_as_32 : decode cX9_as 32 = .ok (.ifCond .eq 16, 3) := by decide +kernel
theorem dX9_as_35 : decode cX9_as 35 = .ok (.iload_n 3, 1) := by decide +kernel
theorem dX9_as_36 : decode cX9_as 36 = .ok (.iload_n 2, 1) := by decide +kernel
theorem dX9_as_37 : decode cX9_as 37 = .ok (.if_icmp .eq 11, 3) := by decide +kernel
theorem dX9_as_40 : decode cX9_as 40 = .ok (.iload_n 3, 1) := by decide +kernel
theorem dX9_as_41 : decode cX9_as 41 = .ok (.invokestatic 166, 3) := by decide +kernel
theorem dX9_as_44 : decode cX9_as 44 = .ok (.iload_n 2, 1) := by decide +kernel
theorem dX9_as_45 : decode cX9_as 45 = .ok (.if_icmp .ne 7, 3) := by decide +kernel
theorem dX9_as_48 : decode cX9_as 48 = .ok (.iconst 1, 1) := by decide +kernel
theorem dX9_as_49 : decode cX9_as 49 = .ok (.goto 4, 3) := by decide +kernel
theorem dX9_as_52 : decode cX9_as 52 = .ok (.iconst 0, 1) := by decide +kernel
theorem dX9_as_53 : decode cX9_as 53 = .ok (.istore 4, 2) := by decide +kernel
theorem dX9_as_55 : decode cX9_as 55 = .ok (.iload 4, 2) := by decide +kernel
theorem dX9_as_57 : decode cX9_as 57 = .ok (.ifCond .eq 12, 3) := by decide +kernel
theorem dX9_as_60 : decode cX9_as 60 = .ok (.aload_n 0, 1) := by decide +kernel
theorem dX9_as_61 : decode cX9_as 61 = .ok (.iload_n 1, 1) := by decide +kernel
theorem dX9_as_62 : decode cX9_as 62 = .ok (.iconst 1, 1) := by decide +kernel
theorem dX9_as_63 : decode cX9_as 63 = .ok (.invokevirtual 136, 3) := by decide +kernel
theorem dX9_as_66 : decode cX9_as 66 = .ok (.goto 8, 3) := by decide +kernel
theorem dX9_as_69 : decode cX9_as 69 = .ok (.aload_n 0, 1) := by decide +kernel
theorem dX9_as_70 : decode cX9_as 70 = .ok (.iconst 5, 1) := by decide +kernel
theorem dX9_as_71 : decode cX9_as 71 = .ok (.invokevirtual 61, 3) := by decide +kernel
theorem dX9_as_74 : decode cX9_as 74 = .ok (.ireturn, 1) := by decide +kernel
set_option maxRecDepth 20000 in
theorem ggX9_marked_X9_isReader : GoodIn wsX9_marked wsX9_isReader := goodIn_r _ [5, 6, 7, 8, 4, 9, 20, 21, 22, 23, 24, 25, 26, 27, 28, 29, 30, 31, 32, 33, 34, 35, 36, 37, 38, 39, 40, 41, 42, 43, 44] (by decide +kernel) (by decide +kernel)
set_option maxRecDepth 20000 in
theorem gX9_marked_X9_isReader : GoodIn wsX9_marked (wsV RX9 163 RX9 yX9_isReader wsX9_isReader) := goodIn_app (goodIn_of _ (by decide +kernel)) ggX9_marked_X9_isReader
set_option maxRecDepth 20000 in
theorem ggX9_marked_X9_in : GoodIn wsX9_marked wsX9_in := goodIn_r _ [9] (by decide +kernel) (by decide +kernel)
set_option maxRecDepth 20000 in
theorem gX9_marked_X9_in : GoodIn wsX9_marked (va_wsS RX9 57 yX9_in wsX9_in) := goodIn_app (goodIn_of _ (by decide +kernel)) ggX9_marked_X9_in
set_option maxRecDepth 20000 in
theorem ggX9_marked_X9_change1 : GoodIn wsX9_marked wsX9_change1 := goodIn_r _ [13, 6, 20, 21, 22, 23, 24, 25, 26, 27, 28, 29, 30, 31, 32, 33, 34, 35, 36, 37, 38, 39, 40, 41, 42, 43, 44] (by decide +kernel) (by decide +kernel)
set_option maxRecDepth 20000 in
theorem gX9_marked_X9_change1 : GoodIn wsX9_marked (wsV RX9 169 RX9 yX9_change1 wsX9_change1) := goodIn_app (goodIn_of _ (by decide +kernel)) ggX9_marked_X9_change1
set_option maxRecDepth 20000 in
theorem ggX9_marked_X9_error : GoodIn wsX9_marked wsX9_error := goodIn_r _ [17, 18, 19, 20, 21, 22, 23, 24, 25, 26, 27, 28, 29, 30, 31, 32, 33, 34, 35, 36, 37, 38, 39, 40, 41, 42, 43, 44] (by decide +kernel) (by decide +kernel)
set_option maxRecDepth 20000 in
theorem gX9_marked_X9_error : GoodIn wsX9_marked (wsV RX9 61 RX9 yX9_error wsX9_error) := goodIn_app (goodIn_of _ (by decide +kernel)) ggX9_marked_X9_error
theorem dX9_marked_0 : decode cX9_marked 0 = .ok (.aload_n 0, 1) := by decide +kernel
theorem dX9_marked_1 : decode cX9_marked 1 = .ok (.iload_n 1, 1) := by decide +kernel
theorem dX9_marked_2 : decode cX9_marked 2 = .ok (.invokevirtual 163, 3) := by decide +kernel
theorem dX9_marked_5 : decode cX9_marked 5 = .ok (.ifCond .eq 30, 3) := by decide +kernel
theorem dX9_marked_8 : decode cX9_marked 8 = .ok (.iload_n 2, 1) := by decide +kernel
theorem dX9_marked_9 : decode cX9_marked 9 = .ok (.iconst 0, 1) := by decide +kernel
theorem dX9_marked_10 : decode cX9_marked 10 = .ok (.sipush 9999, 3) := by decide +kernel
theorem dX9_marked_13 : decode cX9_marked 13 = .ok (.invokestatic 57, 3) := by decide +kernel
theorem dX9_marked_16 : decode cX9_marked 16 = .ok (.ifCond .eq 19, 3) := by decide +kernel
theorem dX9_marked_19 : decode cX9_marked 19 = .ok (.aload_n 0, 1) := by decide +kernel
theorem dX9_marked_20 : decode cX9_marked 20 = .ok (.bipush 14, 2) := by decide +kernel
theorem dX9_marked_22 : decode cX9_marked 22 = .ok (.iconst 3, 1) := by decide +kernel
theorem dX9_marked_23 : decode cX9_marked 23 = .ok (.iload_n 1, 1) := by decide +kernel
theorem dX9_marked_24 : decode cX9_marked 24 = .ok (.imul, 1) := by decide +kernel
theorem dX9_marked_25 : decode cX9_marked 25 = .ok (.iadd, 1) := by decide +kernel
theorem dX9_marked_26 : decode cX9_marked 26 = .ok (.iconst 2, 1) := by decide +kernel
theorem dX9_marked_27 : decode cX9_marked 27 = .ok (.iadd, 1) := by decide +kernel
theorem dX9_marked_28 : decode cX9_marked 28 = .ok (.iload_n 2, 1) := by decide +kernel
theorem dX9_marked_29 : decode cX9_marked 29 = .ok (.invokevirtual 169, 3) := by decide +kernel
theorem dX9_marked_32 : decode cX9_marked 32 = .ok (.goto 8, 3) := by decide +kernel
theorem dX9_marked_35 : decode cX9_marked 35 = .ok (.aload_n 0, 1) := by decide +kernel
theorem dX9_marked_36 : decode cX9_marked 36 = .ok (.iconst 1, 1) := by decide +kernel
theorem dX9_marked_37 : decode cX9_marked 37 = .ok (.invokevirtual 61, 3) := by decide +kernel
theorem dX9_marked_40 : decode cX9_marked 40 = .ok (.ireturn, 1) := by decide +kernel
set_option maxRecDepth 20000 in
theorem ggX9_isByte_X9_in : GoodIn wsX9_isByte wsX9_in := goodIn_r _ [4] (by decide +kernel) (by decide +kernel)
set_option maxRecDepth 20000 in
theorem gX9_isByte_X9_in : GoodIn wsX9_isByte (va_wsS RX9 57 yX9_in wsX9_in) := goodIn_app (goodIn_of _ (by decide +kernel)) ggX9_isByte_X9_in
theorem dX9_isByte_0 : decode cX9_isByte 0 = .ok (.iload_n 0, 1) := by decide +kernel
theorem dX9_isByte_1 : decode cX9_isByte 1 = .ok (.iconst 0, 1) := by decide +kernel
theorem dX9_isByte_2 : decode cX9_isByte 2 = .ok (.sipush 255, 3) := by decide +kernel
theorem dX9_isByte_5 : decode cX9_isByte 5 = .ok (.invokestatic 57, 3) := by decide +kernel
theorem dX9_isByte_8 : decode cX9_isByte 8 = .ok (.ireturn, 1) := by decide +kernel
set_option maxRecDepth 20000 in
theorem ggX9_knows_X9_isByte : GoodIn wsX9_knows wsX9_isByte := goodIn_r _ [4, 5, 6, 3, 7] (by decide +kernel) (by decide +kernel)
set_option maxRecDepth 20000 in
theorem gX9_knows_X9_isByte : GoodIn wsX9_knows (va_wsS RX9 172 yX9_isByte wsX9_isByte) := goodIn_app (goodIn_of _ (by decide +kernel)) ggX9_knows_X9_isByte
set_option maxRecDepth 20000 in
theorem ggX9_knows_X9_change1 : GoodIn wsX9_knows wsX9_change1 := goodIn_r _ [11, 12, 19, 20, 21, 22, 23, 24, 25, 26, 27, 28, 29, 30, 31, 32, 33, 34, 35, 36, 37, 38, 39, 40, 41, 42, 43] (by decide +kernel) (by decide +kernel)
set_option maxRecDepth 20000 in
theorem gX9_knows_X9_change1 : GoodIn wsX9_knows (wsV RX9 169 RX9 yX9_change1 wsX9_change1) := goodIn_app (goodIn_of _ (by decide +kernel)) ggX9_knows_X9_change1
set_option maxRecDepth 20000 in
theorem ggX9_knows_X9_error : GoodIn wsX9_knows wsX9_error := goodIn_r _ [16, 17, 18, 19, 20, 21, 22, 23, 24, 25, 26, 27, 28, 29, 30, 31, 32, 33, 34, 35, 36, 37, 38, 39, 40, 41, 42, 43] (by decide +kernel) (by decide +kernel)
set_option maxRecDepth 20000 in
theorem gX9_knows_X9_error : GoodIn wsX9_knows (wsV RX9 61 RX9 yX9_error wsX9_error) := goodIn_app (goodIn_of _ (by decide +kernel)) ggX9_knows_X9_error
theorem dX9_knows_0 : decode cX9_knows 0 = .ok (.iload_n 1, 1) := by decide +kernel
theorem dX9_knows_1 : decode cX9_knows 1 = .ok (.invokestatic 172, 3) := by decide +kernel
theorem dX9_knows_4 : decode cX9_knows 4 = .ok (.ifCond .eq 12, 3) := by decide +kernel
theorem dX9_knows_7 : decode cX9_knows 7 = .ok (.aload_n 0, 1) := by decide +kernel
theorem dX9_knows_8 : decode cX9_knows 8 = .ok (.iconst 1, 1) := by decide +kernel
theorem dX9_knows_9 : decode cX9_knows 9 = .ok (.iload_n 1, 1) := by decide +kernel
theorem dX9_knows_10 : decode cX9_knows 10 = .ok (.invokevirtual 169, 3) := by decide +kernel
theorem dX9_knows_13 : decode cX9_knows 13 = .ok (.goto 8, 3) := by decide +kernel
theorem dX9_knows_16 : decode cX9_knows 16 = .ok (.aload_n 0, 1) := by decide +kernel
theorem dX9_knows_17 : decode cX9_knows 17 = .ok (.iconst 1, 1) := by decide +kernel
theorem dX9_knows_18 : decode cX9_knows 18 = .ok (.invokevirtual 61, 3) := by decide +kernel
theorem dX9_knows_21 : decode cX9_knows 21 = .ok (.ireturn, 1) := by decide +kernel
set_option maxRecDepth 20000 in
theorem ggX9_jawed_X9_isLion : GoodIn wsX9_jawed wsX9_isLion := goodIn_r _ [4, 5, 6, 3, 7] (by decide +kernel) (by decide +kernel)
set_option maxRecDepth 20000 in
theorem gX9_jawed_X9_isLion : GoodIn wsX9_jawed (va_wsS RX9 175 yX9_isLion wsX9_isLion) := goodIn_app (goodIn_of _ (by decide +kernel)) ggX9_jawed_X9_isLion
set_option maxRecDepth 20000 in
theorem ggX9_jawed_X9_in : GoodIn wsX9_jawed wsX9_in := goodIn_r _ [7] (by decide +kernel) (by decide +kernel)
set_option maxRecDepth 20000 in
theorem gX9_jawed_X9_in : GoodIn wsX9_jawed (va_wsS RX9 57 yX9_in wsX9_in) := goodIn_app (goodIn_of _ (by decide +kernel)) ggX9_jawed_X9_in
set_option maxRecDepth 20000 in
theorem ggX9_jawed_X9_change1 : GoodIn wsX9_jawed wsX9_change1 := goodIn_r _ [11, 12, 19, 20, 21, 22, 23, 24, 25, 26, 27, 28, 29, 30, 31, 32, 33, 34, 35, 36, 37, 38, 39, 40, 41, 42, 43] (by decide +kernel) (by decide +kernel)
set_option maxRecDepth 20000 in
theorem gX9_jawed_X9_change1 : GoodIn wsX9_jawed (wsV RX9 169 RX9 yX9_change1 wsX9_change1) := goodIn_app (goodIn_of _ (by decide +kernel)) ggX9_jawed_X9_change1
set_option maxRecDepth 20000 in
theorem ggX9_jawed_X9_error : GoodIn wsX9_jawed wsX9_error := goodIn_r _ [16, 17, 18, 19, 20, 21, 22, 23, 24, 25, 26, 27, 28, 29, 30, 31, 32, 33, 34, 35, 36, 37, 38, 39, 40, 41, 42, 43] (by decide +kernel) (by decide +kernel)
set_option maxRecDepth 20000 in
theorem gX9_jawed_X9_error : GoodIn wsX9_jawed (wsV RX9 61 RX9 yX9_error wsX9_error) := goodIn_app (goodIn_of _ (by decide +kernel)) ggX9_jawed_X9_error
theorem dX9_jawed_0 : decode cX9_jawed 0 = .ok (.iload_n 1, 1) := by decide +kernel
theorem dX9_jawed_1 : decode cX9_jawed 1 = .ok (.invokestatic 175, 3) := by decide +kernel
theorem dX9_jawed_4 : decode cX9_jawed 4 = .ok (.ifCond .eq 25, 3) := by decide +kernel
theorem dX9_jawed_7 : decode cX9_jawed 7 = .ok (.iload_n 2, 1) := by decide +kernel
theorem dX9_jawed_8 : decode cX9_jawed 8 = .ok (.iconst 0, 1) := by decide +kernel
theorem dX9_jawed_9 : decode cX9_jawed 9 = .ok (.sipush 359, 3) := by decide +kernel
theorem dX9_jawed_12 : decode cX9_jawed 12 = .ok (.invokestatic 57, 3) := by decide +kernel
theorem dX9_jawed_15 : decode cX9_jawed 15 = .ok (.ifCond .eq 14, 3) := by decide +kernel
theorem dX9_jawed_18 : decode cX9_jawed 18 = .ok (.aload_n 0, 1) := by decide +kernel
theorem dX9_jawed_19 : decode cX9_jawed 19 = .ok (.iconst 2, 1) := by decide +kernel
theorem dX9_jawed_20 : decode cX9_jawed 20 = .ok (.iload_n 1, 1) := by decide +kernel
theorem dX9_jawed_21 : decode cX9_jawed 21 = .ok (.iadd, 1) := by decide +kernel
theorem dX9_jawed_22 : decode cX9_jawed 22 = .ok (.iload_n 2, 1) := by decide +kernel
theorem dX9_jawed_23 : decode cX9_jawed 23 = .ok (.invokevirtual 169, 3) := by decide +kernel
theorem dX9_jawed_26 : decode cX9_jawed 26 = .ok (.goto 8, 3) := by decide +kernel
theorem dX9_jawed_29 : decode cX9_jawed 29 = .ok (.aload_n 0, 1) := by decide +kernel
theorem dX9_jawed_30 : decode cX9_jawed 30 = .ok (.iconst 1, 1) := by decide +kernel
theorem dX9_jawed_31 : decode cX9_jawed 31 = .ok (.invokevirtual 61, 3) := by decide +kernel
theorem dX9_jawed_34 : decode cX9_jawed 34 = .ok (.ireturn, 1) := by decide +kernel
set_option maxRecDepth 20000 in
theorem ggX9_happens_X9_in : GoodIn wsX9_happens wsX9_in := goodIn_r _ [4] (by decide +kernel) (by decide +kernel)
set_option maxRecDepth 20000 in
theorem gX9_happens_X9_in : GoodIn wsX9_happens (va_wsS RX9 57 yX9_in wsX9_in) := goodIn_app (goodIn_of _ (by decide +kernel)) ggX9_happens_X9_in
set_option maxRecDepth 20000 in
theorem ggX9_happens_X9_isByte : GoodIn wsX9_happens wsX9_isByte := goodIn_r _ [7, 1, 2, 3, 4] (by decide +kernel) (by decide +kernel)
set_option maxRecDepth 20000 in
theorem gX9_happens_X9_isByte : GoodIn wsX9_happens (va_wsS RX9 172 yX9_isByte wsX9_isByte) := goodIn_app (goodIn_of _ (by decide +kernel)) ggX9_happens_X9_isByte
set_option maxRecDepth 20000 in
theorem ggX9_happens_X9_change1 : GoodIn wsX9_happens wsX9_change1 := goodIn_r _ [11, 12, 19, 20, 21, 22, 23, 24, 25, 26, 27, 28, 29, 30, 31, 32, 33, 34, 35, 36, 37, 38, 39, 40, 41, 42, 43] (by decide +kernel) (by decide +kernel)
set_option maxRecDepth 20000 in
theorem gX9_happens_X9_change1 : GoodIn wsX9_happens (wsV RX9 169 RX9 yX9_change1 wsX9_change1) := goodIn_app (goodIn_of _ (by decide +kernel)) ggX9_happens_X9_change1
set_option maxRecDepth 20000 in
theorem ggX9_happens_X9_error : GoodIn wsX9_happens wsX9_error := goodIn_r _ [16, 17, 18, 19, 20, 21, 22, 23, 24, 25, 26, 27, 28, 29, 30, 31, 32, 33, 34, 35, 36, 37, 38, 39, 40, 41, 42, 43] (by decide +kernel) (by decide +kernel)
set_option maxRecDepth 20000 in
theorem gX9_happens_X9_error : GoodIn wsX9_happens (wsV RX9 61 RX9 yX9_error wsX9_error) := goodIn_app (goodIn_of _ (by decide +kernel)) ggX9_happens_X9_error
theorem dX9_happens_0 : decode cX9_happens 0 = .ok (.iload_n 1, 1) := by decide +kernel
theorem dX9_happens_1 : decode cX9_happens 1 = .ok (.iconst 0, 1) := by decide +kernel
theorem dX9_happens_2 : decode cX9_happens 2 = .ok (.iconst 5, 1) := by decide +kernel
theorem dX9_happens_3 : decode cX9_happens 3 = .ok (.invokestatic 57, 3) := by decide +kernel
theorem dX9_happens_6 : decode cX9_happens 6 = .ok (.ifCond .eq 22, 3) := by decide +kernel
theorem dX9_happens_9 : decode cX9_happens 9 = .ok (.iload_n 2, 1) := by decide +kernel
theorem dX9_happens_10 : decode cX9_happens 10 = .ok (.invokestatic 172, 3) := by decide +kernel
theorem dX9_happens_13 : decode cX9_happens 13 = .ok (.ifCond .eq 15, 3) := by decide +kernel
theorem dX9_happens_16 : decode cX9_happens 16 = .ok (.aload_n 0, 1) := by decide +kernel
theorem dX9_happens_17 : decode cX9_happens 17 = .ok (.bipush 8, 2) := by decide +kernel
theorem dX9_happens_19 : decode cX9_happens 19 = .ok (.iload_n 1, 1) := by decide +kernel
theorem dX9_happens_20 : decode cX9_happens 20 = .ok (.iadd, 1) := by decide +kernel
theorem dX9_happens_21 : decode cX9_happens 21 = .ok (.iload_n 2, 1) := by decide +kernel
theorem dX9_happens_22 : decode cX9_happens 22 = .ok (.invokevirtual 169, 3) := by decide +kernel
theorem dX9_happens_25 : decode cX9_happens 25 = .ok (.goto 8, 3) := by decide +kernel
theorem dX9_happens_28 : decode cX9_happens 28 = .ok (.aload_n 0, 1) := by decide +kernel
theorem dX9_happens_29 : decode cX9_happens 29 = .ok (.iconst 1, 1) := by decide +kernel
theorem dX9_happens_30 : decode cX9_happens 30 = .ok (.invokevirtual 61, 3) := by decide +kernel
theorem dX9_happens_33 : decode cX9_happens 33 = .ok (.ireturn, 1) := by decide +kernel
set_option maxRecDepth 20000 in
theorem ggX9_sign_X9_isLion : GoodIn wsX9_sign wsX9_isLion := goodIn_r _ [4, 5, 6, 3, 7] (by decide +kernel) (by decide +kernel)
set_option maxRecDepth 20000 in
theorem gX9_sign_X9_isLion : GoodIn wsX9_sign (va_wsS RX9 175 yX9_isLion wsX9_isLion) := goodIn_app (goodIn_of _ (by decide +kernel)) ggX9_sign_X9_isLion
set_option maxRecDepth 20000 in
theorem ggX9_sign_X9_isByte : GoodIn wsX9_sign wsX9_isByte := goodIn_r _ [10, 5, 6, 3, 7] (by decide +kernel) (by decide +kernel)
set_option maxRecDepth 20000 in
theorem gX9_sign_X9_isByte : GoodIn wsX9_sign (va_wsS RX9 172 yX9_isByte wsX9_isByte) := goodIn_app (goodIn_of _ (by decide +kernel)) ggX9_sign_X9_isByte
set_option maxRecDepth 20000 in
theorem ggX9_sign_X9_turnOf : GoodIn wsX9_sign wsX9_turnOf := goodIn_r _ [14, 15, 16, 17, 18, 3, 19, 20, 21, 22, 23, 24, 25, 26, 27, 28, 29, 30, 31, 32, 33, 34, 35, 36, 37, 38, 39, 40, 41, 42, 49, 50, 51, 52, 53, 54, 55, 56, 57, 58, 59, 60, 61, 62, 63, 64, 65, 66, 67, 68, 69, 70, 71, 72, 73] (by decide +kernel) (by decide +kernel)
set_option maxRecDepth 20000 in
theorem gX9_sign_X9_turnOf : GoodIn wsX9_sign (wsV RX9 140 RX9 yX9_turnOf wsX9_turnOf) := goodIn_app (goodIn_of _ (by decide +kernel)) ggX9_sign_X9_turnOf
set_option maxRecDepth 20000 in
theorem ggX9_sign_X9_error : GoodIn wsX9_sign wsX9_error := goodIn_r _ [46, 47, 48, 49, 50, 51, 52, 53, 54, 55, 56, 57, 58, 59, 60, 61, 62, 63, 64, 65, 66, 67, 68, 69, 70, 71, 72, 73] (by decide +kernel) (by decide +kernel)
set_option maxRecDepth 20000 in
theorem gX9_sign_X9_error : GoodIn wsX9_sign (wsV RX9 61 RX9 yX9_error wsX9_error) := goodIn_app (goodIn_of _ (by decide +kernel)) ggX9_sign_X9_error
theorem dX9_sign_0 : decode cX9_sign 0 = .ok (.iload_n 1, 1) := by decide +kernel
theorem dX9_sign_1 : decode cX9_sign 1 = .ok (.invokestatic 175, 3) := by decide +kernel
theorem dX9_sign_4 : decode cX9_sign 4 = .ok (.ifCond .eq 19, 3) := by decide +kernel
theorem dX9_sign_7 : decode cX9_sign 7 = .ok (.iload_n 2, 1) := by decide +kernel
theorem dX9_sign_8 : decode cX9_sign 8 = .ok (.invokestatic 172, 3) := by decide +kernel
theorem dX9_sign_11 : decode cX9_sign 11 = .ok (.ifCond .eq 12, 3) := by decide +kernel
theorem dX9_sign_14 : decode cX9_sign 14 = .ok (.aload_n 0, 1) := by decide +kernel
theorem dX9_sign_15 : decode cX9_sign 15 = .ok (.iload_n 1, 1) := by decide +kernel
theorem dX9_sign_16 : decode cX9_sign 16 = .ok (.iload_n 2, 1) := by decide +kernel
theorem dX9_sign_17 : decode cX9_sign 17 = .ok (.invokevirtual 140, 3) := by decide +kernel
theorem dX9_sign_20 : decode cX9_sign 20 = .ok (.goto 8, 3) := by decide +kernel
theorem dX9_sign_23 : decode cX9_sign 23 = .ok (.aload_n 0, 1) := by decide +kernel
theorem dX9_sign_24 : decode cX9_sign 24 = .ok (.iconst 1, 1) := by decide +kernel
theorem dX9_sign_25 : decode cX9_sign 25 = .ok (.invokevirtual 61, 3) := by decide +kernel
theorem dX9_sign_28 : decode cX9_sign 28 = .ok (.ireturn, 1) := by decide +kernel
set_option maxRecDepth 20000 in
theorem ggX9_law_X9_in : GoodIn wsX9_law wsX9_in := goodIn_r _ [5] (by decide +kernel) (by decide +kernel)
set_option maxRecDepth 20000 in
theorem gX9_law_X9_in : GoodIn wsX9_law (va_wsS RX9 57 yX9_in wsX9_in) := goodIn_app (goodIn_of _ (by decide +kernel)) ggX9_law_X9_in
set_option maxRecDepth 20000 in
theorem ggX9_law_X9_error : GoodIn wsX9_law wsX9_error := goodIn_r _ [9, 10, 11, 28, 29, 30, 31, 32, 33, 34, 35, 36, 37, 38, 39, 40, 41, 42, 43, 44, 45, 46, 47, 48, 49, 50, 51, 52] (by decide +kernel) (by decide +kernel)
set_option maxRecDepth 20000 in
theorem gX9_law_X9_error : GoodIn wsX9_law (wsV RX9 61 RX9 yX9_error wsX9_error) := goodIn_app (goodIn_of _ (by decide +kernel)) ggX9_law_X9_error
set_option maxRecDepth 20000 in
theorem ggX9_law_X9_hasText : GoodIn wsX9_law wsX9_hasText := goodIn_r _ [15, 16, 28, 29, 30, 31, 32, 33, 34, 35, 36, 37, 38, 39, 40, 41, 42, 43, 44, 45, 46, 47, 48, 49, 50, 51, 52] (by decide +kernel) (by decide +kernel)
set_option maxRecDepth 20000 in
theorem gX9_law_X9_hasText : GoodIn wsX9_law (wsV RX9 114 RX9 yX9_hasText wsX9_hasText) := goodIn_app (goodIn_of _ (by decide +kernel)) ggX9_law_X9_hasText
set_option maxRecDepth 20000 in
theorem ggX9_law_X9_worked : GoodIn wsX9_law wsX9_worked := goodIn_r _ [20, 16, 21, 1, 22, 23, 4, 24, 28, 29, 30, 31, 32, 33, 34, 35, 36, 37, 38, 39, 40, 41, 42, 43, 44, 45, 46, 47, 48, 49, 50, 51, 52] (by decide +kernel) (by decide +kernel)
set_option maxRecDepth 20000 in
theorem gX9_law_X9_worked : GoodIn wsX9_law (wsV RX9 121 RX9 yX9_worked wsX9_worked) := goodIn_app (goodIn_of _ (by decide +kernel)) ggX9_law_X9_worked
set_option maxRecDepth 20000 in
theorem ggX9_law_X9_held : GoodIn wsX9_law wsX9_held := goodIn_r _ [27] (by decide +kernel) (by decide +kernel)
set_option maxRecDepth 20000 in
theorem gX9_law_X9_held : GoodIn wsX9_law (va_wsS RX9 124 yX9_held wsX9_held) := goodIn_app (goodIn_of _ (by decide +kernel)) ggX9_law_X9_held
theorem dX9_law_0 : decode cX9_law 0 = .ok (.iload_n 1, 1) := by decide +kernel
theorem dX9_law_1 : decode cX9_law 1 = .ok (.iconst 0, 1) := by decide +kernel
theorem dX9_law_2 : decode cX9_law 2 = .ok (.iconst 1, 1) := by decide +kernel
theorem dX9_law_3 : decode cX9_law 3 = .ok (.invokestatic 57, 3) := by decide +kernel
theorem dX9_law_6 : decode cX9_law 6 = .ok (.ifCond .ne 9, 3) := by decide +kernel
theorem dX9_law_9 : decode cX9_law 9 = .ok (.aload_n 0, 1) := by decide +kernel
theorem dX9_law_10 : decode cX9_law 10 = .ok (.iconst 1, 1) := by decide +kernel
theorem dX9_law_11 : decode cX9_law 11 = .ok (.invokevirtual 61, 3) := by decide +kernel
theorem dX9_law_14 : decode cX9_law 14 = .ok (.ireturn, 1) := by decide +kernel
theorem dX9_law_15 : decode cX9_law 15 = .ok (.aload_n 0, 1) := by decide +kernel
theorem dX9_law_16 : decode cX9_law 16 = .ok (.getfield 25, 3) := by decide +kernel
theorem dX9_law_19 : decode cX9_law 19 = .ok (.iload_n 1, 1) := by decide +kernel
theorem dX9_law_20 : decode cX9_law 20 = .ok (.ifCond .ne 8, 3) := by decide +kernel
theorem dX9_law_23 : decode cX9_law 23 = .ok (.bipush 98, 2) := by decide +kernel
theorem dX9_law_25 : decode cX9_law 25 = .ok (.goto 5, 3) := by decide +kernel
theorem dX9_law_28 : decode cX9_law 28 = .ok (.bipush 114, 2) := by decide +kernel
theorem dX9_law_30 : decode cX9_law 30 = .ok (.iload_n 2, 1) := by decide +kernel
theorem dX9_law_31 : decode cX9_law 31 = .ok (.iastore, 1) := by decide +kernel
theorem dX9_law_32 : decode cX9_law 32 = .ok (.aload_n 0, 1) := by decide +kernel
theorem dX9_law_33 : decode cX9_law 33 = .ok (.getfield 25, 3) := by decide +kernel
theorem dX9_law_36 : decode cX9_law 36 = .ok (.iload_n 1, 1) := by decide +kernel
theorem dX9_law_37 : decode cX9_law 37 = .ok (.ifCond .ne 8, 3) := by decide +kernel
theorem dX9_law_40 : decode cX9_law 40 = .ok (.bipush 101, 2) := by decide +kernel
theorem dX9_law_42 : decode cX9_law 42 = .ok (.goto 5, 3) := by decide +kernel
theorem dX9_law_45 : decode cX9_law 45 = .ok (.bipush 106, 2) := by decide +kernel
theorem dX9_law_47 : decode cX9_law 47 = .ok (.iload_n 3, 1) := by decide +kernel
theorem dX9_law_48 : decode cX9_law 48 = .ok (.iastore, 1) := by decide +kernel
theorem dX9_law_49 : decode cX9_law 49 = .ok (.aload_n 0, 1) := by decide +kernel
theorem dX9_law_50 : decode cX9_law 50 = .ok (.getfield 25, 3) := by decide +kernel
theorem dX9_law_53 : decode cX9_law 53 = .ok (.bipush 121, 2) := by decide +kernel
theorem dX9_law_55 : decode cX9_law 55 = .ok (.iload 4, 2) := by decide +kernel
theorem dX9_law_57 : decode cX9_law 57 = .ok (.iastore, 1) := by decide +kernel
theorem dX9_law_58 : decode cX9_law 58 = .ok (.aload_n 0, 1) := by decide +kernel
theorem dX9_law_59 : decode cX9_law 59 = .ok (.iload_n 1, 1) := by decide +kernel
theorem dX9_law_60 : decode cX9_law 60 = .ok (.invokevirtual 114, 3) := by decide +kernel
theorem dX9_law_63 : decode cX9_law 63 = .ok (.ifCond .eq 11, 3) := by decide +kernel
theorem dX9_law_66 : decode cX9_law 66 = .ok (.aload_n 0, 1) := by decide +kernel
theorem dX9_law_67 : decode cX9_law 67 = .ok (.iload_n 1, 1) := by decide +kernel
theorem dX9_law_68 : decode cX9_law 68 = .ok (.invokevirtual 121, 3) := by decide +kernel
theorem dX9_law_71 : decode cX9_law 71 = .ok (.goto 4, 3) := by decide +kernel
theorem dX9_law_74 : decode cX9_law 74 = .ok (.iload_n 2, 1) := by decide +kernel
theorem dX9_law_75 : decode cX9_law 75 = .ok (.iconst 0, 1) := by decide +kernel
theorem dX9_law_76 : decode cX9_law 76 = .ok (.iload_n 1, 1) := by decide +kernel
theorem dX9_law_77 : decode cX9_law 77 = .ok (.ifCond .ne 8, 3) := by decide +kernel
theorem dX9_law_80 : decode cX9_law 80 = .ok (.bipush 30, 2) := by decide +kernel
theorem dX9_law_82 : decode cX9_law 82 = .ok (.goto 5, 3) := by decide +kernel
theorem dX9_law_85 : decode cX9_law 85 = .ok (.bipush 40, 2) := by decide +kernel
theorem dX9_law_87 : decode cX9_law 87 = .ok (.invokestatic 124, 3) := by decide +kernel
theorem dX9_law_90 : decode cX9_law 90 = .ok (.ireturn, 1) := by decide +kernel
set_option maxRecDepth 20000 in
theorem ggX9_years_X9_in : GoodIn wsX9_years wsX9_in := goodIn_r _ [5] (by decide +kernel) (by decide +kernel)
set_option maxRecDepth 20000 in
theorem gX9_years_X9_in : GoodIn wsX9_years (va_wsS RX9 57 yX9_in wsX9_in) := goodIn_app (goodIn_of _ (by decide +kernel)) ggX9_years_X9_in
set_option maxRecDepth 20000 in
theorem ggX9_years_X9_error : GoodIn wsX9_years wsX9_error := goodIn_r _ [9, 10, 11, 75, 76, 77, 78, 79, 80, 81, 82, 83, 84, 85, 86, 87, 88, 89, 90, 91, 92, 93, 94, 95, 96, 97, 98, 99] (by decide +kernel) (by decide +kernel)
set_option maxRecDepth 20000 in
theorem gX9_years_X9_error : GoodIn wsX9_years (wsV RX9 61 RX9 yX9_error wsX9_error) := goodIn_app (goodIn_of _ (by decide +kernel)) ggX9_years_X9_error
set_option maxRecDepth 20000 in
theorem ggX9_years_X9_goes : GoodIn wsX9_years wsX9_goes := goodIn_r _ [15, 1, 16, 17, 18, 4, 19, 20, 21, 22, 23, 24, 25, 26, 27, 28, 29, 30, 31, 32, 33, 34, 35, 36, 37, 38, 39, 40, 41, 42, 43, 44, 45, 46, 47, 48, 49, 50, 51, 52, 53, 54, 55, 56, 57, 58, 59, 60, 61, 62, 63, 64, 65, 66, 67, 68, 69, 70, 75, 76, 77, 78, 79, 80, 81, 82, 83, 84, 85, 86, 87, 88, 89, 90, 91, 92, 93, 94, 95, 96, 97, 98, 99] (by decide +kernel) (by decide +kernel)
set_option maxRecDepth 20000 in
theorem gX9_years_X9_goes : GoodIn wsX9_years (wsV RX9 178 RX9 yX9_goes wsX9_goes) := goodIn_app (goodIn_of _ (by decide +kernel)) ggX9_years_X9_goes
set_option maxRecDepth 20000 in
theorem ggX9_years_X9_marksAll : GoodIn wsX9_years wsX9_marksAll := goodIn_r _ [74, 1, 55, 56, 57, 4, 58, 75, 76, 77, 78, 79, 80, 81, 82, 83, 84, 85, 86, 87, 88, 89, 90, 91, 92, 93, 94, 95, 96, 97, 98, 99] (by decide +kernel) (by decide +kernel)
set_option maxRecDepth 20000 in
theorem gX9_years_X9_marksAll : GoodIn wsX9_years (wsV RX9 181 RX9 yX9_marksAll wsX9_marksAll) := goodIn_app (goodIn_of _ (by decide +kernel)) ggX9_years_X9_marksAll
theorem dX9_years_0 : decode cX9_years 0 = .ok (.iload_n 1, 1) := by decide +kernel
theorem dX9_years_1 : decode cX9_years 1 = .ok (.iconst 1, 1) := by decide +kernel
theorem dX9_years_2 : decode cX9_years 2 = .ok (.bipush 60, 2) := by decide +kernel
theorem dX9_years_4 : decode cX9_years 4 = .ok (.invokestatic 57, 3) := by decide +kernel
theorem dX9_years_7 : decode cX9_years 7 = .ok (.ifCond .ne 9, 3) := by decide +kernel
theorem dX9_years_10 : decode cX9_years 10 = .ok (.aload_n 0, 1) := by decide +kernel
theorem dX9_years_11 : decode cX9_years 11 = .ok (.iconst 1, 1) := by decide +kernel
theorem dX9_years_12 : decode cX9_years 12 = .ok (.invokevirtual 61, 3) := by decide +kernel
theorem dX9_years_15 : decode cX9_years 15 = .ok (.ireturn, 1) := by decide +kernel
theorem dX9_years_16 : decode cX9_years 16 = .ok (.aload_n 0, 1) := by decide +kernel
theorem dX9_years_17 : decode cX9_years 17 = .ok (.getfield 7, 3) := by decide +kernel
theorem dX9_years_20 : decode cX9_years 20 = .ok (.iconst 0, 1) := by decide +kernel
theorem dX9_years_21 : decode cX9_years 21 = .ok (.iaload, 1) := by decide +kernel
theorem dX9_years_22 : decode cX9_years 22 = .ok (.iload_n 1, 1) := by decide +kernel
theorem dX9_years_23 : decode cX9_years 23 = .ok (.iadd, 1) := by decide +kernel
theorem dX9_years_24 : decode cX9_years 24 = .ok (.sipush 9999, 3) := by decide +kernel
theorem dX9_years_27 : decode cX9_years 27 = .ok (.if_icmp .le 9, 3) := by decide +kernel
theorem dX9_years_30 : decode cX9_years 30 = .ok (.aload_n 0, 1) := by decide +kernel
theorem dX9_years_31 : decode cX9_years 31 = .ok (.iconst 3, 1) := by decide +kernel
theorem dX9_years_32 : decode cX9_years 32 = .ok (.invokevirtual 61, 3) := by decide +kernel
theorem dX9_years_35 : decode cX9_years 35 = .ok (.ireturn, 1) := by decide +kernel
theorem dX9_years_36 : decode cX9_years 36 = .ok (.aload_n 0, 1) := by decide +kernel
theorem dX9_years_37 : decode cX9_years 37 = .ok (.iload_n 1, 1) := by decide +kernel
theorem dX9_years_38 : decode cX9_years 38 = .ok (.invokevirtual 178, 3) := by decide +kernel
theorem dX9_years_41 : decode cX9_years 41 = .ok (.aload_n 0, 1) := by decide +kernel
theorem dX9_years_42 : decode cX9_years 42 = .ok (.invokevirtual 181, 3) := by decide +kernel
theorem dX9_years_45 : decode cX9_years 45 = .ok (.ireturn, 1) := by decide +kernel
set_option maxRecDepth 20000 in
theorem ggX9_loose_X9_in : GoodIn wsX9_loose wsX9_in := goodIn_r _ [6] (by decide +kernel) (by decide +kernel)
set_option maxRecDepth 20000 in
theorem gX9_loose_X9_in : GoodIn wsX9_loose (va_wsS RX9 57 yX9_in wsX9_in) := goodIn_app (goodIn_of _ (by decide +kernel)) ggX9_loose_X9_in
set_option maxRecDepth 20000 in
theorem ggX9_loose_X9_error : GoodIn wsX9_loose wsX9_error := goodIn_r _ [10, 11, 12, 72, 73, 74, 75, 76, 77, 78, 79, 80, 81, 82, 83, 84, 85, 86, 87, 88, 89, 90, 91, 92, 93, 94, 95, 96] (by decide +kernel) (by decide +kernel)
set_option maxRecDepth 20000 in
theorem gX9_loose_X9_error : GoodIn wsX9_loose (wsV RX9 61 RX9 yX9_error wsX9_error) := goodIn_app (goodIn_of _ (by decide +kernel)) ggX9_loose_X9_error
set_option maxRecDepth 20000 in
theorem ggX9_loose_X9_year1 : GoodIn wsX9_loose wsX9_year1 := goodIn_r _ [16, 1, 17, 18, 19, 5, 20, 21, 22, 23, 24, 25, 26, 27, 28, 29, 30, 31, 32, 33, 34, 35, 36, 37, 38, 39, 40, 41, 42, 43, 44, 45, 46, 47, 48, 49, 50, 51, 52, 53, 54, 55, 56, 57, 58, 59, 60, 61, 62, 63, 64, 65, 66, 67, 72, 73, 74, 75, 76, 77, 78, 79, 80, 81, 82, 83, 84, 85, 86, 87, 88, 89, 90, 91, 92, 93, 94, 95, 96] (by decide +kernel) (by decide +kernel)
set_option maxRecDepth 20000 in
theorem gX9_loose_X9_year1 : GoodIn wsX9_loose (wsV RX9 156 RX9 yX9_year1 wsX9_year1) := goodIn_app (goodIn_of _ (by decide +kernel)) ggX9_loose_X9_year1
set_option maxRecDepth 20000 in
theorem ggX9_loose_X9_marksAll : GoodIn wsX9_loose wsX9_marksAll := goodIn_r _ [71, 1, 52, 53, 54, 5, 55, 72, 73, 74, 75, 76, 77, 78, 79, 80, 81, 82, 83, 84, 85, 86, 87, 88, 89, 90, 91, 92, 93, 94, 95, 96] (by decide +kernel) (by decide +kernel)
set_option maxRecDepth 20000 in
theorem gX9_loose_X9_marksAll : GoodIn wsX9_loose (wsV RX9 181 RX9 yX9_marksAll wsX9_marksAll) := goodIn_app (goodIn_of _ (by decide +kernel)) ggX9_loose_X9_marksAll
theorem dX9_loose_0 : decode cX9_loose 0 = .ok (.iload_n 1, 1) := by decide +kernel
theorem dX9_loose_1 : decode cX9_loose 1 = .ok (.iconst 1, 1) := by decide +kernel
theorem dX9_loose_2 : decode cX9_loose 2 = .ok (.bipush 30, 2) := by decide +kernel
theorem dX9_loose_4 : decode cX9_loose 4 = .ok (.invokestatic 57, 3) := by decide +kernel
theorem dX9_loose_7 : decode cX9_loose 7 = .ok (.ifCond .ne 9, 3) := by decide +kernel
theorem dX9_loose_10 : decode cX9_loose 10 = .ok (.aload_n 0, 1) := by decide +kernel
theorem dX9_loose_11 : decode cX9_loose 11 = .ok (.iconst 1, 1) := by decide +kernel
theorem dX9_loose_12 : decode cX9_loose 12 = .ok (.invokevirtual 61, 3) := by decide +kernel
theorem dX9_loose_15 : decode cX9_loose 15 = .ok (.ireturn, 1) := by decide +kernel
theorem dX9_loose_16 : decode cX9_loose 16 = .ok (.aload_n 0, 1) := by decide +kernel
theorem dX9_loose_17 : decode cX9_loose 17 = .ok (.getfield 7, 3) := by decide +kernel
theorem dX9_loose_20 : decode cX9_loose 20 = .ok (.iconst 0, 1) := by decide +kernel
theorem dX9_loose_21 : decode cX9_loose 21 = .ok (.iaload, 1) := by decide +kernel
theorem dX9_loose_22 : decode cX9_loose 22 = .ok (.iload_n 1, 1) := by decide +kernel
theorem dX9_loose_23 : decode cX9_loose 23 = .ok (.iadd, 1) := by decide +kernel
theorem dX9_loose_24 : decode cX9_loose 24 = .ok (.sipush 9999, 3) := by decide +kernel
theorem dX9_loose_27 : decode cX9_loose 27 = .ok (.if_icmp .le 9, 3) := by decide +kernel
theorem dX9_loose_30 : decode cX9_loose 30 = .ok (.aload_n 0, 1) := by decide +kernel
theorem dX9_loose_31 : decode cX9_loose 31 = .ok (.iconst 3, 1) := by decide +kernel
theorem dX9_loose_32 : decode cX9_loose 32 = .ok (.invokevirtual 61, 3) := by decide +kernel
theorem dX9_loose_35 : decode cX9_loose 35 = .ok (.ireturn, 1) := by decide +kernel
theorem dX9_loose_36 : decode cX9_loose 36 = .ok (.iconst 0, 1) := by decide +kernel
theorem dX9_loose_37 : decode cX9_loose 37 = .ok (.istore_n 2, 1) := by decide +kernel
theorem dX9_loose_38 : decode cX9_loose 38 = .ok (.iload_n 2, 1) := by decide +kernel
theorem dX9_loose_39 : decode cX9_loose 39 = .ok (.iload_n 1, 1) := by decide +kernel
theorem dX9_loose_40 : decode cX9_loose 40 = .ok (.if_icmp .ge 45, 3) := by decide +kernel
theorem dX9_loose_43 : decode cX9_loose 43 = .ok (.aload_n 0, 1) := by decide +kernel
theorem dX9_loose_44 : decode cX9_loose 44 = .ok (.getfield 7, 3) := by decide +kernel
theorem dX9_loose_47 : decode cX9_loose 47 = .ok (.iconst 4, 1) := by decide +kernel
theorem dX9_loose_48 : decode cX9_loose 48 = .ok (.aload_n 0, 1) := by decide +kernel
theorem dX9_loose_49 : decode cX9_loose 49 = .ok (.getfield 7, 3) := by decide +kernel
theorem dX9_loose_52 : decode cX9_loose 52 = .ok (.iconst 4, 1) := by decide +kernel
theorem dX9_loose_53 : decode cX9_loose 53 = .ok (.iaload, 1) := by decide +kernel
theorem dX9_loose_54 : decode cX9_loose 54 = .ok (.ldc 184, 2) := by decide +kernel
theorem dX9_loose_56 : decode cX9_loose 56 = .ok (.imul, 1) := by decide +kernel
theorem dX9_loose_57 : decode cX9_loose 57 = .ok (.sipush 12345, 3) := by decide +kernel
theorem dX9_loose_60 : decode cX9_loose 60 = .ok (.iadd, 1) := by decide +kernel
theorem dX9_loose_61 : decode cX9_loose 61 = .ok (.iastore, 1) := by decide +kernel
theorem dX9_loose_62 : decode cX9_loose 62 = .ok (.aload_n 0, 1) := by decide +kernel
theorem dX9_loose_63 : decode cX9_loose 63 = .ok (.aload_n 0, 1) := by decide +kernel
theorem dX9_loose_64 : decode cX9_loose 64 = .ok (.getfield 7, 3) := by decide +kernel
theorem dX9_loose_67 : decode cX9_loose 67 = .ok (.iconst 4, 1) := by decide +kernel
theorem dX9_loose_68 : decode cX9_loose 68 = .ok (.iaload, 1) := by decide +kernel
theorem dX9_loose_69 : decode cX9_loose 69 = .ok (.bipush 8, 2) := by decide +kernel
theorem dX9_loose_71 : decode cX9_loose 71 = .ok (.iushr, 1) := by decide +kernel
theorem dX9_loose_72 : decode cX9_loose 72 = .ok (.sipush 256, 3) := by decide +kernel
theorem dX9_loose_75 : decode cX9_loose 75 = .ok (.irem, 1) := by decide +kernel
theorem dX9_loose_76 : decode cX9_loose 76 = .ok (.invokevirtual 156, 3) := by decide +kernel
theorem dX9_loose_79 : decode cX9_loose 79 = .ok (.iinc 2 1, 3) := by decide +kernel
theorem dX9_loose_82 : decode cX9_loose 82 = .ok (.goto (-44), 3) := by decide +kernel
theorem dX9_loose_85 : decode cX9_loose 85 = .ok (.aload_n 0, 1) := by decide +kernel
theorem dX9_loose_86 : decode cX9_loose 86 = .ok (.invokevirtual 181, 3) := by decide +kernel
theorem dX9_loose_89 : decode cX9_loose 89 = .ok (.ireturn, 1) := by decide +kernel
set_option maxRecDepth 20000 in
theorem ggX9_year_X9_in : GoodIn wsX9_year wsX9_in := goodIn_r _ [4] (by decide +kernel) (by decide +kernel)
set_option maxRecDepth 20000 in
theorem gX9_year_X9_in : GoodIn wsX9_year (va_wsS RX9 57 yX9_in wsX9_in) := goodIn_app (goodIn_of _ (by decide +kernel)) ggX9_year_X9_in
set_option maxRecDepth 20000 in
theorem ggX9_year_X9_change1 : GoodIn wsX9_year wsX9_change1 := goodIn_r _ [8, 9, 16, 17, 18, 19, 20, 21, 22, 23, 24, 25, 26, 27, 28, 29, 30, 31, 32, 33, 34, 35, 36, 37, 38, 39, 40] (by decide +kernel) (by decide +kernel)
set_option maxRecDepth 20000 in
theorem gX9_year_X9_change1 : GoodIn wsX9_year (wsV RX9 169 RX9 yX9_change1 wsX9_change1) := goodIn_app (goodIn_of _ (by decide +kernel)) ggX9_year_X9_change1
set_option maxRecDepth 20000 in
theorem ggX9_year_X9_error : GoodIn wsX9_year wsX9_error := goodIn_r _ [13, 14, 15, 16, 17, 18, 19, 20, 21, 22, 23, 24, 25, 26, 27, 28, 29, 30, 31, 32, 33, 34, 35, 36, 37, 38, 39, 40] (by decide +kernel) (by decide +kernel)
set_option maxRecDepth 20000 in
theorem gX9_year_X9_error : GoodIn wsX9_year (wsV RX9 61 RX9 yX9_error wsX9_error) := goodIn_app (goodIn_of _ (by decide +kernel)) ggX9_year_X9_error
theorem dX9_year_0 : decode cX9_year 0 = .ok (.iload_n 1, 1) := by decide +kernel
theorem dX9_year_1 : decode cX9_year 1 = .ok (.iconst 0, 1) := by decide +kernel
theorem dX9_year_2 : decode cX9_year 2 = .ok (.sipush 9999, 3) := by decide +kernel
theorem dX9_year_5 : decode cX9_year 5 = .ok (.invokestatic 57, 3) := by decide +kernel
theorem dX9_year_8 : decode cX9_year 8 = .ok (.ifCond .eq 12, 3) := by decide +kernel
theorem dX9_year_11 : decode cX9_year 11 = .ok (.aload_n 0, 1) := by decide +kernel
theorem dX9_year_12 : decode cX9_year 12 = .ok (.iconst 0, 1) := by decide +kernel
theorem dX9_year_13 : decode cX9_year 13 = .ok (.iload_n 1, 1) := by decide +kernel
theorem dX9_year_14 : decode cX9_year 14 = .ok (.invokevirtual 169, 3) := by decide +kernel
theorem dX9_year_17 : decode cX9_year 17 = .ok (.goto 8, 3) := by decide +kernel
theorem dX9_year_20 : decode cX9_year 20 = .ok (.aload_n 0, 1) := by decide +kernel
theorem dX9_year_21 : decode cX9_year 21 = .ok (.iconst 1, 1) := by decide +kernel
theorem dX9_year_22 : decode cX9_year 22 = .ok (.invokevirtual 61, 3) := by decide +kernel
theorem dX9_year_25 : decode cX9_year 25 = .ok (.ireturn, 1) := by decide +kernel
set_option maxRecDepth 20000 in
theorem ggX9_seed_X9_change1 : GoodIn wsX9_seed wsX9_change1 := goodIn_r _ [5, 6, 7, 8, 9, 10, 11, 12, 13, 14, 15, 16, 17, 18, 19, 20, 21, 22, 23, 24, 25, 26, 27, 28, 29, 30, 31] (by decide +kernel) (by decide +kernel)
set_option maxRecDepth 20000 in
theorem gX9_seed_X9_change1 : GoodIn wsX9_seed (wsV RX9 169 RX9 yX9_change1 wsX9_change1) := goodIn_app (goodIn_of _ (by decide +kernel)) ggX9_seed_X9_change1
theorem dX9_seed_0 : decode cX9_seed 0 = .ok (.aload_n 0, 1) := by decide +kernel
theorem dX9_seed_1 : decode cX9_seed 1 = .ok (.iconst 4, 1) := by decide +kernel
theorem dX9_seed_2 : decode cX9_seed 2 = .ok (.iload_n 1, 1) := by decide +kernel
theorem dX9_seed_3 : decode cX9_seed 3 = .ok (.invokevirtual 169, 3) := by decide +kernel
theorem dX9_seed_6 : decode cX9_seed 6 = .ok (.ireturn, 1) := by decide +kernel
set_option maxRecDepth 20000 in
theorem ggX9_then_X9_isLion : GoodIn wsX9_then wsX9_isLion := goodIn_r _ [5, 6, 7, 4, 8] (by decide +kernel) (by decide +kernel)
set_option maxRecDepth 20000 in
theorem gX9_then_X9_isLion : GoodIn wsX9_then (va_wsS RX9 175 yX9_isLion wsX9_isLion) := goodIn_app (goodIn_of _ (by decide +kernel)) ggX9_then_X9_isLion
set_option maxRecDepth 20000 in
theorem ggX9_then_X9_in : GoodIn wsX9_then wsX9_in := goodIn_r _ [8] (by decide +kernel) (by decide +kernel)
set_option maxRecDepth 20000 in
theorem gX9_then_X9_in : GoodIn wsX9_then (va_wsS RX9 57 yX9_in wsX9_in) := goodIn_app (goodIn_of _ (by decide +kernel)) ggX9_then_X9_in
set_option maxRecDepth 20000 in
theorem ggX9_then_X9_error : GoodIn wsX9_then wsX9_error := goodIn_r _ [12, 13, 14, 83, 84, 85, 86, 87, 88, 89, 90, 91, 92, 93, 94, 95, 96, 97, 98, 99, 100, 101, 102, 103, 104, 105, 106, 107] (by decide +kernel) (by decide +kernel)
set_option maxRecDepth 20000 in
theorem gX9_then_X9_error : GoodIn wsX9_then (wsV RX9 61 RX9 yX9_error wsX9_error) := goodIn_app (goodIn_of _ (by decide +kernel)) ggX9_then_X9_error
set_option maxRecDepth 20000 in
theorem ggX9_then_X9_saves : GoodIn wsX9_then wsX9_saves := goodIn_r _ [18, 19, 1, 83, 84, 85, 86, 87, 88, 89, 90, 91, 92, 93, 94, 95, 96, 97, 98, 99, 100, 101, 102, 103, 104, 105, 106, 107] (by decide +kernel) (by decide +kernel)
set_option maxRecDepth 20000 in
theorem gX9_then_X9_saves : GoodIn wsX9_then (wsV RX9 185 RX9 yX9_saves wsX9_saves) := goodIn_app (goodIn_of _ (by decide +kernel)) ggX9_then_X9_saves
set_option maxRecDepth 20000 in
theorem ggX9_then_X9_goes : GoodIn wsX9_then wsX9_goes := goodIn_r _ [23, 1, 24, 25, 26, 4, 27, 28, 29, 30, 31, 32, 33, 34, 35, 36, 37, 38, 39, 40, 41, 42, 43, 44, 45, 46, 47, 48, 49, 50, 51, 52, 53, 54, 55, 56, 57, 58, 59, 60, 61, 62, 63, 64, 65, 66, 67, 68, 69, 70, 71, 72, 73, 74, 75, 76, 77, 78, 83, 84, 85, 86, 87, 88, 89, 90, 91, 92, 93, 94, 95, 96, 97, 98, 99, 100, 101, 102, 103, 104, 105, 106, 107] (by decide +kernel) (by decide +kernel)
set_option maxRecDepth 20000 in
theorem gX9_then_X9_goes : GoodIn wsX9_then (wsV RX9 178 RX9 yX9_goes wsX9_goes) := goodIn_app (goodIn_of _ (by decide +kernel)) ggX9_then_X9_goes
set_option maxRecDepth 20000 in
theorem ggX9_then_X9_putsBack : GoodIn wsX9_then wsX9_putsBack := goodIn_r _ [82, 1, 19, 83, 84, 85, 86, 87, 88, 89, 90, 91, 92, 93, 94, 95, 96, 97, 98, 99, 100, 101, 102, 103, 104, 105, 106, 107] (by decide +kernel) (by decide +kernel)
set_option maxRecDepth 20000 in
theorem gX9_then_X9_putsBack : GoodIn wsX9_then (wsV RX9 188 RX9 yX9_putsBack wsX9_putsBack) := goodIn_app (goodIn_of _ (by decide +kernel)) ggX9_then_X9_putsBack
