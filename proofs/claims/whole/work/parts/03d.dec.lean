/-! decode rows -/
theorem dX7_init_0 : decode cX7_init 0 = .ok (.aload_n 0, 1) := by decide +kernel
theorem dX7_init_1 : decode cX7_init 1 = .ok (.invokespecial 1, 3) := by decide +kernel
theorem dX7_init_4 : decode cX7_init 4 = .ok (.aload_n 0, 1) := by decide +kernel
theorem dX7_init_5 : decode cX7_init 5 = .ok (.bipush 8, 2) := by decide +kernel
theorem dX7_init_7 : decode cX7_init 7 = .ok (.newarray .int, 2) := by decide +kernel
theorem dX7_init_9 : decode cX7_init 9 = .ok (.putfield 7, 3) := by decide +kernel
theorem dX7_init_12 : decode cX7_init 12 = .ok (.aload_n 0, 1) := by decide +kernel
theorem dX7_init_13 : decode cX7_init 13 = .ok (.bipush 8, 2) := by decide +kernel
theorem dX7_init_15 : decode cX7_init 15 = .ok (.newarray .int, 2) := by decide +kernel
theorem dX7_init_17 : decode cX7_init 17 = .ok (.putfield 13, 3) := by decide +kernel
theorem dX7_init_20 : decode cX7_init 20 = .ok (.aload_n 0, 1) := by decide +kernel
theorem dX7_init_21 : decode cX7_init 21 = .ok (.bipush 40, 2) := by decide +kernel
theorem dX7_init_23 : decode cX7_init 23 = .ok (.newarray .int, 2) := by decide +kernel
theorem dX7_init_25 : decode cX7_init 25 = .ok (.putfield 16, 3) := by decide +kernel
theorem dX7_init_28 : decode cX7_init 28 = .ok (.aload_n 0, 1) := by decide +kernel
theorem dX7_init_29 : decode cX7_init 29 = .ok (.bipush 40, 2) := by decide +kernel
theorem dX7_init_31 : decode cX7_init 31 = .ok (.newarray .int, 2) := by decide +kernel
theorem dX7_init_33 : decode cX7_init 33 = .ok (.putfield 19, 3) := by decide +kernel
theorem dX7_init_36 : decode cX7_init 36 = .ok (.aload_n 0, 1) := by decide +kernel
theorem dX7_init_37 : decode cX7_init 37 = .ok (.bipush 40, 2) := by decide +kernel
theorem dX7_init_39 : decode cX7_init 39 = .ok (.newarray .int, 2) := by decide +kernel
theorem dX7_init_41 : decode cX7_init 41 = .ok (.putfield 22, 3) := by decide +kernel
theorem dX7_init_44 : decode cX7_init 44 = .ok (.aload_n 0, 1) := by decide +kernel
theorem dX7_init_45 : decode cX7_init 45 = .ok (.bipush 40, 2) := by decide +kernel
theorem dX7_init_47 : decode cX7_init 47 = .ok (.newarray .int, 2) := by decide +kernel
theorem dX7_init_49 : decode cX7_init 49 = .ok (.putfield 25, 3) := by decide +kernel
theorem dX7_init_52 : decode cX7_init 52 = .ok (.aload_n 0, 1) := by decide +kernel
theorem dX7_init_53 : decode cX7_init 53 = .ok (.iconst 4, 1) := by decide +kernel
theorem dX7_init_54 : decode cX7_init 54 = .ok (.newarray .int, 2) := by decide +kernel
theorem dX7_init_56 : decode cX7_init 56 = .ok (.putfield 28, 3) := by decide +kernel
theorem dX7_init_59 : decode cX7_init 59 = .ok (.aload_n 0, 1) := by decide +kernel
theorem dX7_init_60 : decode cX7_init 60 = .ok (.bipush 6, 2) := by decide +kernel
theorem dX7_init_62 : decode cX7_init 62 = .ok (.newarray .int, 2) := by decide +kernel
theorem dX7_init_64 : decode cX7_init 64 = .ok (.putfield 31, 3) := by decide +kernel
theorem dX7_init_67 : decode cX7_init 67 = .ok (.aload_n 0, 1) := by decide +kernel
theorem dX7_init_68 : decode cX7_init 68 = .ok (.iconst 4, 1) := by decide +kernel
theorem dX7_init_69 : decode cX7_init 69 = .ok (.newarray .int, 2) := by decide +kernel
theorem dX7_init_71 : decode cX7_init 71 = .ok (.putfield 34, 3) := by decide +kernel
theorem dX7_init_74 : decode cX7_init 74 = .ok (.aload_n 0, 1) := by decide +kernel
theorem dX7_init_75 : decode cX7_init 75 = .ok (.bipush 8, 2) := by decide +kernel
theorem dX7_init_77 : decode cX7_init 77 = .ok (.newarray .int, 2) := by decide +kernel
theorem dX7_init_79 : decode cX7_init 79 = .ok (.putfield 37, 3) := by decide +kernel
theorem dX7_init_82 : decode cX7_init 82 = .ok (.aload_n 0, 1) := by decide +kernel
theorem dX7_init_83 : decode cX7_init 83 = .ok (.bipush 8, 2) := by decide +kernel
theorem dX7_init_85 : decode cX7_init 85 = .ok (.newarray .int, 2) := by decide +kernel
theorem dX7_init_87 : decode cX7_init 87 = .ok (.putfield 40, 3) := by decide +kernel
theorem dX7_init_90 : decode cX7_init 90 = .ok (.aload_n 0, 1) := by decide +kernel
theorem dX7_init_91 : decode cX7_init 91 = .ok (.bipush 8, 2) := by decide +kernel
theorem dX7_init_93 : decode cX7_init 93 = .ok (.newarray .int, 2) := by decide +kernel
theorem dX7_init_95 : decode cX7_init 95 = .ok (.putfield 43, 3) := by decide +kernel
theorem dX7_init_98 : decode cX7_init 98 = .ok (.aload_n 0, 1) := by decide +kernel
theorem dX7_init_99 : decode cX7_init 99 = .ok (.bipush 8, 2) := by decide +kernel
theorem dX7_init_101 : decode cX7_init 101 = .ok (.newarray .int, 2) := by decide +kernel
theorem dX7_init_103 : decode cX7_init 103 = .ok (.putfield 46, 3) := by decide +kernel
theorem dX7_init_106 : decode cX7_init 106 = .ok (.aload_n 0, 1) := by decide +kernel
theorem dX7_init_107 : decode cX7_init 107 = .ok (.sipush 256, 3) := by decide +kernel
theorem dX7_init_110 : decode cX7_init 110 = .ok (.newarray .int, 2) := by decide +kernel
theorem dX7_init_112 : decode cX7_init 112 = .ok (.putfield 49, 3) := by decide +kernel
theorem dX7_init_115 : decode cX7_init 115 = .ok (.aload_n 0, 1) := by decide +kernel
theorem dX7_init_116 : decode cX7_init 116 = .ok (.bipush 8, 2) := by decide +kernel
theorem dX7_init_118 : decode cX7_init 118 = .ok (.newarray .int, 2) := by decide +kernel
theorem dX7_init_120 : decode cX7_init 120 = .ok (.putfield 52, 3) := by decide +kernel
theorem dX7_init_123 : decode cX7_init 123 = .ok (.aload_n 0, 1) := by decide +kernel
theorem dX7_init_124 : decode cX7_init 124 = .ok (.bipush 8, 2) := by decide +kernel
theorem dX7_init_126 : decode cX7_init 126 = .ok (.newarray .int, 2) := by decide +kernel
theorem dX7_init_128 : decode cX7_init 128 = .ok (.putfield 55, 3) := by decide +kernel
theorem dX7_init_131 : decode cX7_init 131 = .ok (.aload_n 0, 1) := by decide +kernel
theorem dX7_init_132 : decode cX7_init 132 = .ok (.bipush 6, 2) := by decide +kernel
theorem dX7_init_134 : decode cX7_init 134 = .ok (.newarray .int, 2) := by decide +kernel
theorem dX7_init_136 : decode cX7_init 136 = .ok (.putfield 58, 3) := by decide +kernel
theorem dX7_init_139 : decode cX7_init 139 = .ok (.aload_n 0, 1) := by decide +kernel
theorem dX7_init_140 : decode cX7_init 140 = .ok (.bipush 32, 2) := by decide +kernel
theorem dX7_init_142 : decode cX7_init 142 = .ok (.newarray .int, 2) := by decide +kernel
theorem dX7_init_144 : decode cX7_init 144 = .ok (.putfield 61, 3) := by decide +kernel
theorem dX7_init_147 : decode cX7_init 147 = .ok (.aload_n 0, 1) := by decide +kernel
theorem dX7_init_148 : decode cX7_init 148 = .ok (.sipush 382, 3) := by decide +kernel
theorem dX7_init_151 : decode cX7_init 151 = .ok (.newarray .int, 2) := by decide +kernel
theorem dX7_init_153 : decode cX7_init 153 = .ok (.putfield 64, 3) := by decide +kernel
theorem dX7_init_156 : decode cX7_init 156 = .ok (.aload_n 0, 1) := by decide +kernel
theorem dX7_init_157 : decode cX7_init 157 = .ok (.iconst 2, 1) := by decide +kernel
theorem dX7_init_158 : decode cX7_init 158 = .ok (.newarray .boolean, 2) := by decide +kernel
theorem dX7_init_160 : decode cX7_init 160 = .ok (.putfield 67, 3) := by decide +kernel
theorem dX7_init_163 : decode cX7_init 163 = .ok (.aload_n 0, 1) := by decide +kernel
theorem dX7_init_164 : decode cX7_init 164 = .ok (.getfield 34, 3) := by decide +kernel
theorem dX7_init_167 : decode cX7_init 167 = .ok (.iconst 0, 1) := by decide +kernel
theorem dX7_init_168 : decode cX7_init 168 = .ok (.bipush 10, 2) := by decide +kernel
theorem dX7_init_170 : decode cX7_init 170 = .ok (.iastore, 1) := by decide +kernel
theorem dX7_init_171 : decode cX7_init 171 = .ok (.aload_n 0, 1) := by decide +kernel
theorem dX7_init_172 : decode cX7_init 172 = .ok (.getfield 34, 3) := by decide +kernel
theorem dX7_init_175 : decode cX7_init 175 = .ok (.iconst 1, 1) := by decide +kernel
theorem dX7_init_176 : decode cX7_init 176 = .ok (.iconst 2, 1) := by decide +kernel
theorem dX7_init_177 : decode cX7_init 177 = .ok (.iastore, 1) := by decide +kernel
theorem dX7_init_178 : decode cX7_init 178 = .ok (.aload_n 0, 1) := by decide +kernel
theorem dX7_init_179 : decode cX7_init 179 = .ok (.getfield 34, 3) := by decide +kernel
theorem dX7_init_182 : decode cX7_init 182 = .ok (.iconst 2, 1) := by decide +kernel
theorem dX7_init_183 : decode cX7_init 183 = .ok (.bipush 8, 2) := by decide +kernel
theorem dX7_init_185 : decode cX7_init 185 = .ok (.iastore, 1) := by decide +kernel
theorem dX7_init_186 : decode cX7_init 186 = .ok (.aload_n 0, 1) := by decide +kernel
theorem dX7_init_187 : decode cX7_init 187 = .ok (.getfield 34, 3) := by decide +kernel
theorem dX7_init_190 : decode cX7_init 190 = .ok (.iconst 3, 1) := by decide +kernel
theorem dX7_init_191 : decode cX7_init 191 = .ok (.iconst 3, 1) := by decide +kernel
theorem dX7_init_192 : decode cX7_init 192 = .ok (.iastore, 1) := by decide +kernel
theorem dX7_init_193 : decode cX7_init 193 = .ok (.return_, 1) := by decide +kernel
theorem dX7_in_0 : decode cX7_in 0 = .ok (.iload_n 0, 1) := by decide +kernel
theorem dX7_in_1 : decode cX7_in 1 = .ok (.iload_n 1, 1) := by decide +kernel
theorem dX7_in_2 : decode cX7_in 2 = .ok (.if_icmp .lt 12, 3) := by decide +kernel
theorem dX7_in_5 : decode cX7_in 5 = .ok (.iload_n 0, 1) := by decide +kernel
theorem dX7_in_6 : decode cX7_in 6 = .ok (.iload_n 2, 1) := by decide +kernel
theorem dX7_in_7 : decode cX7_in 7 = .ok (.if_icmp .gt 7, 3) := by decide +kernel
theorem dX7_in_10 : decode cX7_in 10 = .ok (.iconst 1, 1) := by decide +kernel
theorem dX7_in_11 : decode cX7_in 11 = .ok (.goto 4, 3) := by decide +kernel
theorem dX7_in_14 : decode cX7_in 14 = .ok (.iconst 0, 1) := by decide +kernel
theorem dX7_in_15 : decode cX7_in 15 = .ok (.ireturn, 1) := by decide +kernel
theorem dX7_isTable_0 : decode cX7_isTable 0 = .ok (.iload_n 1, 1) := by decide +kernel
theorem dX7_isTable_1 : decode cX7_isTable 1 = .ok (.iconst 0, 1) := by decide +kernel
theorem dX7_isTable_2 : decode cX7_isTable 2 = .ok (.aload_n 0, 1) := by decide +kernel
theorem dX7_isTable_3 : decode cX7_isTable 3 = .ok (.getfield 71, 3) := by decide +kernel
theorem dX7_isTable_6 : decode cX7_isTable 6 = .ok (.iconst 1, 1) := by decide +kernel
theorem dX7_isTable_7 : decode cX7_isTable 7 = .ok (.isub, 1) := by decide +kernel
theorem dX7_isTable_8 : decode cX7_isTable 8 = .ok (.invokestatic 75, 3) := by decide +kernel
theorem dX7_isTable_11 : decode cX7_isTable 11 = .ok (.ireturn, 1) := by decide +kernel
theorem dX7_isField_0 : decode cX7_isField 0 = .ok (.iload_n 0, 1) := by decide +kernel
theorem dX7_isField_1 : decode cX7_isField 1 = .ok (.iconst 0, 1) := by decide +kernel
theorem dX7_isField_2 : decode cX7_isField 2 = .ok (.iconst 5, 1) := by decide +kernel
theorem dX7_isField_3 : decode cX7_isField 3 = .ok (.invokestatic 75, 3) := by decide +kernel
theorem dX7_isField_6 : decode cX7_isField 6 = .ok (.ireturn, 1) := by decide +kernel
theorem dX7_has_0 : decode cX7_has 0 = .ok (.iload_n 0, 1) := by decide +kernel
theorem dX7_has_1 : decode cX7_has 1 = .ok (.iload_n 1, 1) := by decide +kernel
theorem dX7_has_2 : decode cX7_has 2 = .ok (.ishr, 1) := by decide +kernel
theorem dX7_has_3 : decode cX7_has 3 = .ok (.iconst 1, 1) := by decide +kernel
theorem dX7_has_4 : decode cX7_has 4 = .ok (.iand, 1) := by decide +kernel
theorem dX7_has_5 : decode cX7_has 5 = .ok (.iconst 1, 1) := by decide +kernel
theorem dX7_has_6 : decode cX7_has 6 = .ok (.if_icmp .ne 7, 3) := by decide +kernel
theorem dX7_has_9 : decode cX7_has 9 = .ok (.iconst 1, 1) := by decide +kernel
theorem dX7_has_10 : decode cX7_has 10 = .ok (.goto 4, 3) := by decide +kernel
theorem dX7_has_13 : decode cX7_has 13 = .ok (.iconst 0, 1) := by decide +kernel
theorem dX7_has_14 : decode cX7_has 14 = .ok (.ireturn, 1) := by decide +kernel
theorem dX7_bits_0 : decode cX7_bits 0 = .ok (.iconst 0, 1) := by decide +kernel
theorem dX7_bits_1 : decode cX7_bits 1 = .ok (.istore_n 1, 1) := by decide +kernel
theorem dX7_bits_2 : decode cX7_bits 2 = .ok (.iconst 0, 1) := by decide +kernel
theorem dX7_bits_3 : decode cX7_bits 3 = .ok (.istore_n 2, 1) := by decide +kernel
theorem dX7_bits_4 : decode cX7_bits 4 = .ok (.iload_n 2, 1) := by decide +kernel
theorem dX7_bits_5 : decode cX7_bits 5 = .ok (.bipush 8, 2) := by decide +kernel
theorem dX7_bits_7 : decode cX7_bits 7 = .ok (.if_icmp .ge 17, 3) := by decide +kernel
theorem dX7_bits_10 : decode cX7_bits 10 = .ok (.iload_n 1, 1) := by decide +kernel
theorem dX7_bits_11 : decode cX7_bits 11 = .ok (.iload_n 0, 1) := by decide +kernel
theorem dX7_bits_12 : decode cX7_bits 12 = .ok (.iload_n 2, 1) := by decide +kernel
theorem dX7_bits_13 : decode cX7_bits 13 = .ok (.ishr, 1) := by decide +kernel
theorem dX7_bits_14 : decode cX7_bits 14 = .ok (.iconst 1, 1) := by decide +kernel
theorem dX7_bits_15 : decode cX7_bits 15 = .ok (.iand, 1) := by decide +kernel
theorem dX7_bits_16 : decode cX7_bits 16 = .ok (.iadd, 1) := by decide +kernel
theorem dX7_bits_17 : decode cX7_bits 17 = .ok (.istore_n 1, 1) := by decide +kernel
theorem dX7_bits_18 : decode cX7_bits 18 = .ok (.iinc 2 1, 3) := by decide +kernel
theorem dX7_bits_21 : decode cX7_bits 21 = .ok (.goto (-17), 3) := by decide +kernel
theorem dX7_bits_24 : decode cX7_bits 24 = .ok (.iload_n 1, 1) := by decide +kernel
theorem dX7_bits_25 : decode cX7_bits 25 = .ok (.ireturn, 1) := by decide +kernel
theorem dX7_table_0 : decode cX7_table 0 = .ok (.iload_n 1, 1) := by decide +kernel
theorem dX7_table_1 : decode cX7_table 1 = .ok (.invokestatic 79, 3) := by decide +kernel
theorem dX7_table_4 : decode cX7_table 4 = .ok (.ifCond .ne 5, 3) := by decide +kernel
theorem dX7_table_7 : decode cX7_table 7 = .ok (.iconst (-1), 1) := by decide +kernel
theorem dX7_table_8 : decode cX7_table 8 = .ok (.ireturn, 1) := by decide +kernel
theorem dX7_table_9 : decode cX7_table 9 = .ok (.aload_n 0, 1) := by decide +kernel
theorem dX7_table_10 : decode cX7_table 10 = .ok (.getfield 71, 3) := by decide +kernel
theorem dX7_table_13 : decode cX7_table 13 = .ok (.bipush 8, 2) := by decide +kernel
theorem dX7_table_15 : decode cX7_table 15 = .ok (.if_icmp .ne 6, 3) := by decide +kernel
theorem dX7_table_18 : decode cX7_table 18 = .ok (.bipush (-4), 2) := by decide +kernel
theorem dX7_table_20 : decode cX7_table 20 = .ok (.ireturn, 1) := by decide +kernel
theorem dX7_table_21 : decode cX7_table 21 = .ok (.aload_n 0, 1) := by decide +kernel
theorem dX7_table_22 : decode cX7_table 22 = .ok (.getfield 7, 3) := by decide +kernel
theorem dX7_table_25 : decode cX7_table 25 = .ok (.aload_n 0, 1) := by decide +kernel
theorem dX7_table_26 : decode cX7_table 26 = .ok (.getfield 71, 3) := by decide +kernel
theorem dX7_table_29 : decode cX7_table 29 = .ok (.iload_n 1, 1) := by decide +kernel
theorem dX7_table_30 : decode cX7_table 30 = .ok (.iastore, 1) := by decide +kernel
theorem dX7_table_31 : decode cX7_table 31 = .ok (.aload_n 0, 1) := by decide +kernel
theorem dX7_table_32 : decode cX7_table 32 = .ok (.getfield 13, 3) := by decide +kernel
theorem dX7_table_35 : decode cX7_table 35 = .ok (.aload_n 0, 1) := by decide +kernel
theorem dX7_table_36 : decode cX7_table 36 = .ok (.getfield 71, 3) := by decide +kernel
theorem dX7_table_39 : decode cX7_table 39 = .ok (.iconst 0, 1) := by decide +kernel
theorem dX7_table_40 : decode cX7_table 40 = .ok (.iastore, 1) := by decide +kernel
theorem dX7_table_41 : decode cX7_table 41 = .ok (.aload_n 0, 1) := by decide +kernel
theorem dX7_table_42 : decode cX7_table 42 = .ok (.iconst 5, 1) := by decide +kernel
theorem dX7_table_43 : decode cX7_table 43 = .ok (.aload_n 0, 1) := by decide +kernel
theorem dX7_table_44 : decode cX7_table 44 = .ok (.getfield 71, 3) := by decide +kernel
theorem dX7_table_47 : decode cX7_table 47 = .ok (.imul, 1) := by decide +kernel
theorem dX7_table_48 : decode cX7_table 48 = .ok (.iconst 4, 1) := by decide +kernel
theorem dX7_table_49 : decode cX7_table 49 = .ok (.iadd, 1) := by decide +kernel
theorem dX7_table_50 : decode cX7_table 50 = .ok (.iconst 0, 1) := by decide +kernel
theorem dX7_table_51 : decode cX7_table 51 = .ok (.iconst 0, 1) := by decide +kernel
theorem dX7_table_52 : decode cX7_table 52 = .ok (.iconst 0, 1) := by decide +kernel
theorem dX7_table_53 : decode cX7_table 53 = .ok (.invokevirtual 83, 3) := by decide +kernel
theorem dX7_table_56 : decode cX7_table 56 = .ok (.aload_n 0, 1) := by decide +kernel
theorem dX7_table_57 : decode cX7_table 57 = .ok (.dup, 1) := by decide +kernel
theorem dX7_table_58 : decode cX7_table 58 = .ok (.getfield 71, 3) := by decide +kernel
theorem dX7_table_61 : decode cX7_table 61 = .ok (.iconst 1, 1) := by decide +kernel
theorem dX7_table_62 : decode cX7_table 62 = .ok (.iadd, 1) := by decide +kernel
theorem dX7_table_63 : decode cX7_table 63 = .ok (.putfield 71, 3) := by decide +kernel
theorem dX7_table_66 : decode cX7_table 66 = .ok (.aload_n 0, 1) := by decide +kernel
theorem dX7_table_67 : decode cX7_table 67 = .ok (.getfield 71, 3) := by decide +kernel
theorem dX7_table_70 : decode cX7_table 70 = .ok (.iconst 1, 1) := by decide +kernel
theorem dX7_table_71 : decode cX7_table 71 = .ok (.isub, 1) := by decide +kernel
theorem dX7_table_72 : decode cX7_table 72 = .ok (.ireturn, 1) := by decide +kernel
theorem dX7_matters_0 : decode cX7_matters 0 = .ok (.iload_n 0, 1) := by decide +kernel
theorem dX7_matters_1 : decode cX7_matters 1 = .ok (.iconst 1, 1) := by decide +kernel
theorem dX7_matters_2 : decode cX7_matters 2 = .ok (.bipush 7, 2) := by decide +kernel
theorem dX7_matters_4 : decode cX7_matters 4 = .ok (.invokestatic 75, 3) := by decide +kernel
theorem dX7_matters_7 : decode cX7_matters 7 = .ok (.ireturn, 1) := by decide +kernel
theorem dX7_lay_0 : decode cX7_lay 0 = .ok (.aload_n 0, 1) := by decide +kernel
theorem dX7_lay_1 : decode cX7_lay 1 = .ok (.getfield 19, 3) := by decide +kernel
theorem dX7_lay_4 : decode cX7_lay 4 = .ok (.iload_n 1, 1) := by decide +kernel
theorem dX7_lay_5 : decode cX7_lay 5 = .ok (.iload_n 2, 1) := by decide +kernel
theorem dX7_lay_6 : decode cX7_lay 6 = .ok (.iastore, 1) := by decide +kernel
theorem dX7_lay_7 : decode cX7_lay 7 = .ok (.aload_n 0, 1) := by decide +kernel
theorem dX7_lay_8 : decode cX7_lay 8 = .ok (.getfield 22, 3) := by decide +kernel
theorem dX7_lay_11 : decode cX7_lay 11 = .ok (.iload_n 1, 1) := by decide +kernel
theorem dX7_lay_12 : decode cX7_lay 12 = .ok (.iload_n 2, 1) := by decide +kernel
theorem dX7_lay_13 : decode cX7_lay 13 = .ok (.invokestatic 87, 3) := by decide +kernel
theorem dX7_lay_16 : decode cX7_lay 16 = .ok (.ifCond .eq 7, 3) := by decide +kernel
theorem dX7_lay_19 : decode cX7_lay 19 = .ok (.iload_n 3, 1) := by decide +kernel
theorem dX7_lay_20 : decode cX7_lay 20 = .ok (.goto 5, 3) := by decide +kernel
theorem dX7_lay_23 : decode cX7_lay 23 = .ok (.bipush (-6), 2) := by decide +kernel
theorem dX7_lay_25 : decode cX7_lay 25 = .ok (.iastore, 1) := by decide +kernel
theorem dX7_lay_26 : decode cX7_lay 26 = .ok (.aload_n 0, 1) := by decide +kernel
theorem dX7_lay_27 : decode cX7_lay 27 = .ok (.getfield 25, 3) := by decide +kernel
theorem dX7_lay_30 : decode cX7_lay 30 = .ok (.iload_n 1, 1) := by decide +kernel
theorem dX7_lay_31 : decode cX7_lay 31 = .ok (.iload_n 2, 1) := by decide +kernel
theorem dX7_lay_32 : decode cX7_lay 32 = .ok (.invokestatic 87, 3) := by decide +kernel
theorem dX7_lay_35 : decode cX7_lay 35 = .ok (.ifCond .eq 8, 3) := by decide +kernel
theorem dX7_lay_38 : decode cX7_lay 38 = .ok (.iload 4, 2) := by decide +kernel
theorem dX7_lay_40 : decode cX7_lay 40 = .ok (.goto 5, 3) := by decide +kernel
theorem dX7_lay_43 : decode cX7_lay 43 = .ok (.bipush (-6), 2) := by decide +kernel
theorem dX7_lay_45 : decode cX7_lay 45 = .ok (.iastore, 1) := by decide +kernel
theorem dX7_lay_46 : decode cX7_lay 46 = .ok (.return_, 1) := by decide +kernel
theorem dX7_isAct_0 : decode cX7_isAct 0 = .ok (.iload_n 0, 1) := by decide +kernel
theorem dX7_isAct_1 : decode cX7_isAct 1 = .ok (.iconst 0, 1) := by decide +kernel
theorem dX7_isAct_2 : decode cX7_isAct 2 = .ok (.bipush 9, 2) := by decide +kernel
theorem dX7_isAct_4 : decode cX7_isAct 4 = .ok (.invokestatic 75, 3) := by decide +kernel
theorem dX7_isAct_7 : decode cX7_isAct 7 = .ok (.ifCond .ne 5, 3) := by decide +kernel
theorem dX7_isAct_10 : decode cX7_isAct 10 = .ok (.iconst 0, 1) := by decide +kernel
theorem dX7_isAct_11 : decode cX7_isAct 11 = .ok (.ireturn, 1) := by decide +kernel
theorem dX7_isAct_12 : decode cX7_isAct 12 = .ok (.iload_n 0, 1) := by decide +kernel
theorem dX7_isAct_13 : decode cX7_isAct 13 = .ok (.invokestatic 87, 3) := by decide +kernel
theorem dX7_isAct_16 : decode cX7_isAct 16 = .ok (.ifCond .ne 5, 3) := by decide +kernel
theorem dX7_isAct_19 : decode cX7_isAct 19 = .ok (.iconst 1, 1) := by decide +kernel
theorem dX7_isAct_20 : decode cX7_isAct 20 = .ok (.ireturn, 1) := by decide +kernel
theorem dX7_isAct_21 : decode cX7_isAct 21 = .ok (.iload_n 0, 1) := by decide +kernel
theorem dX7_isAct_22 : decode cX7_isAct 22 = .ok (.iconst 1, 1) := by decide +kernel
theorem dX7_isAct_23 : decode cX7_isAct 23 = .ok (.if_icmp .eq 8, 3) := by decide +kernel
theorem dX7_isAct_26 : decode cX7_isAct 26 = .ok (.iload_n 0, 1) := by decide +kernel
theorem dX7_isAct_27 : decode cX7_isAct 27 = .ok (.iconst 3, 1) := by decide +kernel
theorem dX7_isAct_28 : decode cX7_isAct 28 = .ok (.if_icmp .ne 9, 3) := by decide +kernel
theorem dX7_isAct_31 : decode cX7_isAct 31 = .ok (.sipush 255, 3) := by decide +kernel
theorem dX7_isAct_34 : decode cX7_isAct 34 = .ok (.goto 18, 3) := by decide +kernel
theorem dX7_isAct_37 : decode cX7_isAct 37 = .ok (.iload_n 0, 1) := by decide +kernel
theorem dX7_isAct_38 : decode cX7_isAct 38 = .ok (.iconst 2, 1) := by decide +kernel
theorem dX7_isAct_39 : decode cX7_isAct 39 = .ok (.if_icmp .eq 8, 3) := by decide +kernel
theorem dX7_isAct_42 : decode cX7_isAct 42 = .ok (.iload_n 0, 1) := by decide +kernel
theorem dX7_isAct_43 : decode cX7_isAct 43 = .ok (.iconst 4, 1) := by decide +kernel
theorem dX7_isAct_44 : decode cX7_isAct 44 = .ok (.if_icmp .ne 7, 3) := by decide +kernel
theorem dX7_isAct_47 : decode cX7_isAct 47 = .ok (.iconst 5, 1) := by decide +kernel
theorem dX7_isAct_48 : decode cX7_isAct 48 = .ok (.goto 4, 3) := by decide +kernel
theorem dX7_isAct_51 : decode cX7_isAct 51 = .ok (.iconst 3, 1) := by decide +kernel
theorem dX7_isAct_52 : decode cX7_isAct 52 = .ok (.istore_n 3, 1) := by decide +kernel
theorem dX7_isAct_53 : decode cX7_isAct 53 = .ok (.iload_n 1, 1) := by decide +kernel
theorem dX7_isAct_54 : decode cX7_isAct 54 = .ok (.invokestatic 79, 3) := by decide +kernel
theorem dX7_isAct_57 : decode cX7_isAct 57 = .ok (.ifCond .eq 16, 3) := by decide +kernel
theorem dX7_isAct_60 : decode cX7_isAct 60 = .ok (.iload_n 2, 1) := by decide +kernel
theorem dX7_isAct_61 : decode cX7_isAct 61 = .ok (.iconst 0, 1) := by decide +kernel
theorem dX7_isAct_62 : decode cX7_isAct 62 = .ok (.iload_n 3, 1) := by decide +kernel
theorem dX7_isAct_63 : decode cX7_isAct 63 = .ok (.invokestatic 75, 3) := by decide +kernel
theorem dX7_isAct_66 : decode cX7_isAct 66 = .ok (.ifCond .eq 7, 3) := by decide +kernel
theorem dX7_isAct_69 : decode cX7_isAct 69 = .ok (.iconst 1, 1) := by decide +kernel
theorem dX7_isAct_70 : decode cX7_isAct 70 = .ok (.goto 4, 3) := by decide +kernel
theorem dX7_isAct_73 : decode cX7_isAct 73 = .ok (.iconst 0, 1) := by decide +kernel
theorem dX7_isAct_74 : decode cX7_isAct 74 = .ok (.ireturn, 1) := by decide +kernel
theorem dX7_isThere_0 : decode cX7_isThere 0 = .ok (.iload_n 1, 1) := by decide +kernel
theorem dX7_isThere_1 : decode cX7_isThere 1 = .ok (.iconst 5, 1) := by decide +kernel
theorem dX7_isThere_2 : decode cX7_isThere 2 = .ok (.irem, 1) := by decide +kernel
theorem dX7_isThere_3 : decode cX7_isThere 3 = .ok (.iconst 4, 1) := by decide +kernel
theorem dX7_isThere_4 : decode cX7_isThere 4 = .ok (.if_icmp .eq 17, 3) := by decide +kernel
theorem dX7_isThere_7 : decode cX7_isThere 7 = .ok (.iload_n 1, 1) := by decide +kernel
theorem dX7_isThere_8 : decode cX7_isThere 8 = .ok (.iconst 5, 1) := by decide +kernel
theorem dX7_isThere_9 : decode cX7_isThere 9 = .ok (.irem, 1) := by decide +kernel
theorem dX7_isThere_10 : decode cX7_isThere 10 = .ok (.aload_n 0, 1) := by decide +kernel
theorem dX7_isThere_11 : decode cX7_isThere 11 = .ok (.getfield 13, 3) := by decide +kernel
theorem dX7_isThere_14 : decode cX7_isThere 14 = .ok (.iload_n 1, 1) := by decide +kernel
theorem dX7_isThere_15 : decode cX7_isThere 15 = .ok (.iconst 5, 1) := by decide +kernel
theorem dX7_isThere_16 : decode cX7_isThere 16 = .ok (.idiv, 1) := by decide +kernel
theorem dX7_isThere_17 : decode cX7_isThere 17 = .ok (.iaload, 1) := by decide +kernel
theorem dX7_isThere_18 : decode cX7_isThere 18 = .ok (.if_icmp .ge 7, 3) := by decide +kernel
theorem dX7_isThere_21 : decode cX7_isThere 21 = .ok (.iconst 1, 1) := by decide +kernel
theorem dX7_isThere_22 : decode cX7_isThere 22 = .ok (.goto 4, 3) := by decide +kernel
theorem dX7_isThere_25 : decode cX7_isThere 25 = .ok (.iconst 0, 1) := by decide +kernel
theorem dX7_isThere_26 : decode cX7_isThere 26 = .ok (.ireturn, 1) := by decide +kernel
theorem dX7_registersOf_0 : decode cX7_registersOf 0 = .ok (.iconst 0, 1) := by decide +kernel
theorem dX7_registersOf_1 : decode cX7_registersOf 1 = .ok (.istore_n 2, 1) := by decide +kernel
theorem dX7_registersOf_2 : decode cX7_registersOf 2 = .ok (.iconst 5, 1) := by decide +kernel
theorem dX7_registersOf_3 : decode cX7_registersOf 3 = .ok (.iload_n 1, 1) := by decide +kernel
theorem dX7_registersOf_4 : decode cX7_registersOf 4 = .ok (.imul, 1) := by decide +kernel
theorem dX7_registersOf_5 : decode cX7_registersOf 5 = .ok (.istore_n 3, 1) := by decide +kernel
theorem dX7_registersOf_6 : decode cX7_registersOf 6 = .ok (.iload_n 3, 1) := by decide +kernel
theorem dX7_registersOf_7 : decode cX7_registersOf 7 = .ok (.iconst 5, 1) := by decide +kernel
theorem dX7_registersOf_8 : decode cX7_registersOf 8 = .ok (.iload_n 1, 1) := by decide +kernel
theorem dX7_registersOf_9 : decode cX7_registersOf 9 = .ok (.imul, 1) := by decide +kernel
theorem dX7_registersOf_10 : decode cX7_registersOf 10 = .ok (.iconst 5, 1) := by decide +kernel
theorem dX7_registersOf_11 : decode cX7_registersOf 11 = .ok (.iadd, 1) := by decide +kernel
theorem dX7_registersOf_12 : decode cX7_registersOf 12 = .ok (.if_icmp .ge 47, 3) := by decide +kernel
theorem dX7_registersOf_15 : decode cX7_registersOf 15 = .ok (.iload_n 2, 1) := by decide +kernel
theorem dX7_registersOf_16 : decode cX7_registersOf 16 = .ok (.aload_n 0, 1) := by decide +kernel
theorem dX7_registersOf_17 : decode cX7_registersOf 17 = .ok (.iload_n 3, 1) := by decide +kernel
theorem dX7_registersOf_18 : decode cX7_registersOf 18 = .ok (.invokevirtual 90, 3) := by decide +kernel
theorem dX7_registersOf_21 : decode cX7_registersOf 21 = .ok (.ifCond .eq 29, 3) := by decide +kernel
theorem dX7_registersOf_24 : decode cX7_registersOf 24 = .ok (.aload_n 0, 1) := by decide +kernel
theorem dX7_registersOf_25 : decode cX7_registersOf 25 = .ok (.getfield 19, 3) := by decide +kernel
theorem dX7_registersOf_28 : decode cX7_registersOf 28 = .ok (.iload_n 3, 1) := by decide +kernel
theorem dX7_registersOf_29 : decode cX7_registersOf 29 = .ok (.iaload, 1) := by decide +kernel
theorem dX7_registersOf_30 : decode cX7_registersOf 30 = .ok (.iconst 5, 1) := by decide +kernel
theorem dX7_registersOf_31 : decode cX7_registersOf 31 = .ok (.bipush 7, 2) := by decide +kernel
theorem dX7_registersOf_33 : decode cX7_registersOf 33 = .ok (.invokestatic 75, 3) := by decide +kernel
theorem dX7_registersOf_36 : decode cX7_registersOf 36 = .ok (.ifCond .eq 14, 3) := by decide +kernel
theorem dX7_registersOf_39 : decode cX7_registersOf 39 = .ok (.iconst 1, 1) := by decide +kernel
theorem dX7_registersOf_40 : decode cX7_registersOf 40 = .ok (.aload_n 0, 1) := by decide +kernel
theorem dX7_registersOf_41 : decode cX7_registersOf 41 = .ok (.getfield 25, 3) := by decide +kernel
theorem dX7_registersOf_44 : decode cX7_registersOf 44 = .ok (.iload_n 3, 1) := by decide +kernel
theorem dX7_registersOf_45 : decode cX7_registersOf 45 = .ok (.iaload, 1) := by decide +kernel
theorem dX7_registersOf_46 : decode cX7_registersOf 46 = .ok (.ishl, 1) := by decide +kernel
theorem dX7_registersOf_47 : decode cX7_registersOf 47 = .ok (.goto 4, 3) := by decide +kernel
theorem dX7_registersOf_50 : decode cX7_registersOf 50 = .ok (.iconst 0, 1) := by decide +kernel
theorem dX7_registersOf_51 : decode cX7_registersOf 51 = .ok (.ior, 1) := by decide +kernel
theorem dX7_registersOf_52 : decode cX7_registersOf 52 = .ok (.istore_n 2, 1) := by decide +kernel
theorem dX7_registersOf_53 : decode cX7_registersOf 53 = .ok (.iinc 3 1, 3) := by decide +kernel
theorem dX7_registersOf_56 : decode cX7_registersOf 56 = .ok (.goto (-50), 3) := by decide +kernel
theorem dX7_registersOf_59 : decode cX7_registersOf 59 = .ok (.iload_n 2, 1) := by decide +kernel
theorem dX7_registersOf_60 : decode cX7_registersOf 60 = .ok (.ireturn, 1) := by decide +kernel
theorem dX7_isTaken_0 : decode cX7_isTaken 0 = .ok (.iconst 0, 1) := by decide +kernel
theorem dX7_isTaken_1 : decode cX7_isTaken 1 = .ok (.istore 4, 2) := by decide +kernel
theorem dX7_isTaken_3 : decode cX7_isTaken 3 = .ok (.iconst 0, 1) := by decide +kernel
theorem dX7_isTaken_4 : decode cX7_isTaken 4 = .ok (.istore 5, 2) := by decide +kernel
theorem dX7_isTaken_6 : decode cX7_isTaken 6 = .ok (.iload 5, 2) := by decide +kernel
theorem dX7_isTaken_8 : decode cX7_isTaken 8 = .ok (.aload_n 0, 1) := by decide +kernel
theorem dX7_isTaken_9 : decode cX7_isTaken 9 = .ok (.getfield 71, 3) := by decide +kernel
theorem dX7_isTaken_12 : decode cX7_isTaken 12 = .ok (.if_icmp .ge 50, 3) := by decide +kernel
theorem dX7_isTaken_15 : decode cX7_isTaken 15 = .ok (.iload_n 2, 1) := by decide +kernel
theorem dX7_isTaken_16 : decode cX7_isTaken 16 = .ok (.iconst 5, 1) := by decide +kernel
theorem dX7_isTaken_17 : decode cX7_isTaken 17 = .ok (.bipush 7, 2) := by decide +kernel
theorem dX7_isTaken_19 : decode cX7_isTaken 19 = .ok (.invokestatic 75, 3) := by decide +kernel
theorem dX7_isTaken_22 : decode cX7_isTaken 22 = .ok (.ifCond .eq 40, 3) := by decide +kernel
theorem dX7_isTaken_25 : decode cX7_isTaken 25 = .ok (.iload 4, 2) := by decide +kernel
theorem dX7_isTaken_27 : decode cX7_isTaken 27 = .ok (.ifCond .ne 22, 3) := by decide +kernel
theorem dX7_isTaken_30 : decode cX7_isTaken 30 = .ok (.iload 5, 2) := by decide +kernel
theorem dX7_isTaken_32 : decode cX7_isTaken 32 = .ok (.iload_n 1, 1) := by decide +kernel
theorem dX7_isTaken_33 : decode cX7_isTaken 33 = .ok (.if_icmp .eq 20, 3) := by decide +kernel
theorem dX7_isTaken_36 : decode cX7_isTaken 36 = .ok (.aload_n 0, 1) := by decide +kernel
theorem dX7_isTaken_37 : decode cX7_isTaken 37 = .ok (.iload 5, 2) := by decide +kernel
theorem dX7_isTaken_39 : decode cX7_isTaken 39 = .ok (.invokevirtual 93, 3) := by decide +kernel
theorem dX7_isTaken_42 : decode cX7_isTaken 42 = .ok (.iload_n 3, 1) := by decide +kernel
theorem dX7_isTaken_43 : decode cX7_isTaken 43 = .ok (.invokestatic 97, 3) := by decide +kernel
theorem dX7_isTaken_46 : decode cX7_isTaken 46 = .ok (.ifCond .eq 7, 3) := by decide +kernel
theorem dX7_isTaken_49 : decode cX7_isTaken 49 = .ok (.iconst 1, 1) := by decide +kernel
theorem dX7_isTaken_50 : decode cX7_isTaken 50 = .ok (.goto 4, 3) := by decide +kernel
theorem dX7_isTaken_53 : decode cX7_isTaken 53 = .ok (.iconst 0, 1) := by decide +kernel
theorem dX7_isTaken_54 : decode cX7_isTaken 54 = .ok (.istore 4, 2) := by decide +kernel
theorem dX7_isTaken_56 : decode cX7_isTaken 56 = .ok (.iinc 5 1, 3) := by decide +kernel
theorem dX7_isTaken_59 : decode cX7_isTaken 59 = .ok (.goto (-53), 3) := by decide +kernel
theorem dX7_isTaken_62 : decode cX7_isTaken 62 = .ok (.iload 4, 2) := by decide +kernel
theorem dX7_isTaken_64 : decode cX7_isTaken 64 = .ok (.ireturn, 1) := by decide +kernel
theorem dX7_entryWith_0 : decode cX7_entryWith 0 = .ok (.bipush (-6), 2) := by decide +kernel
theorem dX7_entryWith_2 : decode cX7_entryWith 2 = .ok (.istore_n 3, 1) := by decide +kernel
theorem dX7_entryWith_3 : decode cX7_entryWith 3 = .ok (.iconst 0, 1) := by decide +kernel
theorem dX7_entryWith_4 : decode cX7_entryWith 4 = .ok (.istore 4, 2) := by decide +kernel
theorem dX7_entryWith_6 : decode cX7_entryWith 6 = .ok (.iload 4, 2) := by decide +kernel
theorem dX7_entryWith_8 : decode cX7_entryWith 8 = .ok (.aload_n 0, 1) := by decide +kernel
theorem dX7_entryWith_9 : decode cX7_entryWith 9 = .ok (.getfield 13, 3) := by decide +kernel
theorem dX7_entryWith_12 : decode cX7_entryWith 12 = .ok (.iload_n 1, 1) := by decide +kernel
theorem dX7_entryWith_13 : decode cX7_entryWith 13 = .ok (.iaload, 1) := by decide +kernel
theorem dX7_entryWith_14 : decode cX7_entryWith 14 = .ok (.if_icmp .ge 31, 3) := by decide +kernel
theorem dX7_entryWith_17 : decode cX7_entryWith 17 = .ok (.aload_n 0, 1) := by decide +kernel
theorem dX7_entryWith_18 : decode cX7_entryWith 18 = .ok (.getfield 16, 3) := by decide +kernel
theorem dX7_entryWith_21 : decode cX7_entryWith 21 = .ok (.iconst 5, 1) := by decide +kernel
theorem dX7_entryWith_22 : decode cX7_entryWith 22 = .ok (.iload_n 1, 1) := by decide +kernel
theorem dX7_entryWith_23 : decode cX7_entryWith 23 = .ok (.imul, 1) := by decide +kernel
theorem dX7_entryWith_24 : decode cX7_entryWith 24 = .ok (.iload 4, 2) := by decide +kernel
theorem dX7_entryWith_26 : decode cX7_entryWith 26 = .ok (.iadd, 1) := by decide +kernel
theorem dX7_entryWith_27 : decode cX7_entryWith 27 = .ok (.iaload, 1) := by decide +kernel
theorem dX7_entryWith_28 : decode cX7_entryWith 28 = .ok (.iload_n 2, 1) := by decide +kernel
theorem dX7_entryWith_29 : decode cX7_entryWith 29 = .ok (.if_icmp .ne 8, 3) := by decide +kernel
theorem dX7_entryWith_32 : decode cX7_entryWith 32 = .ok (.iload 4, 2) := by decide +kernel
theorem dX7_entryWith_34 : decode cX7_entryWith 34 = .ok (.goto 4, 3) := by decide +kernel
theorem dX7_entryWith_37 : decode cX7_entryWith 37 = .ok (.iload_n 3, 1) := by decide +kernel
theorem dX7_entryWith_38 : decode cX7_entryWith 38 = .ok (.istore_n 3, 1) := by decide +kernel
theorem dX7_entryWith_39 : decode cX7_entryWith 39 = .ok (.iinc 4 1, 3) := by decide +kernel
theorem dX7_entryWith_42 : decode cX7_entryWith 42 = .ok (.goto (-36), 3) := by decide +kernel
theorem dX7_entryWith_45 : decode cX7_entryWith 45 = .ok (.iload_n 3, 1) := by decide +kernel
theorem dX7_entryWith_46 : decode cX7_entryWith 46 = .ok (.ireturn, 1) := by decide +kernel
theorem dX7_entry_0 : decode cX7_entry 0 = .ok (.aload_n 0, 1) := by decide +kernel
theorem dX7_entry_1 : decode cX7_entry 1 = .ok (.iload_n 1, 1) := by decide +kernel
theorem dX7_entry_2 : decode cX7_entry 2 = .ok (.invokevirtual 101, 3) := by decide +kernel
theorem dX7_entry_5 : decode cX7_entry 5 = .ok (.ifCond .ne 5, 3) := by decide +kernel
theorem dX7_entry_8 : decode cX7_entry 8 = .ok (.iconst (-1), 1) := by decide +kernel
theorem dX7_entry_9 : decode cX7_entry 9 = .ok (.ireturn, 1) := by decide +kernel
theorem dX7_entry_10 : decode cX7_entry 10 = .ok (.iload_n 2, 1) := by decide +kernel
theorem dX7_entry_11 : decode cX7_entry 11 = .ok (.iconst 0, 1) := by decide +kernel
theorem dX7_entry_12 : decode cX7_entry 12 = .ok (.sipush 255, 3) := by decide +kernel
theorem dX7_entry_15 : decode cX7_entry 15 = .ok (.invokestatic 75, 3) := by decide +kernel
theorem dX7_entry_18 : decode cX7_entry 18 = .ok (.ifCond .eq 14, 3) := by decide +kernel
theorem dX7_entry_21 : decode cX7_entry 21 = .ok (.iload_n 3, 1) := by decide +kernel
theorem dX7_entry_22 : decode cX7_entry 22 = .ok (.iload 4, 2) := by decide +kernel
theorem dX7_entry_24 : decode cX7_entry 24 = .ok (.iload 5, 2) := by decide +kernel
theorem dX7_entry_26 : decode cX7_entry 26 = .ok (.invokestatic 104, 3) := by decide +kernel
theorem dX7_entry_29 : decode cX7_entry 29 = .ok (.ifCond .ne 6, 3) := by decide +kernel
theorem dX7_entry_32 : decode cX7_entry 32 = .ok (.bipush (-2), 2) := by decide +kernel
theorem dX7_entry_34 : decode cX7_entry 34 = .ok (.ireturn, 1) := by decide +kernel
theorem dX7_entry_35 : decode cX7_entry 35 = .ok (.aload_n 0, 1) := by decide +kernel
theorem dX7_entry_36 : decode cX7_entry 36 = .ok (.iload_n 1, 1) := by decide +kernel
theorem dX7_entry_37 : decode cX7_entry 37 = .ok (.iload_n 2, 1) := by decide +kernel
theorem dX7_entry_38 : decode cX7_entry 38 = .ok (.invokevirtual 107, 3) := by decide +kernel
theorem dX7_entry_41 : decode cX7_entry 41 = .ok (.ifCond .ge 14, 3) := by decide +kernel
theorem dX7_entry_44 : decode cX7_entry 44 = .ok (.aload_n 0, 1) := by decide +kernel
theorem dX7_entry_45 : decode cX7_entry 45 = .ok (.iload_n 1, 1) := by decide +kernel
theorem dX7_entry_46 : decode cX7_entry 46 = .ok (.iload_n 3, 1) := by decide +kernel
theorem dX7_entry_47 : decode cX7_entry 47 = .ok (.iload 5, 2) := by decide +kernel
theorem dX7_entry_49 : decode cX7_entry 49 = .ok (.invokevirtual 111, 3) := by decide +kernel
theorem dX7_entry_52 : decode cX7_entry 52 = .ok (.ifCond .eq 6, 3) := by decide +kernel
theorem dX7_entry_55 : decode cX7_entry 55 = .ok (.bipush (-5), 2) := by decide +kernel
theorem dX7_entry_57 : decode cX7_entry 57 = .ok (.ireturn, 1) := by decide +kernel
theorem dX7_entry_58 : decode cX7_entry 58 = .ok (.aload_n 0, 1) := by decide +kernel
theorem dX7_entry_59 : decode cX7_entry 59 = .ok (.getfield 13, 3) := by decide +kernel
theorem dX7_entry_62 : decode cX7_entry 62 = .ok (.iload_n 1, 1) := by decide +kernel
theorem dX7_entry_63 : decode cX7_entry 63 = .ok (.iaload, 1) := by decide +kernel
theorem dX7_entry_64 : decode cX7_entry 64 = .ok (.iconst 4, 1) := by decide +kernel
theorem dX7_entry_65 : decode cX7_entry 65 = .ok (.if_icmp .ne 6, 3) := by decide +kernel
theorem dX7_entry_68 : decode cX7_entry 68 = .ok (.bipush (-4), 2) := by decide +kernel
theorem dX7_entry_70 : decode cX7_entry 70 = .ok (.ireturn, 1) := by decide +kernel
theorem dX7_entry_71 : decode cX7_entry 71 = .ok (.aload_n 0, 1) := by decide +kernel
theorem dX7_entry_72 : decode cX7_entry 72 = .ok (.getfield 16, 3) := by decide +kernel
theorem dX7_entry_75 : decode cX7_entry 75 = .ok (.iconst 5, 1) := by decide +kernel
theorem dX7_entry_76 : decode cX7_entry 76 = .ok (.iload_n 1, 1) := by decide +kernel
theorem dX7_entry_77 : decode cX7_entry 77 = .ok (.imul, 1) := by decide +kernel
theorem dX7_entry_78 : decode cX7_entry 78 = .ok (.aload_n 0, 1) := by decide +kernel
theorem dX7_entry_79 : decode cX7_entry 79 = .ok (.getfield 13, 3) := by decide +kernel
theorem dX7_entry_82 : decode cX7_entry 82 = .ok (.iload_n 1, 1) := by decide +kernel
theorem dX7_entry_83 : decode cX7_entry 83 = .ok (.iaload, 1) := by decide +kernel
theorem dX7_entry_84 : decode cX7_entry 84 = .ok (.iadd, 1) := by decide +kernel
theorem dX7_entry_85 : decode cX7_entry 85 = .ok (.iload_n 2, 1) := by decide +kernel
theorem dX7_entry_86 : decode cX7_entry 86 = .ok (.iastore, 1) := by decide +kernel
theorem dX7_entry_87 : decode cX7_entry 87 = .ok (.aload_n 0, 1) := by decide +kernel
theorem dX7_entry_88 : decode cX7_entry 88 = .ok (.iconst 5, 1) := by decide +kernel
theorem dX7_entry_89 : decode cX7_entry 89 = .ok (.iload_n 1, 1) := by decide +kernel
theorem dX7_entry_90 : decode cX7_entry 90 = .ok (.imul, 1) := by decide +kernel
theorem dX7_entry_91 : decode cX7_entry 91 = .ok (.aload_n 0, 1) := by decide +kernel
theorem dX7_entry_92 : decode cX7_entry 92 = .ok (.getfield 13, 3) := by decide +kernel
theorem dX7_entry_95 : decode cX7_entry 95 = .ok (.iload_n 1, 1) := by decide +kernel
theorem dX7_entry_96 : decode cX7_entry 96 = .ok (.iaload, 1) := by decide +kernel
theorem dX7_entry_97 : decode cX7_entry 97 = .ok (.iadd, 1) := by decide +kernel
theorem dX7_entry_98 : decode cX7_entry 98 = .ok (.iload_n 3, 1) := by decide +kernel
theorem dX7_entry_99 : decode cX7_entry 99 = .ok (.iload 4, 2) := by decide +kernel
theorem dX7_entry_101 : decode cX7_entry 101 = .ok (.iload 5, 2) := by decide +kernel
theorem dX7_entry_103 : decode cX7_entry 103 = .ok (.invokevirtual 83, 3) := by decide +kernel
theorem dX7_entry_106 : decode cX7_entry 106 = .ok (.aload_n 0, 1) := by decide +kernel
theorem dX7_entry_107 : decode cX7_entry 107 = .ok (.getfield 13, 3) := by decide +kernel
theorem dX7_entry_110 : decode cX7_entry 110 = .ok (.iload_n 1, 1) := by decide +kernel
theorem dX7_entry_111 : decode cX7_entry 111 = .ok (.dup2, 1) := by decide +kernel
theorem dX7_entry_112 : decode cX7_entry 112 = .ok (.iaload, 1) := by decide +kernel
theorem dX7_entry_113 : decode cX7_entry 113 = .ok (.iconst 1, 1) := by decide +kernel
theorem dX7_entry_114 : decode cX7_entry 114 = .ok (.iadd, 1) := by decide +kernel
theorem dX7_entry_115 : decode cX7_entry 115 = .ok (.iastore, 1) := by decide +kernel
theorem dX7_entry_116 : decode cX7_entry 116 = .ok (.aload_n 0, 1) := by decide +kernel
theorem dX7_entry_117 : decode cX7_entry 117 = .ok (.getfield 13, 3) := by decide +kernel
theorem dX7_entry_120 : decode cX7_entry 120 = .ok (.iload_n 1, 1) := by decide +kernel
theorem dX7_entry_121 : decode cX7_entry 121 = .ok (.iaload, 1) := by decide +kernel
theorem dX7_entry_122 : decode cX7_entry 122 = .ok (.ireturn, 1) := by decide +kernel
theorem dX7_otherwise_0 : decode cX7_otherwise 0 = .ok (.aload_n 0, 1) := by decide +kernel
theorem dX7_otherwise_1 : decode cX7_otherwise 1 = .ok (.iload_n 1, 1) := by decide +kernel
theorem dX7_otherwise_2 : decode cX7_otherwise 2 = .ok (.invokevirtual 101, 3) := by decide +kernel
theorem dX7_otherwise_5 : decode cX7_otherwise 5 = .ok (.ifCond .ne 5, 3) := by decide +kernel
theorem dX7_otherwise_8 : decode cX7_otherwise 8 = .ok (.iconst (-1), 1) := by decide +kernel
theorem dX7_otherwise_9 : decode cX7_otherwise 9 = .ok (.ireturn, 1) := by decide +kernel
theorem dX7_otherwise_10 : decode cX7_otherwise 10 = .ok (.iload_n 2, 1) := by decide +kernel
theorem dX7_otherwise_11 : decode cX7_otherwise 11 = .ok (.iload_n 3, 1) := by decide +kernel
theorem dX7_otherwise_12 : decode cX7_otherwise 12 = .ok (.iload 4, 2) := by decide +kernel
theorem dX7_otherwise_14 : decode cX7_otherwise 14 = .ok (.invokestatic 104, 3) := by decide +kernel
theorem dX7_otherwise_17 : decode cX7_otherwise 17 = .ok (.ifCond .ne 6, 3) := by decide +kernel
theorem dX7_otherwise_20 : decode cX7_otherwise 20 = .ok (.bipush (-2), 2) := by decide +kernel
theorem dX7_otherwise_22 : decode cX7_otherwise 22 = .ok (.ireturn, 1) := by decide +kernel
theorem dX7_otherwise_23 : decode cX7_otherwise 23 = .ok (.aload_n 0, 1) := by decide +kernel
theorem dX7_otherwise_24 : decode cX7_otherwise 24 = .ok (.iload_n 1, 1) := by decide +kernel
theorem dX7_otherwise_25 : decode cX7_otherwise 25 = .ok (.iload_n 2, 1) := by decide +kernel
theorem dX7_otherwise_26 : decode cX7_otherwise 26 = .ok (.iload 4, 2) := by decide +kernel
theorem dX7_otherwise_28 : decode cX7_otherwise 28 = .ok (.invokevirtual 111, 3) := by decide +kernel
theorem dX7_otherwise_31 : decode cX7_otherwise 31 = .ok (.ifCond .eq 6, 3) := by decide +kernel
theorem dX7_otherwise_34 : decode cX7_otherwise 34 = .ok (.bipush (-5), 2) := by decide +kernel
theorem dX7_otherwise_36 : decode cX7_otherwise 36 = .ok (.ireturn, 1) := by decide +kernel
theorem dX7_otherwise_37 : decode cX7_otherwise 37 = .ok (.aload_n 0, 1) := by decide +kernel
theorem dX7_otherwise_38 : decode cX7_otherwise 38 = .ok (.getfield 19, 3) := by decide +kernel
theorem dX7_otherwise_41 : decode cX7_otherwise 41 = .ok (.iconst 5, 1) := by decide +kernel
theorem dX7_otherwise_42 : decode cX7_otherwise 42 = .ok (.iload_n 1, 1) := by decide +kernel
theorem dX7_otherwise_43 : decode cX7_otherwise 43 = .ok (.imul, 1) := by decide +kernel
theorem dX7_otherwise_44 : decode cX7_otherwise 44 = .ok (.iconst 4, 1) := by decide +kernel
theorem dX7_otherwise_45 : decode cX7_otherwise 45 = .ok (.iadd, 1) := by decide +kernel
theorem dX7_otherwise_46 : decode cX7_otherwise 46 = .ok (.iaload, 1) := by decide +kernel
theorem dX7_otherwise_47 : decode cX7_otherwise 47 = .ok (.istore 5, 2) := by decide +kernel
theorem dX7_otherwise_49 : decode cX7_otherwise 49 = .ok (.aload_n 0, 1) := by decide +kernel
theorem dX7_otherwise_50 : decode cX7_otherwise 50 = .ok (.iconst 5, 1) := by decide +kernel
theorem dX7_otherwise_51 : decode cX7_otherwise 51 = .ok (.iload_n 1, 1) := by decide +kernel
theorem dX7_otherwise_52 : decode cX7_otherwise 52 = .ok (.imul, 1) := by decide +kernel
theorem dX7_otherwise_53 : decode cX7_otherwise 53 = .ok (.iconst 4, 1) := by decide +kernel
theorem dX7_otherwise_54 : decode cX7_otherwise 54 = .ok (.iadd, 1) := by decide +kernel
theorem dX7_otherwise_55 : decode cX7_otherwise 55 = .ok (.iload_n 2, 1) := by decide +kernel
theorem dX7_otherwise_56 : decode cX7_otherwise 56 = .ok (.iload_n 3, 1) := by decide +kernel
theorem dX7_otherwise_57 : decode cX7_otherwise 57 = .ok (.iload 4, 2) := by decide +kernel
theorem dX7_otherwise_59 : decode cX7_otherwise 59 = .ok (.invokevirtual 83, 3) := by decide +kernel
theorem dX7_otherwise_62 : decode cX7_otherwise 62 = .ok (.iload 5, 2) := by decide +kernel
theorem dX7_otherwise_64 : decode cX7_otherwise 64 = .ok (.ireturn, 1) := by decide +kernel
theorem dX7_copy_0 : decode cX7_copy 0 = .ok (.aload_n 0, 1) := by decide +kernel
theorem dX7_copy_1 : decode cX7_copy 1 = .ok (.getfield 16, 3) := by decide +kernel
theorem dX7_copy_4 : decode cX7_copy 4 = .ok (.iload_n 2, 1) := by decide +kernel
theorem dX7_copy_5 : decode cX7_copy 5 = .ok (.aload_n 0, 1) := by decide +kernel
theorem dX7_copy_6 : decode cX7_copy 6 = .ok (.getfield 16, 3) := by decide +kernel
theorem dX7_copy_9 : decode cX7_copy 9 = .ok (.iload_n 1, 1) := by decide +kernel
theorem dX7_copy_10 : decode cX7_copy 10 = .ok (.iaload, 1) := by decide +kernel
theorem dX7_copy_11 : decode cX7_copy 11 = .ok (.iastore, 1) := by decide +kernel
theorem dX7_copy_12 : decode cX7_copy 12 = .ok (.aload_n 0, 1) := by decide +kernel
theorem dX7_copy_13 : decode cX7_copy 13 = .ok (.getfield 19, 3) := by decide +kernel
theorem dX7_copy_16 : decode cX7_copy 16 = .ok (.iload_n 2, 1) := by decide +kernel
theorem dX7_copy_17 : decode cX7_copy 17 = .ok (.aload_n 0, 1) := by decide +kernel
theorem dX7_copy_18 : decode cX7_copy 18 = .ok (.getfield 19, 3) := by decide +kernel
theorem dX7_copy_21 : decode cX7_copy 21 = .ok (.iload_n 1, 1) := by decide +kernel
theorem dX7_copy_22 : decode cX7_copy 22 = .ok (.iaload, 1) := by decide +kernel
theorem dX7_copy_23 : decode cX7_copy 23 = .ok (.iastore, 1) := by decide +kernel
theorem dX7_copy_24 : decode cX7_copy 24 = .ok (.aload_n 0, 1) := by decide +kernel
theorem dX7_copy_25 : decode cX7_copy 25 = .ok (.getfield 22, 3) := by decide +kernel
theorem dX7_copy_28 : decode cX7_copy 28 = .ok (.iload_n 2, 1) := by decide +kernel
theorem dX7_copy_29 : decode cX7_copy 29 = .ok (.aload_n 0, 1) := by decide +kernel
theorem dX7_copy_30 : decode cX7_copy 30 = .ok (.getfield 22, 3) := by decide +kernel
theorem dX7_copy_33 : decode cX7_copy 33 = .ok (.iload_n 1, 1) := by decide +kernel
theorem dX7_copy_34 : decode cX7_copy 34 = .ok (.iaload, 1) := by decide +kernel
theorem dX7_copy_35 : decode cX7_copy 35 = .ok (.iastore, 1) := by decide +kernel
theorem dX7_copy_36 : decode cX7_copy 36 = .ok (.aload_n 0, 1) := by decide +kernel
theorem dX7_copy_37 : decode cX7_copy 37 = .ok (.getfield 25, 3) := by decide +kernel
theorem dX7_copy_40 : decode cX7_copy 40 = .ok (.iload_n 2, 1) := by decide +kernel
theorem dX7_copy_41 : decode cX7_copy 41 = .ok (.aload_n 0, 1) := by decide +kernel
theorem dX7_copy_42 : decode cX7_copy 42 = .ok (.getfield 25, 3) := by decide +kernel
theorem dX7_copy_45 : decode cX7_copy 45 = .ok (.iload_n 1, 1) := by decide +kernel
theorem dX7_copy_46 : decode cX7_copy 46 = .ok (.iaload, 1) := by decide +kernel
theorem dX7_copy_47 : decode cX7_copy 47 = .ok (.iastore, 1) := by decide +kernel
theorem dX7_copy_48 : decode cX7_copy 48 = .ok (.return_, 1) := by decide +kernel
theorem dX7_forget_0 : decode cX7_forget 0 = .ok (.aload_n 0, 1) := by decide +kernel
theorem dX7_forget_1 : decode cX7_forget 1 = .ok (.iload_n 1, 1) := by decide +kernel
theorem dX7_forget_2 : decode cX7_forget 2 = .ok (.invokevirtual 101, 3) := by decide +kernel
theorem dX7_forget_5 : decode cX7_forget 5 = .ok (.ifCond .ne 5, 3) := by decide +kernel
theorem dX7_forget_8 : decode cX7_forget 8 = .ok (.iconst (-1), 1) := by decide +kernel
theorem dX7_forget_9 : decode cX7_forget 9 = .ok (.ireturn, 1) := by decide +kernel
theorem dX7_forget_10 : decode cX7_forget 10 = .ok (.iload_n 2, 1) := by decide +kernel
theorem dX7_forget_11 : decode cX7_forget 11 = .ok (.iconst 0, 1) := by decide +kernel
theorem dX7_forget_12 : decode cX7_forget 12 = .ok (.aload_n 0, 1) := by decide +kernel
theorem dX7_forget_13 : decode cX7_forget 13 = .ok (.getfield 13, 3) := by decide +kernel
theorem dX7_forget_16 : decode cX7_forget 16 = .ok (.iload_n 1, 1) := by decide +kernel
theorem dX7_forget_17 : decode cX7_forget 17 = .ok (.iaload, 1) := by decide +kernel
theorem dX7_forget_18 : decode cX7_forget 18 = .ok (.iconst 1, 1) := by decide +kernel
theorem dX7_forget_19 : decode cX7_forget 19 = .ok (.isub, 1) := by decide +kernel
theorem dX7_forget_20 : decode cX7_forget 20 = .ok (.invokestatic 75, 3) := by decide +kernel
theorem dX7_forget_23 : decode cX7_forget 23 = .ok (.ifCond .ne 6, 3) := by decide +kernel
theorem dX7_forget_26 : decode cX7_forget 26 = .ok (.bipush (-2), 2) := by decide +kernel
theorem dX7_forget_28 : decode cX7_forget 28 = .ok (.ireturn, 1) := by decide +kernel
theorem dX7_forget_29 : decode cX7_forget 29 = .ok (.aload_n 0, 1) := by decide +kernel
theorem dX7_forget_30 : decode cX7_forget 30 = .ok (.getfield 13, 3) := by decide +kernel
theorem dX7_forget_33 : decode cX7_forget 33 = .ok (.iload_n 1, 1) := by decide +kernel
theorem dX7_forget_34 : decode cX7_forget 34 = .ok (.dup2, 1) := by decide +kernel
theorem dX7_forget_35 : decode cX7_forget 35 = .ok (.iaload, 1) := by decide +kernel
theorem dX7_forget_36 : decode cX7_forget 36 = .ok (.iconst 1, 1) := by decide +kernel
theorem dX7_forget_37 : decode cX7_forget 37 = .ok (.isub, 1) := by decide +kernel
theorem dX7_forget_38 : decode cX7_forget 38 = .ok (.iastore, 1) := by decide +kernel
theorem dX7_forget_39 : decode cX7_forget 39 = .ok (.iload_n 2, 1) := by decide +kernel
theorem dX7_forget_40 : decode cX7_forget 40 = .ok (.istore_n 3, 1) := by decide +kernel
theorem dX7_forget_41 : decode cX7_forget 41 = .ok (.iload_n 3, 1) := by decide +kernel
theorem dX7_forget_42 : decode cX7_forget 42 = .ok (.aload_n 0, 1) := by decide +kernel
theorem dX7_forget_43 : decode cX7_forget 43 = .ok (.getfield 13, 3) := by decide +kernel
theorem dX7_forget_46 : decode cX7_forget 46 = .ok (.iload_n 1, 1) := by decide +kernel
theorem dX7_forget_47 : decode cX7_forget 47 = .ok (.iaload, 1) := by decide +kernel
theorem dX7_forget_48 : decode cX7_forget 48 = .ok (.if_icmp .ge 25, 3) := by decide +kernel
theorem dX7_forget_51 : decode cX7_forget 51 = .ok (.aload_n 0, 1) := by decide +kernel
theorem dX7_forget_52 : decode cX7_forget 52 = .ok (.iconst 5, 1) := by decide +kernel
theorem dX7_forget_53 : decode cX7_forget 53 = .ok (.iload_n 1, 1) := by decide +kernel
theorem dX7_forget_54 : decode cX7_forget 54 = .ok (.imul, 1) := by decide +kernel
theorem dX7_forget_55 : decode cX7_forget 55 = .ok (.iload_n 3, 1) := by decide +kernel
theorem dX7_forget_56 : decode cX7_forget 56 = .ok (.iadd, 1) := by decide +kernel
theorem dX7_forget_57 : decode cX7_forget 57 = .ok (.iconst 1, 1) := by decide +kernel
theorem dX7_forget_58 : decode cX7_forget 58 = .ok (.iadd, 1) := by decide +kernel
theorem dX7_forget_59 : decode cX7_forget 59 = .ok (.iconst 5, 1) := by decide +kernel
theorem dX7_forget_60 : decode cX7_forget 60 = .ok (.iload_n 1, 1) := by decide +kernel
theorem dX7_forget_61 : decode cX7_forget 61 = .ok (.imul, 1) := by decide +kernel
theorem dX7_forget_62 : decode cX7_forget 62 = .ok (.iload_n 3, 1) := by decide +kernel
theorem dX7_forget_63 : decode cX7_forget 63 = .ok (.iadd, 1) := by decide +kernel
theorem dX7_forget_64 : decode cX7_forget 64 = .ok (.invokevirtual 114, 3) := by decide +kernel
theorem dX7_forget_67 : decode cX7_forget 67 = .ok (.iinc 3 1, 3) := by decide +kernel
theorem dX7_forget_70 : decode cX7_forget 70 = .ok (.goto (-29), 3) := by decide +kernel
theorem dX7_forget_73 : decode cX7_forget 73 = .ok (.aload_n 0, 1) := by decide +kernel
theorem dX7_forget_74 : decode cX7_forget 74 = .ok (.getfield 13, 3) := by decide +kernel
theorem dX7_forget_77 : decode cX7_forget 77 = .ok (.iload_n 1, 1) := by decide +kernel
theorem dX7_forget_78 : decode cX7_forget 78 = .ok (.iaload, 1) := by decide +kernel
theorem dX7_forget_79 : decode cX7_forget 79 = .ok (.ireturn, 1) := by decide +kernel
theorem dX7_drop_0 : decode cX7_drop 0 = .ok (.aload_n 0, 1) := by decide +kernel
theorem dX7_drop_1 : decode cX7_drop 1 = .ok (.iload_n 1, 1) := by decide +kernel
theorem dX7_drop_2 : decode cX7_drop 2 = .ok (.invokevirtual 101, 3) := by decide +kernel
theorem dX7_drop_5 : decode cX7_drop 5 = .ok (.ifCond .ne 5, 3) := by decide +kernel
theorem dX7_drop_8 : decode cX7_drop 8 = .ok (.iconst (-1), 1) := by decide +kernel
theorem dX7_drop_9 : decode cX7_drop 9 = .ok (.ireturn, 1) := by decide +kernel
theorem dX7_drop_10 : decode cX7_drop 10 = .ok (.aload_n 0, 1) := by decide +kernel
theorem dX7_drop_11 : decode cX7_drop 11 = .ok (.dup, 1) := by decide +kernel
theorem dX7_drop_12 : decode cX7_drop 12 = .ok (.getfield 71, 3) := by decide +kernel
theorem dX7_drop_15 : decode cX7_drop 15 = .ok (.iconst 1, 1) := by decide +kernel
theorem dX7_drop_16 : decode cX7_drop 16 = .ok (.isub, 1) := by decide +kernel
theorem dX7_drop_17 : decode cX7_drop 17 = .ok (.putfield 71, 3) := by decide +kernel
theorem dX7_drop_20 : decode cX7_drop 20 = .ok (.iload_n 1, 1) := by decide +kernel
theorem dX7_drop_21 : decode cX7_drop 21 = .ok (.istore_n 2, 1) := by decide +kernel
theorem dX7_drop_22 : decode cX7_drop 22 = .ok (.iload_n 2, 1) := by decide +kernel
theorem dX7_drop_23 : decode cX7_drop 23 = .ok (.aload_n 0, 1) := by decide +kernel
theorem dX7_drop_24 : decode cX7_drop 24 = .ok (.getfield 71, 3) := by decide +kernel
theorem dX7_drop_27 : decode cX7_drop 27 = .ok (.if_icmp .ge 66, 3) := by decide +kernel
theorem dX7_drop_30 : decode cX7_drop 30 = .ok (.aload_n 0, 1) := by decide +kernel
theorem dX7_drop_31 : decode cX7_drop 31 = .ok (.getfield 7, 3) := by decide +kernel
theorem dX7_drop_34 : decode cX7_drop 34 = .ok (.iload_n 2, 1) := by decide +kernel
theorem dX7_drop_35 : decode cX7_drop 35 = .ok (.aload_n 0, 1) := by decide +kernel
theorem dX7_drop_36 : decode cX7_drop 36 = .ok (.getfield 7, 3) := by decide +kernel
theorem dX7_drop_39 : decode cX7_drop 39 = .ok (.iload_n 2, 1) := by decide +kernel
theorem dX7_drop_40 : decode cX7_drop 40 = .ok (.iconst 1, 1) := by decide +kernel
theorem dX7_drop_41 : decode cX7_drop 41 = .ok (.iadd, 1) := by decide +kernel
theorem dX7_drop_42 : decode cX7_drop 42 = .ok (.iaload, 1) := by decide +kernel
theorem dX7_drop_43 : decode cX7_drop 43 = .ok (.iastore, 1) := by decide +kernel
theorem dX7_drop_44 : decode cX7_drop 44 = .ok (.aload_n 0, 1) := by decide +kernel
theorem dX7_drop_45 : decode cX7_drop 45 = .ok (.getfield 13, 3) := by decide +kernel
theorem dX7_drop_48 : decode cX7_drop 48 = .ok (.iload_n 2, 1) := by decide +kernel
theorem dX7_drop_49 : decode cX7_drop 49 = .ok (.aload_n 0, 1) := by decide +kernel
theorem dX7_drop_50 : decode cX7_drop 50 = .ok (.getfield 13, 3) := by decide +kernel
theorem dX7_drop_53 : decode cX7_drop 53 = .ok (.iload_n 2, 1) := by decide +kernel
theorem dX7_drop_54 : decode cX7_drop 54 = .ok (.iconst 1, 1) := by decide +kernel
theorem dX7_drop_55 : decode cX7_drop 55 = .ok (.iadd, 1) := by decide +kernel
theorem dX7_drop_56 : decode cX7_drop 56 = .ok (.iaload, 1) := by decide +kernel
theorem dX7_drop_57 : decode cX7_drop 57 = .ok (.iastore, 1) := by decide +kernel
theorem dX7_drop_58 : decode cX7_drop 58 = .ok (.iconst 0, 1) := by decide +kernel
theorem dX7_drop_59 : decode cX7_drop 59 = .ok (.istore_n 3, 1) := by decide +kernel
theorem dX7_drop_60 : decode cX7_drop 60 = .ok (.iload_n 3, 1) := by decide +kernel
theorem dX7_drop_61 : decode cX7_drop 61 = .ok (.iconst 5, 1) := by decide +kernel
theorem dX7_drop_62 : decode cX7_drop 62 = .ok (.if_icmp .ge 25, 3) := by decide +kernel
theorem dX7_drop_65 : decode cX7_drop 65 = .ok (.aload_n 0, 1) := by decide +kernel
theorem dX7_drop_66 : decode cX7_drop 66 = .ok (.iconst 5, 1) := by decide +kernel
theorem dX7_drop_67 : decode cX7_drop 67 = .ok (.iload_n 2, 1) := by decide +kernel
theorem dX7_drop_68 : decode cX7_drop 68 = .ok (.imul, 1) := by decide +kernel
theorem dX7_drop_69 : decode cX7_drop 69 = .ok (.iconst 5, 1) := by decide +kernel
theorem dX7_drop_70 : decode cX7_drop 70 = .ok (.iadd, 1) := by decide +kernel
theorem dX7_drop_71 : decode cX7_drop 71 = .ok (.iload_n 3, 1) := by decide +kernel
theorem dX7_drop_72 : decode cX7_drop 72 = .ok (.iadd, 1) := by decide +kernel
theorem dX7_drop_73 : decode cX7_drop 73 = .ok (.iconst 5, 1) := by decide +kernel
theorem dX7_drop_74 : decode cX7_drop 74 = .ok (.iload_n 2, 1) := by decide +kernel
theorem dX7_drop_75 : decode cX7_drop 75 = .ok (.imul, 1) := by decide +kernel
theorem dX7_drop_76 : decode cX7_drop 76 = .ok (.iload_n 3, 1) := by decide +kernel
theorem dX7_drop_77 : decode cX7_drop 77 = .ok (.iadd, 1) := by decide +kernel
theorem dX7_drop_78 : decode cX7_drop 78 = .ok (.invokevirtual 114, 3) := by decide +kernel
theorem dX7_drop_81 : decode cX7_drop 81 = .ok (.iinc 3 1, 3) := by decide +kernel
theorem dX7_drop_84 : decode cX7_drop 84 = .ok (.goto (-24), 3) := by decide +kernel
theorem dX7_drop_87 : decode cX7_drop 87 = .ok (.iinc 2 1, 3) := by decide +kernel
theorem dX7_drop_90 : decode cX7_drop 90 = .ok (.goto (-68), 3) := by decide +kernel
theorem dX7_drop_93 : decode cX7_drop 93 = .ok (.aload_n 0, 1) := by decide +kernel
theorem dX7_drop_94 : decode cX7_drop 94 = .ok (.getfield 71, 3) := by decide +kernel
theorem dX7_drop_97 : decode cX7_drop 97 = .ok (.ireturn, 1) := by decide +kernel
theorem dX7_rule_0 : decode cX7_rule 0 = .ok (.iload_n 1, 1) := by decide +kernel
theorem dX7_rule_1 : decode cX7_rule 1 = .ok (.iconst 0, 1) := by decide +kernel
theorem dX7_rule_2 : decode cX7_rule 2 = .ok (.iconst 3, 1) := by decide +kernel
theorem dX7_rule_3 : decode cX7_rule 3 = .ok (.invokestatic 75, 3) := by decide +kernel
theorem dX7_rule_6 : decode cX7_rule 6 = .ok (.ifCond .eq 39, 3) := by decide +kernel
theorem dX7_rule_9 : decode cX7_rule 9 = .ok (.iload_n 2, 1) := by decide +kernel
theorem dX7_rule_10 : decode cX7_rule 10 = .ok (.iload_n 1, 1) := by decide +kernel
theorem dX7_rule_11 : decode cX7_rule 11 = .ok (.ifCond .ne 7, 3) := by decide +kernel
theorem dX7_rule_14 : decode cX7_rule 14 = .ok (.iconst 5, 1) := by decide +kernel
theorem dX7_rule_15 : decode cX7_rule 15 = .ok (.goto 4, 3) := by decide +kernel
theorem dX7_rule_18 : decode cX7_rule 18 = .ok (.iconst 1, 1) := by decide +kernel
theorem dX7_rule_19 : decode cX7_rule 19 = .ok (.iload_n 1, 1) := by decide +kernel
theorem dX7_rule_20 : decode cX7_rule 20 = .ok (.ifCond .ne 8, 3) := by decide +kernel
theorem dX7_rule_23 : decode cX7_rule 23 = .ok (.bipush 20, 2) := by decide +kernel
theorem dX7_rule_25 : decode cX7_rule 25 = .ok (.goto 14, 3) := by decide +kernel
theorem dX7_rule_28 : decode cX7_rule 28 = .ok (.iload_n 1, 1) := by decide +kernel
theorem dX7_rule_29 : decode cX7_rule 29 = .ok (.iconst 2, 1) := by decide +kernel
theorem dX7_rule_30 : decode cX7_rule 30 = .ok (.if_icmp .ne 8, 3) := by decide +kernel
theorem dX7_rule_33 : decode cX7_rule 33 = .ok (.bipush 8, 2) := by decide +kernel
theorem dX7_rule_35 : decode cX7_rule 35 = .ok (.goto 4, 3) := by decide +kernel
theorem dX7_rule_38 : decode cX7_rule 38 = .ok (.iconst 4, 1) := by decide +kernel
theorem dX7_rule_39 : decode cX7_rule 39 = .ok (.invokestatic 75, 3) := by decide +kernel
theorem dX7_rule_42 : decode cX7_rule 42 = .ok (.ifCond .ne 6, 3) := by decide +kernel
theorem dX7_rule_45 : decode cX7_rule 45 = .ok (.bipush (-2), 2) := by decide +kernel
theorem dX7_rule_47 : decode cX7_rule 47 = .ok (.ireturn, 1) := by decide +kernel
theorem dX7_rule_48 : decode cX7_rule 48 = .ok (.aload_n 0, 1) := by decide +kernel
theorem dX7_rule_49 : decode cX7_rule 49 = .ok (.getfield 34, 3) := by decide +kernel
theorem dX7_rule_52 : decode cX7_rule 52 = .ok (.iload_n 1, 1) := by decide +kernel
theorem dX7_rule_53 : decode cX7_rule 53 = .ok (.iaload, 1) := by decide +kernel
theorem dX7_rule_54 : decode cX7_rule 54 = .ok (.istore_n 3, 1) := by decide +kernel
theorem dX7_rule_55 : decode cX7_rule 55 = .ok (.aload_n 0, 1) := by decide +kernel
theorem dX7_rule_56 : decode cX7_rule 56 = .ok (.getfield 34, 3) := by decide +kernel
theorem dX7_rule_59 : decode cX7_rule 59 = .ok (.iload_n 1, 1) := by decide +kernel
theorem dX7_rule_60 : decode cX7_rule 60 = .ok (.iload_n 2, 1) := by decide +kernel
theorem dX7_rule_61 : decode cX7_rule 61 = .ok (.iastore, 1) := by decide +kernel
theorem dX7_rule_62 : decode cX7_rule 62 = .ok (.iload_n 3, 1) := by decide +kernel
theorem dX7_rule_63 : decode cX7_rule 63 = .ok (.ireturn, 1) := by decide +kernel
theorem dX7_writes_0 : decode cX7_writes 0 = .ok (.iconst 0, 1) := by decide +kernel
theorem dX7_writes_1 : decode cX7_writes 1 = .ok (.istore_n 2, 1) := by decide +kernel
theorem dX7_writes_2 : decode cX7_writes 2 = .ok (.iconst 5, 1) := by decide +kernel
theorem dX7_writes_3 : decode cX7_writes 3 = .ok (.iload_n 1, 1) := by decide +kernel
theorem dX7_writes_4 : decode cX7_writes 4 = .ok (.imul, 1) := by decide +kernel
theorem dX7_writes_5 : decode cX7_writes 5 = .ok (.istore_n 3, 1) := by decide +kernel
theorem dX7_writes_6 : decode cX7_writes 6 = .ok (.iload_n 3, 1) := by decide +kernel
theorem dX7_writes_7 : decode cX7_writes 7 = .ok (.iconst 5, 1) := by decide +kernel
theorem dX7_writes_8 : decode cX7_writes 8 = .ok (.iload_n 1, 1) := by decide +kernel
theorem dX7_writes_9 : decode cX7_writes 9 = .ok (.imul, 1) := by decide +kernel
theorem dX7_writes_10 : decode cX7_writes 10 = .ok (.iconst 5, 1) := by decide +kernel
theorem dX7_writes_11 : decode cX7_writes 11 = .ok (.iadd, 1) := by decide +kernel
theorem dX7_writes_12 : decode cX7_writes 12 = .ok (.if_icmp .ge 44, 3) := by decide +kernel
theorem dX7_writes_15 : decode cX7_writes 15 = .ok (.iload_n 2, 1) := by decide +kernel
theorem dX7_writes_16 : decode cX7_writes 16 = .ok (.aload_n 0, 1) := by decide +kernel
theorem dX7_writes_17 : decode cX7_writes 17 = .ok (.iload_n 3, 1) := by decide +kernel
theorem dX7_writes_18 : decode cX7_writes 18 = .ok (.invokevirtual 90, 3) := by decide +kernel
theorem dX7_writes_21 : decode cX7_writes 21 = .ok (.ifCond .eq 26, 3) := by decide +kernel
theorem dX7_writes_24 : decode cX7_writes 24 = .ok (.aload_n 0, 1) := by decide +kernel
theorem dX7_writes_25 : decode cX7_writes 25 = .ok (.getfield 19, 3) := by decide +kernel
theorem dX7_writes_28 : decode cX7_writes 28 = .ok (.iload_n 3, 1) := by decide +kernel
theorem dX7_writes_29 : decode cX7_writes 29 = .ok (.iaload, 1) := by decide +kernel
theorem dX7_writes_30 : decode cX7_writes 30 = .ok (.invokestatic 87, 3) := by decide +kernel
theorem dX7_writes_33 : decode cX7_writes 33 = .ok (.ifCond .eq 14, 3) := by decide +kernel
theorem dX7_writes_36 : decode cX7_writes 36 = .ok (.iconst 1, 1) := by decide +kernel
theorem dX7_writes_37 : decode cX7_writes 37 = .ok (.aload_n 0, 1) := by decide +kernel
theorem dX7_writes_38 : decode cX7_writes 38 = .ok (.getfield 22, 3) := by decide +kernel
theorem dX7_writes_41 : decode cX7_writes 41 = .ok (.iload_n 3, 1) := by decide +kernel
theorem dX7_writes_42 : decode cX7_writes 42 = .ok (.iaload, 1) := by decide +kernel
theorem dX7_writes_43 : decode cX7_writes 43 = .ok (.ishl, 1) := by decide +kernel
theorem dX7_writes_44 : decode cX7_writes 44 = .ok (.goto 4, 3) := by decide +kernel
theorem dX7_writes_47 : decode cX7_writes 47 = .ok (.iconst 0, 1) := by decide +kernel
theorem dX7_writes_48 : decode cX7_writes 48 = .ok (.ior, 1) := by decide +kernel
theorem dX7_writes_49 : decode cX7_writes 49 = .ok (.istore_n 2, 1) := by decide +kernel
theorem dX7_writes_50 : decode cX7_writes 50 = .ok (.iinc 3 1, 3) := by decide +kernel
theorem dX7_writes_53 : decode cX7_writes 53 = .ok (.goto (-47), 3) := by decide +kernel
theorem dX7_writes_56 : decode cX7_writes 56 = .ok (.iload_n 2, 1) := by decide +kernel
theorem dX7_writes_57 : decode cX7_writes 57 = .ok (.ireturn, 1) := by decide +kernel
theorem dX7_reads_0 : decode cX7_reads 0 = .ok (.iconst 1, 1) := by decide +kernel
theorem dX7_reads_1 : decode cX7_reads 1 = .ok (.aload_n 0, 1) := by decide +kernel
theorem dX7_reads_2 : decode cX7_reads 2 = .ok (.getfield 7, 3) := by decide +kernel
theorem dX7_reads_5 : decode cX7_reads 5 = .ok (.iload_n 1, 1) := by decide +kernel
theorem dX7_reads_6 : decode cX7_reads 6 = .ok (.iaload, 1) := by decide +kernel
theorem dX7_reads_7 : decode cX7_reads 7 = .ok (.ishl, 1) := by decide +kernel
theorem dX7_reads_8 : decode cX7_reads 8 = .ok (.istore_n 2, 1) := by decide +kernel
theorem dX7_reads_9 : decode cX7_reads 9 = .ok (.iconst 5, 1) := by decide +kernel
theorem dX7_reads_10 : decode cX7_reads 10 = .ok (.iload_n 1, 1) := by decide +kernel
theorem dX7_reads_11 : decode cX7_reads 11 = .ok (.imul, 1) := by decide +kernel
theorem dX7_reads_12 : decode cX7_reads 12 = .ok (.istore_n 3, 1) := by decide +kernel
theorem dX7_reads_13 : decode cX7_reads 13 = .ok (.iload_n 3, 1) := by decide +kernel
theorem dX7_reads_14 : decode cX7_reads 14 = .ok (.iconst 5, 1) := by decide +kernel
theorem dX7_reads_15 : decode cX7_reads 15 = .ok (.iload_n 1, 1) := by decide +kernel
theorem dX7_reads_16 : decode cX7_reads 16 = .ok (.imul, 1) := by decide +kernel
theorem dX7_reads_17 : decode cX7_reads 17 = .ok (.iconst 5, 1) := by decide +kernel
theorem dX7_reads_18 : decode cX7_reads 18 = .ok (.iadd, 1) := by decide +kernel
theorem dX7_reads_19 : decode cX7_reads 19 = .ok (.if_icmp .ge 93, 3) := by decide +kernel
theorem dX7_reads_22 : decode cX7_reads 22 = .ok (.aload_n 0, 1) := by decide +kernel
