theorem dX12_init_0 : decode cX12_init 0 = .ok (.aload_n 0, 1) := by decide +kernel
theorem dX12_init_1 : decode cX12_init 1 = .ok (.invokespecial 1, 3) := by decide +kernel
theorem dX12_init_4 : decode cX12_init 4 = .ok (.aload_n 0, 1) := by decide +kernel
theorem dX12_init_5 : decode cX12_init 5 = .ok (.bipush 20, 2) := by decide +kernel
theorem dX12_init_7 : decode cX12_init 7 = .ok (.newarray .int, 2) := by decide +kernel
theorem dX12_init_9 : decode cX12_init 9 = .ok (.putfield 7, 3) := by decide +kernel
theorem dX12_init_12 : decode cX12_init 12 = .ok (.aload_n 0, 1) := by decide +kernel
theorem dX12_init_13 : decode cX12_init 13 = .ok (.bipush 20, 2) := by decide +kernel
theorem dX12_init_15 : decode cX12_init 15 = .ok (.newarray .int, 2) := by decide +kernel
theorem dX12_init_17 : decode cX12_init 17 = .ok (.putfield 13, 3) := by decide +kernel
theorem dX12_init_20 : decode cX12_init 20 = .ok (.aload_n 0, 1) := by decide +kernel
theorem dX12_init_21 : decode cX12_init 21 = .ok (.bipush 20, 2) := by decide +kernel
theorem dX12_init_23 : decode cX12_init 23 = .ok (.newarray .int, 2) := by decide +kernel
theorem dX12_init_25 : decode cX12_init 25 = .ok (.putfield 16, 3) := by decide +kernel
theorem dX12_init_28 : decode cX12_init 28 = .ok (.aload_n 0, 1) := by decide +kernel
theorem dX12_init_29 : decode cX12_init 29 = .ok (.bipush 20, 2) := by decide +kernel
theorem dX12_init_31 : decode cX12_init 31 = .ok (.newarray .int, 2) := by decide +kernel
theorem dX12_init_33 : decode cX12_init 33 = .ok (.putfield 19, 3) := by decide +kernel
theorem dX12_init_36 : decode cX12_init 36 = .ok (.aload_n 0, 1) := by decide +kernel
theorem dX12_init_37 : decode cX12_init 37 = .ok (.bipush 20, 2) := by decide +kernel
theorem dX12_init_39 : decode cX12_init 39 = .ok (.newarray .int, 2) := by decide +kernel
theorem dX12_init_41 : decode cX12_init 41 = .ok (.putfield 22, 3) := by decide +kernel
theorem dX12_init_44 : decode cX12_init 44 = .ok (.aload_n 0, 1) := by decide +kernel
theorem dX12_init_45 : decode cX12_init 45 = .ok (.bipush 20, 2) := by decide +kernel
theorem dX12_init_47 : decode cX12_init 47 = .ok (.newarray .int, 2) := by decide +kernel
theorem dX12_init_49 : decode cX12_init 49 = .ok (.putfield 25, 3) := by decide +kernel
theorem dX12_init_52 : decode cX12_init 52 = .ok (.aload_n 0, 1) := by decide +kernel
theorem dX12_init_53 : decode cX12_init 53 = .ok (.bipush 20, 2) := by decide +kernel
theorem dX12_init_55 : decode cX12_init 55 = .ok (.newarray .int, 2) := by decide +kernel
theorem dX12_init_57 : decode cX12_init 57 = .ok (.putfield 28, 3) := by decide +kernel
theorem dX12_init_60 : decode cX12_init 60 = .ok (.aload_n 0, 1) := by decide +kernel
theorem dX12_init_61 : decode cX12_init 61 = .ok (.bipush 20, 2) := by decide +kernel
theorem dX12_init_63 : decode cX12_init 63 = .ok (.newarray .int, 2) := by decide +kernel
theorem dX12_init_65 : decode cX12_init 65 = .ok (.putfield 31, 3) := by decide +kernel
theorem dX12_init_68 : decode cX12_init 68 = .ok (.aload_n 0, 1) := by decide +kernel
theorem dX12_init_69 : decode cX12_init 69 = .ok (.sipush 300, 3) := by decide +kernel
theorem dX12_init_72 : decode cX12_init 72 = .ok (.newarray .int, 2) := by decide +kernel
theorem dX12_init_74 : decode cX12_init 74 = .ok (.putfield 34, 3) := by decide +kernel
theorem dX12_init_77 : decode cX12_init 77 = .ok (.aload_n 0, 1) := by decide +kernel
theorem dX12_init_78 : decode cX12_init 78 = .ok (.sipush 300, 3) := by decide +kernel
theorem dX12_init_81 : decode cX12_init 81 = .ok (.newarray .int, 2) := by decide +kernel
theorem dX12_init_83 : decode cX12_init 83 = .ok (.putfield 37, 3) := by decide +kernel
theorem dX12_init_86 : decode cX12_init 86 = .ok (.aload_n 0, 1) := by decide +kernel
theorem dX12_init_87 : decode cX12_init 87 = .ok (.sipush 300, 3) := by decide +kernel
theorem dX12_init_90 : decode cX12_init 90 = .ok (.newarray .int, 2) := by decide +kernel
theorem dX12_init_92 : decode cX12_init 92 = .ok (.putfield 40, 3) := by decide +kernel
theorem dX12_init_95 : decode cX12_init 95 = .ok (.aload_n 0, 1) := by decide +kernel
theorem dX12_init_96 : decode cX12_init 96 = .ok (.sipush 300, 3) := by decide +kernel
theorem dX12_init_99 : decode cX12_init 99 = .ok (.newarray .int, 2) := by decide +kernel
theorem dX12_init_101 : decode cX12_init 101 = .ok (.putfield 43, 3) := by decide +kernel
theorem dX12_init_104 : decode cX12_init 104 = .ok (.aload_n 0, 1) := by decide +kernel
theorem dX12_init_105 : decode cX12_init 105 = .ok (.bipush 60, 2) := by decide +kernel
theorem dX12_init_107 : decode cX12_init 107 = .ok (.newarray .int, 2) := by decide +kernel
theorem dX12_init_109 : decode cX12_init 109 = .ok (.putfield 46, 3) := by decide +kernel
theorem dX12_init_112 : decode cX12_init 112 = .ok (.aload_n 0, 1) := by decide +kernel
theorem dX12_init_113 : decode cX12_init 113 = .ok (.bipush 60, 2) := by decide +kernel
theorem dX12_init_115 : decode cX12_init 115 = .ok (.newarray .int, 2) := by decide +kernel
theorem dX12_init_117 : decode cX12_init 117 = .ok (.putfield 49, 3) := by decide +kernel
theorem dX12_init_120 : decode cX12_init 120 = .ok (.aload_n 0, 1) := by decide +kernel
theorem dX12_init_121 : decode cX12_init 121 = .ok (.bipush 60, 2) := by decide +kernel
theorem dX12_init_123 : decode cX12_init 123 = .ok (.newarray .int, 2) := by decide +kernel
theorem dX12_init_125 : decode cX12_init 125 = .ok (.putfield 52, 3) := by decide +kernel
theorem dX12_init_128 : decode cX12_init 128 = .ok (.aload_n 0, 1) := by decide +kernel
theorem dX12_init_129 : decode cX12_init 129 = .ok (.bipush 60, 2) := by decide +kernel
theorem dX12_init_131 : decode cX12_init 131 = .ok (.newarray .int, 2) := by decide +kernel
theorem dX12_init_133 : decode cX12_init 133 = .ok (.putfield 55, 3) := by decide +kernel
theorem dX12_init_136 : decode cX12_init 136 = .ok (.aload_n 0, 1) := by decide +kernel
theorem dX12_init_137 : decode cX12_init 137 = .ok (.bipush 60, 2) := by decide +kernel
theorem dX12_init_139 : decode cX12_init 139 = .ok (.newarray .int, 2) := by decide +kernel
theorem dX12_init_141 : decode cX12_init 141 = .ok (.putfield 58, 3) := by decide +kernel
theorem dX12_init_144 : decode cX12_init 144 = .ok (.aload_n 0, 1) := by decide +kernel
theorem dX12_init_145 : decode cX12_init 145 = .ok (.bipush 13, 2) := by decide +kernel
theorem dX12_init_147 : decode cX12_init 147 = .ok (.newarray .int, 2) := by decide +kernel
theorem dX12_init_149 : decode cX12_init 149 = .ok (.putfield 61, 3) := by decide +kernel
theorem dX12_init_152 : decode cX12_init 152 = .ok (.aload_n 0, 1) := by decide +kernel
theorem dX12_init_153 : decode cX12_init 153 = .ok (.sipush 620, 3) := by decide +kernel
theorem dX12_init_156 : decode cX12_init 156 = .ok (.newarray .int, 2) := by decide +kernel
theorem dX12_init_158 : decode cX12_init 158 = .ok (.putfield 64, 3) := by decide +kernel
theorem dX12_init_161 : decode cX12_init 161 = .ok (.aload_n 0, 1) := by decide +kernel
theorem dX12_init_162 : decode cX12_init 162 = .ok (.bipush 13, 2) := by decide +kernel
theorem dX12_init_164 : decode cX12_init 164 = .ok (.newarray .int, 2) := by decide +kernel
theorem dX12_init_166 : decode cX12_init 166 = .ok (.putfield 67, 3) := by decide +kernel
theorem dX12_init_169 : decode cX12_init 169 = .ok (.aload_n 0, 1) := by decide +kernel
theorem dX12_init_170 : decode cX12_init 170 = .ok (.sipush 620, 3) := by decide +kernel
theorem dX12_init_173 : decode cX12_init 173 = .ok (.newarray .int, 2) := by decide +kernel
theorem dX12_init_175 : decode cX12_init 175 = .ok (.putfield 70, 3) := by decide +kernel
theorem dX12_init_178 : decode cX12_init 178 = .ok (.aload_n 0, 1) := by decide +kernel
theorem dX12_init_179 : decode cX12_init 179 = .ok (.sipush 620, 3) := by decide +kernel
theorem dX12_init_182 : decode cX12_init 182 = .ok (.newarray .int, 2) := by decide +kernel
theorem dX12_init_184 : decode cX12_init 184 = .ok (.putfield 73, 3) := by decide +kernel
theorem dX12_init_187 : decode cX12_init 187 = .ok (.aload_n 0, 1) := by decide +kernel
theorem dX12_init_188 : decode cX12_init 188 = .ok (.sipush 600, 3) := by decide +kernel
theorem dX12_init_191 : decode cX12_init 191 = .ok (.newarray .int, 2) := by decide +kernel
theorem dX12_init_193 : decode cX12_init 193 = .ok (.putfield 76, 3) := by decide +kernel
theorem dX12_init_196 : decode cX12_init 196 = .ok (.aload_n 0, 1) := by decide +kernel
theorem dX12_init_197 : decode cX12_init 197 = .ok (.iconst (-1), 1) := by decide +kernel
theorem dX12_init_198 : decode cX12_init 198 = .ok (.putfield 79, 3) := by decide +kernel
theorem dX12_init_201 : decode cX12_init 201 = .ok (.aload_n 0, 1) := by decide +kernel
theorem dX12_init_202 : decode cX12_init 202 = .ok (.iconst 5, 1) := by decide +kernel
theorem dX12_init_203 : decode cX12_init 203 = .ok (.newarray .int, 2) := by decide +kernel
theorem dX12_init_205 : decode cX12_init 205 = .ok (.putfield 83, 3) := by decide +kernel
theorem dX12_init_208 : decode cX12_init 208 = .ok (.return_, 1) := by decide +kernel
theorem dX12_isIn_0 : decode cX12_isIn 0 = .ok (.iload_n 0, 1) := by decide +kernel
theorem dX12_isIn_1 : decode cX12_isIn 1 = .ok (.iload_n 1, 1) := by decide +kernel
theorem dX12_isIn_2 : decode cX12_isIn 2 = .ok (.if_icmp .lt 12, 3) := by decide +kernel
theorem dX12_isIn_5 : decode cX12_isIn 5 = .ok (.iload_n 0, 1) := by decide +kernel
theorem dX12_isIn_6 : decode cX12_isIn 6 = .ok (.iload_n 2, 1) := by decide +kernel
theorem dX12_isIn_7 : decode cX12_isIn 7 = .ok (.if_icmp .gt 7, 3) := by decide +kernel
theorem dX12_isIn_10 : decode cX12_isIn 10 = .ok (.iconst 1, 1) := by decide +kernel
theorem dX12_isIn_11 : decode cX12_isIn 11 = .ok (.goto 4, 3) := by decide +kernel
theorem dX12_isIn_14 : decode cX12_isIn 14 = .ok (.iconst 0, 1) := by decide +kernel
theorem dX12_isIn_15 : decode cX12_isIn 15 = .ok (.ireturn, 1) := by decide +kernel
theorem dX12_isHouse_0 : decode cX12_isHouse 0 = .ok (.iload_n 0, 1) := by decide +kernel
theorem dX12_isHouse_1 : decode cX12_isHouse 1 = .ok (.iconst 0, 1) := by decide +kernel
theorem dX12_isHouse_2 : decode cX12_isHouse 2 = .ok (.bipush 7, 2) := by decide +kernel
theorem dX12_isHouse_4 : decode cX12_isHouse 4 = .ok (.invokestatic 86, 3) := by decide +kernel
theorem dX12_isHouse_7 : decode cX12_isHouse 7 = .ok (.ireturn, 1) := by decide +kernel
theorem dX12_isThing_0 : decode cX12_isThing 0 = .ok (.iload_n 1, 1) := by decide +kernel
theorem dX12_isThing_1 : decode cX12_isThing 1 = .ok (.iconst 0, 1) := by decide +kernel
theorem dX12_isThing_2 : decode cX12_isThing 2 = .ok (.aload_n 0, 1) := by decide +kernel
theorem dX12_isThing_3 : decode cX12_isThing 3 = .ok (.getfield 90, 3) := by decide +kernel
theorem dX12_isThing_6 : decode cX12_isThing 6 = .ok (.iconst 1, 1) := by decide +kernel
theorem dX12_isThing_7 : decode cX12_isThing 7 = .ok (.isub, 1) := by decide +kernel
theorem dX12_isThing_8 : decode cX12_isThing 8 = .ok (.invokestatic 86, 3) := by decide +kernel
theorem dX12_isThing_11 : decode cX12_isThing 11 = .ok (.ireturn, 1) := by decide +kernel
theorem dX12_isThere_0 : decode cX12_isThere 0 = .ok (.aload_n 0, 1) := by decide +kernel
theorem dX12_isThere_1 : decode cX12_isThere 1 = .ok (.iload_n 1, 1) := by decide +kernel
theorem dX12_isThere_2 : decode cX12_isThere 2 = .ok (.invokevirtual 93, 3) := by decide +kernel
theorem dX12_isThere_5 : decode cX12_isThere 5 = .ok (.ifCond .eq 17, 3) := by decide +kernel
theorem dX12_isThere_8 : decode cX12_isThere 8 = .ok (.aload_n 0, 1) := by decide +kernel
theorem dX12_isThere_9 : decode cX12_isThere 9 = .ok (.getfield 31, 3) := by decide +kernel
theorem dX12_isThere_12 : decode cX12_isThere 12 = .ok (.iload_n 1, 1) := by decide +kernel
theorem dX12_isThere_13 : decode cX12_isThere 13 = .ok (.iaload, 1) := by decide +kernel
theorem dX12_isThere_14 : decode cX12_isThere 14 = .ok (.iconst (-1), 1) := by decide +kernel
theorem dX12_isThere_15 : decode cX12_isThere 15 = .ok (.if_icmp .ne 7, 3) := by decide +kernel
theorem dX12_isThere_18 : decode cX12_isThere 18 = .ok (.iconst 1, 1) := by decide +kernel
theorem dX12_isThere_19 : decode cX12_isThere 19 = .ok (.goto 4, 3) := by decide +kernel
theorem dX12_isThere_22 : decode cX12_isThere 22 = .ok (.iconst 0, 1) := by decide +kernel
theorem dX12_isThere_23 : decode cX12_isThere 23 = .ok (.ireturn, 1) := by decide +kernel
theorem dX12_comes_0 : decode cX12_comes 0 = .ok (.aload_n 0, 1) := by decide +kernel
theorem dX12_comes_1 : decode cX12_comes 1 = .ok (.getfield 90, 3) := by decide +kernel
theorem dX12_comes_4 : decode cX12_comes 4 = .ok (.istore 7, 2) := by decide +kernel
theorem dX12_comes_6 : decode cX12_comes 6 = .ok (.aload_n 0, 1) := by decide +kernel
theorem dX12_comes_7 : decode cX12_comes 7 = .ok (.dup, 1) := by decide +kernel
theorem dX12_comes_8 : decode cX12_comes 8 = .ok (.getfield 90, 3) := by decide +kernel
theorem dX12_comes_11 : decode cX12_comes 11 = .ok (.iconst 1, 1) := by decide +kernel
theorem dX12_comes_12 : decode cX12_comes 12 = .ok (.iadd, 1) := by decide +kernel
theorem dX12_comes_13 : decode cX12_comes 13 = .ok (.putfield 90, 3) := by decide +kernel
theorem dX12_comes_16 : decode cX12_comes 16 = .ok (.aload_n 0, 1) := by decide +kernel
theorem dX12_comes_17 : decode cX12_comes 17 = .ok (.getfield 7, 3) := by decide +kernel
theorem dX12_comes_20 : decode cX12_comes 20 = .ok (.iload 7, 2) := by decide +kernel
theorem dX12_comes_22 : decode cX12_comes 22 = .ok (.iload_n 1, 1) := by decide +kernel
theorem dX12_comes_23 : decode cX12_comes 23 = .ok (.iastore, 1) := by decide +kernel
theorem dX12_comes_24 : decode cX12_comes 24 = .ok (.aload_n 0, 1) := by decide +kernel
theorem dX12_comes_25 : decode cX12_comes 25 = .ok (.getfield 13, 3) := by decide +kernel
theorem dX12_comes_28 : decode cX12_comes 28 = .ok (.iload 7, 2) := by decide +kernel
theorem dX12_comes_30 : decode cX12_comes 30 = .ok (.iload_n 2, 1) := by decide +kernel
theorem dX12_comes_31 : decode cX12_comes 31 = .ok (.iastore, 1) := by decide +kernel
theorem dX12_comes_32 : decode cX12_comes 32 = .ok (.aload_n 0, 1) := by decide +kernel
theorem dX12_comes_33 : decode cX12_comes 33 = .ok (.getfield 16, 3) := by decide +kernel
theorem dX12_comes_36 : decode cX12_comes 36 = .ok (.iload 7, 2) := by decide +kernel
theorem dX12_comes_38 : decode cX12_comes 38 = .ok (.iload_n 3, 1) := by decide +kernel
theorem dX12_comes_39 : decode cX12_comes 39 = .ok (.iastore, 1) := by decide +kernel
theorem dX12_comes_40 : decode cX12_comes 40 = .ok (.aload_n 0, 1) := by decide +kernel
theorem dX12_comes_41 : decode cX12_comes 41 = .ok (.getfield 19, 3) := by decide +kernel
theorem dX12_comes_44 : decode cX12_comes 44 = .ok (.iload 7, 2) := by decide +kernel
theorem dX12_comes_46 : decode cX12_comes 46 = .ok (.iload 4, 2) := by decide +kernel
theorem dX12_comes_48 : decode cX12_comes 48 = .ok (.iastore, 1) := by decide +kernel
theorem dX12_comes_49 : decode cX12_comes 49 = .ok (.aload_n 0, 1) := by decide +kernel
theorem dX12_comes_50 : decode cX12_comes 50 = .ok (.getfield 22, 3) := by decide +kernel
theorem dX12_comes_53 : decode cX12_comes 53 = .ok (.iload 7, 2) := by decide +kernel
theorem dX12_comes_55 : decode cX12_comes 55 = .ok (.aload_n 0, 1) := by decide +kernel
theorem dX12_comes_56 : decode cX12_comes 56 = .ok (.getfield 97, 3) := by decide +kernel
theorem dX12_comes_59 : decode cX12_comes 59 = .ok (.iastore, 1) := by decide +kernel
theorem dX12_comes_60 : decode cX12_comes 60 = .ok (.aload_n 0, 1) := by decide +kernel
theorem dX12_comes_61 : decode cX12_comes 61 = .ok (.getfield 25, 3) := by decide +kernel
theorem dX12_comes_64 : decode cX12_comes 64 = .ok (.iload 7, 2) := by decide +kernel
theorem dX12_comes_66 : decode cX12_comes 66 = .ok (.iload 6, 2) := by decide +kernel
theorem dX12_comes_68 : decode cX12_comes 68 = .ok (.iastore, 1) := by decide +kernel
theorem dX12_comes_69 : decode cX12_comes 69 = .ok (.aload_n 0, 1) := by decide +kernel
theorem dX12_comes_70 : decode cX12_comes 70 = .ok (.getfield 28, 3) := by decide +kernel
theorem dX12_comes_73 : decode cX12_comes 73 = .ok (.iload 7, 2) := by decide +kernel
theorem dX12_comes_75 : decode cX12_comes 75 = .ok (.iload 5, 2) := by decide +kernel
theorem dX12_comes_77 : decode cX12_comes 77 = .ok (.iastore, 1) := by decide +kernel
theorem dX12_comes_78 : decode cX12_comes 78 = .ok (.aload_n 0, 1) := by decide +kernel
theorem dX12_comes_79 : decode cX12_comes 79 = .ok (.getfield 31, 3) := by decide +kernel
theorem dX12_comes_82 : decode cX12_comes 82 = .ok (.iload 7, 2) := by decide +kernel
theorem dX12_comes_84 : decode cX12_comes 84 = .ok (.iconst (-1), 1) := by decide +kernel
theorem dX12_comes_85 : decode cX12_comes 85 = .ok (.iastore, 1) := by decide +kernel
theorem dX12_comes_86 : decode cX12_comes 86 = .ok (.iload 7, 2) := by decide +kernel
theorem dX12_comes_88 : decode cX12_comes 88 = .ok (.ireturn, 1) := by decide +kernel
theorem dX12_thing_0 : decode cX12_thing 0 = .ok (.iload_n 1, 1) := by decide +kernel
theorem dX12_thing_1 : decode cX12_thing 1 = .ok (.iconst 0, 1) := by decide +kernel
theorem dX12_thing_2 : decode cX12_thing 2 = .ok (.iconst 4, 1) := by decide +kernel
theorem dX12_thing_3 : decode cX12_thing 3 = .ok (.invokestatic 86, 3) := by decide +kernel
theorem dX12_thing_6 : decode cX12_thing 6 = .ok (.ifCond .eq 51, 3) := by decide +kernel
theorem dX12_thing_9 : decode cX12_thing 9 = .ok (.iload_n 2, 1) := by decide +kernel
theorem dX12_thing_10 : decode cX12_thing 10 = .ok (.iconst 0, 1) := by decide +kernel
theorem dX12_thing_11 : decode cX12_thing 11 = .ok (.bipush 9, 2) := by decide +kernel
theorem dX12_thing_13 : decode cX12_thing 13 = .ok (.invokestatic 86, 3) := by decide +kernel
theorem dX12_thing_16 : decode cX12_thing 16 = .ok (.ifCond .eq 41, 3) := by decide +kernel
theorem dX12_thing_19 : decode cX12_thing 19 = .ok (.iload_n 3, 1) := by decide +kernel
theorem dX12_thing_20 : decode cX12_thing 20 = .ok (.iconst 0, 1) := by decide +kernel
theorem dX12_thing_21 : decode cX12_thing 21 = .ok (.bipush 9, 2) := by decide +kernel
theorem dX12_thing_23 : decode cX12_thing 23 = .ok (.invokestatic 86, 3) := by decide +kernel
theorem dX12_thing_26 : decode cX12_thing 26 = .ok (.ifCond .eq 31, 3) := by decide +kernel
theorem dX12_thing_29 : decode cX12_thing 29 = .ok (.iload 4, 2) := by decide +kernel
theorem dX12_thing_31 : decode cX12_thing 31 = .ok (.iconst 1, 1) := by decide +kernel
theorem dX12_thing_32 : decode cX12_thing 32 = .ok (.bipush 15, 2) := by decide +kernel
theorem dX12_thing_34 : decode cX12_thing 34 = .ok (.invokestatic 86, 3) := by decide +kernel
theorem dX12_thing_37 : decode cX12_thing 37 = .ok (.ifCond .eq 20, 3) := by decide +kernel
theorem dX12_thing_40 : decode cX12_thing 40 = .ok (.iload 5, 2) := by decide +kernel
theorem dX12_thing_42 : decode cX12_thing 42 = .ok (.invokestatic 100, 3) := by decide +kernel
theorem dX12_thing_45 : decode cX12_thing 45 = .ok (.ifCond .eq 12, 3) := by decide +kernel
theorem dX12_thing_48 : decode cX12_thing 48 = .ok (.aload_n 0, 1) := by decide +kernel
theorem dX12_thing_49 : decode cX12_thing 49 = .ok (.getfield 90, 3) := by decide +kernel
theorem dX12_thing_52 : decode cX12_thing 52 = .ok (.bipush 20, 2) := by decide +kernel
theorem dX12_thing_54 : decode cX12_thing 54 = .ok (.if_icmp .ne 5, 3) := by decide +kernel
theorem dX12_thing_57 : decode cX12_thing 57 = .ok (.iconst (-1), 1) := by decide +kernel
theorem dX12_thing_58 : decode cX12_thing 58 = .ok (.ireturn, 1) := by decide +kernel
theorem dX12_thing_59 : decode cX12_thing 59 = .ok (.aload_n 0, 1) := by decide +kernel
theorem dX12_thing_60 : decode cX12_thing 60 = .ok (.iload_n 1, 1) := by decide +kernel
theorem dX12_thing_61 : decode cX12_thing 61 = .ok (.iload_n 2, 1) := by decide +kernel
theorem dX12_thing_62 : decode cX12_thing 62 = .ok (.iload_n 3, 1) := by decide +kernel
theorem dX12_thing_63 : decode cX12_thing 63 = .ok (.iload 4, 2) := by decide +kernel
theorem dX12_thing_65 : decode cX12_thing 65 = .ok (.iload 5, 2) := by decide +kernel
theorem dX12_thing_67 : decode cX12_thing 67 = .ok (.iconst (-1), 1) := by decide +kernel
theorem dX12_thing_68 : decode cX12_thing 68 = .ok (.invokevirtual 103, 3) := by decide +kernel
theorem dX12_thing_71 : decode cX12_thing 71 = .ok (.ireturn, 1) := by decide +kernel
theorem dX12_copy_0 : decode cX12_copy 0 = .ok (.aload_n 0, 1) := by decide +kernel
theorem dX12_copy_1 : decode cX12_copy 1 = .ok (.iload_n 1, 1) := by decide +kernel
theorem dX12_copy_2 : decode cX12_copy 2 = .ok (.invokevirtual 107, 3) := by decide +kernel
theorem dX12_copy_5 : decode cX12_copy 5 = .ok (.ifCond .eq 29, 3) := by decide +kernel
theorem dX12_copy_8 : decode cX12_copy 8 = .ok (.iload_n 2, 1) := by decide +kernel
theorem dX12_copy_9 : decode cX12_copy 9 = .ok (.iconst 0, 1) := by decide +kernel
theorem dX12_copy_10 : decode cX12_copy 10 = .ok (.bipush 9, 2) := by decide +kernel
theorem dX12_copy_12 : decode cX12_copy 12 = .ok (.invokestatic 86, 3) := by decide +kernel
theorem dX12_copy_15 : decode cX12_copy 15 = .ok (.ifCond .eq 19, 3) := by decide +kernel
theorem dX12_copy_18 : decode cX12_copy 18 = .ok (.iload_n 3, 1) := by decide +kernel
theorem dX12_copy_19 : decode cX12_copy 19 = .ok (.invokestatic 100, 3) := by decide +kernel
theorem dX12_copy_22 : decode cX12_copy 22 = .ok (.ifCond .eq 12, 3) := by decide +kernel
theorem dX12_copy_25 : decode cX12_copy 25 = .ok (.aload_n 0, 1) := by decide +kernel
theorem dX12_copy_26 : decode cX12_copy 26 = .ok (.getfield 90, 3) := by decide +kernel
theorem dX12_copy_29 : decode cX12_copy 29 = .ok (.bipush 20, 2) := by decide +kernel
theorem dX12_copy_31 : decode cX12_copy 31 = .ok (.if_icmp .ne 5, 3) := by decide +kernel
theorem dX12_copy_34 : decode cX12_copy 34 = .ok (.iconst (-1), 1) := by decide +kernel
theorem dX12_copy_35 : decode cX12_copy 35 = .ok (.ireturn, 1) := by decide +kernel
theorem dX12_copy_36 : decode cX12_copy 36 = .ok (.aload_n 0, 1) := by decide +kernel
theorem dX12_copy_37 : decode cX12_copy 37 = .ok (.aload_n 0, 1) := by decide +kernel
theorem dX12_copy_38 : decode cX12_copy 38 = .ok (.getfield 7, 3) := by decide +kernel
theorem dX12_copy_41 : decode cX12_copy 41 = .ok (.iload_n 1, 1) := by decide +kernel
theorem dX12_copy_42 : decode cX12_copy 42 = .ok (.iaload, 1) := by decide +kernel
theorem dX12_copy_43 : decode cX12_copy 43 = .ok (.iload_n 2, 1) := by decide +kernel
theorem dX12_copy_44 : decode cX12_copy 44 = .ok (.aload_n 0, 1) := by decide +kernel
theorem dX12_copy_45 : decode cX12_copy 45 = .ok (.getfield 16, 3) := by decide +kernel
theorem dX12_copy_48 : decode cX12_copy 48 = .ok (.iload_n 1, 1) := by decide +kernel
theorem dX12_copy_49 : decode cX12_copy 49 = .ok (.iaload, 1) := by decide +kernel
theorem dX12_copy_50 : decode cX12_copy 50 = .ok (.aload_n 0, 1) := by decide +kernel
theorem dX12_copy_51 : decode cX12_copy 51 = .ok (.getfield 19, 3) := by decide +kernel
theorem dX12_copy_54 : decode cX12_copy 54 = .ok (.iload_n 1, 1) := by decide +kernel
theorem dX12_copy_55 : decode cX12_copy 55 = .ok (.iaload, 1) := by decide +kernel
theorem dX12_copy_56 : decode cX12_copy 56 = .ok (.iload_n 3, 1) := by decide +kernel
theorem dX12_copy_57 : decode cX12_copy 57 = .ok (.iload_n 1, 1) := by decide +kernel
theorem dX12_copy_58 : decode cX12_copy 58 = .ok (.invokevirtual 103, 3) := by decide +kernel
theorem dX12_copy_61 : decode cX12_copy 61 = .ok (.ireturn, 1) := by decide +kernel
theorem dX12_happens_0 : decode cX12_happens 0 = .ok (.aload_n 0, 1) := by decide +kernel
theorem dX12_happens_1 : decode cX12_happens 1 = .ok (.getfield 110, 3) := by decide +kernel
theorem dX12_happens_4 : decode cX12_happens 4 = .ok (.sipush 300, 3) := by decide +kernel
theorem dX12_happens_7 : decode cX12_happens 7 = .ok (.if_icmp .ne 5, 3) := by decide +kernel
theorem dX12_happens_10 : decode cX12_happens 10 = .ok (.iconst 0, 1) := by decide +kernel
theorem dX12_happens_11 : decode cX12_happens 11 = .ok (.ireturn, 1) := by decide +kernel
theorem dX12_happens_12 : decode cX12_happens 12 = .ok (.aload_n 0, 1) := by decide +kernel
theorem dX12_happens_13 : decode cX12_happens 13 = .ok (.getfield 34, 3) := by decide +kernel
theorem dX12_happens_16 : decode cX12_happens 16 = .ok (.aload_n 0, 1) := by decide +kernel
theorem dX12_happens_17 : decode cX12_happens 17 = .ok (.getfield 110, 3) := by decide +kernel
theorem dX12_happens_20 : decode cX12_happens 20 = .ok (.iload_n 1, 1) := by decide +kernel
theorem dX12_happens_21 : decode cX12_happens 21 = .ok (.iastore, 1) := by decide +kernel
theorem dX12_happens_22 : decode cX12_happens 22 = .ok (.aload_n 0, 1) := by decide +kernel
theorem dX12_happens_23 : decode cX12_happens 23 = .ok (.getfield 37, 3) := by decide +kernel
theorem dX12_happens_26 : decode cX12_happens 26 = .ok (.aload_n 0, 1) := by decide +kernel
theorem dX12_happens_27 : decode cX12_happens 27 = .ok (.getfield 110, 3) := by decide +kernel
theorem dX12_happens_30 : decode cX12_happens 30 = .ok (.iload_n 2, 1) := by decide +kernel
theorem dX12_happens_31 : decode cX12_happens 31 = .ok (.iastore, 1) := by decide +kernel
theorem dX12_happens_32 : decode cX12_happens 32 = .ok (.aload_n 0, 1) := by decide +kernel
theorem dX12_happens_33 : decode cX12_happens 33 = .ok (.getfield 40, 3) := by decide +kernel
theorem dX12_happens_36 : decode cX12_happens 36 = .ok (.aload_n 0, 1) := by decide +kernel
theorem dX12_happens_37 : decode cX12_happens 37 = .ok (.getfield 110, 3) := by decide +kernel
theorem dX12_happens_40 : decode cX12_happens 40 = .ok (.iload_n 3, 1) := by decide +kernel
theorem dX12_happens_41 : decode cX12_happens 41 = .ok (.iastore, 1) := by decide +kernel
theorem dX12_happens_42 : decode cX12_happens 42 = .ok (.aload_n 0, 1) := by decide +kernel
theorem dX12_happens_43 : decode cX12_happens 43 = .ok (.getfield 43, 3) := by decide +kernel
theorem dX12_happens_46 : decode cX12_happens 46 = .ok (.aload_n 0, 1) := by decide +kernel
theorem dX12_happens_47 : decode cX12_happens 47 = .ok (.getfield 110, 3) := by decide +kernel
theorem dX12_happens_50 : decode cX12_happens 50 = .ok (.aload_n 0, 1) := by decide +kernel
theorem dX12_happens_51 : decode cX12_happens 51 = .ok (.getfield 97, 3) := by decide +kernel
theorem dX12_happens_54 : decode cX12_happens 54 = .ok (.iastore, 1) := by decide +kernel
theorem dX12_happens_55 : decode cX12_happens 55 = .ok (.aload_n 0, 1) := by decide +kernel
theorem dX12_happens_56 : decode cX12_happens 56 = .ok (.dup, 1) := by decide +kernel
theorem dX12_happens_57 : decode cX12_happens 57 = .ok (.getfield 110, 3) := by decide +kernel
theorem dX12_happens_60 : decode cX12_happens 60 = .ok (.iconst 1, 1) := by decide +kernel
theorem dX12_happens_61 : decode cX12_happens 61 = .ok (.iadd, 1) := by decide +kernel
theorem dX12_happens_62 : decode cX12_happens 62 = .ok (.putfield 110, 3) := by decide +kernel
theorem dX12_happens_65 : decode cX12_happens 65 = .ok (.iconst 1, 1) := by decide +kernel
theorem dX12_happens_66 : decode cX12_happens 66 = .ok (.ireturn, 1) := by decide +kernel
theorem dX12_ownerOn_0 : decode cX12_ownerOn 0 = .ok (.aload_n 0, 1) := by decide +kernel
theorem dX12_ownerOn_1 : decode cX12_ownerOn 1 = .ok (.getfield 28, 3) := by decide +kernel
theorem dX12_ownerOn_4 : decode cX12_ownerOn 4 = .ok (.iload_n 1, 1) := by decide +kernel
theorem dX12_ownerOn_5 : decode cX12_ownerOn 5 = .ok (.iaload, 1) := by decide +kernel
theorem dX12_ownerOn_6 : decode cX12_ownerOn 6 = .ok (.istore_n 3, 1) := by decide +kernel
theorem dX12_ownerOn_7 : decode cX12_ownerOn 7 = .ok (.iconst 0, 1) := by decide +kernel
theorem dX12_ownerOn_8 : decode cX12_ownerOn 8 = .ok (.istore 4, 2) := by decide +kernel
theorem dX12_ownerOn_10 : decode cX12_ownerOn 10 = .ok (.iload 4, 2) := by decide +kernel
theorem dX12_ownerOn_12 : decode cX12_ownerOn 12 = .ok (.aload_n 0, 1) := by decide +kernel
theorem dX12_ownerOn_13 : decode cX12_ownerOn 13 = .ok (.getfield 110, 3) := by decide +kernel
theorem dX12_ownerOn_16 : decode cX12_ownerOn 16 = .ok (.if_icmp .ge 49, 3) := by decide +kernel
theorem dX12_ownerOn_19 : decode cX12_ownerOn 19 = .ok (.aload_n 0, 1) := by decide +kernel
theorem dX12_ownerOn_20 : decode cX12_ownerOn 20 = .ok (.getfield 34, 3) := by decide +kernel
theorem dX12_ownerOn_23 : decode cX12_ownerOn 23 = .ok (.iload 4, 2) := by decide +kernel
theorem dX12_ownerOn_25 : decode cX12_ownerOn 25 = .ok (.iaload, 1) := by decide +kernel
theorem dX12_ownerOn_26 : decode cX12_ownerOn 26 = .ok (.iload_n 1, 1) := by decide +kernel
theorem dX12_ownerOn_27 : decode cX12_ownerOn 27 = .ok (.if_icmp .ne 32, 3) := by decide +kernel
theorem dX12_ownerOn_30 : decode cX12_ownerOn 30 = .ok (.aload_n 0, 1) := by decide +kernel
theorem dX12_ownerOn_31 : decode cX12_ownerOn 31 = .ok (.getfield 37, 3) := by decide +kernel
theorem dX12_ownerOn_34 : decode cX12_ownerOn 34 = .ok (.iload 4, 2) := by decide +kernel
theorem dX12_ownerOn_36 : decode cX12_ownerOn 36 = .ok (.iaload, 1) := by decide +kernel
theorem dX12_ownerOn_37 : decode cX12_ownerOn 37 = .ok (.ifCond .ne 22, 3) := by decide +kernel
theorem dX12_ownerOn_40 : decode cX12_ownerOn 40 = .ok (.aload_n 0, 1) := by decide +kernel
theorem dX12_ownerOn_41 : decode cX12_ownerOn 41 = .ok (.getfield 43, 3) := by decide +kernel
theorem dX12_ownerOn_44 : decode cX12_ownerOn 44 = .ok (.iload 4, 2) := by decide +kernel
theorem dX12_ownerOn_46 : decode cX12_ownerOn 46 = .ok (.iaload, 1) := by decide +kernel
theorem dX12_ownerOn_47 : decode cX12_ownerOn 47 = .ok (.iload_n 2, 1) := by decide +kernel
theorem dX12_ownerOn_48 : decode cX12_ownerOn 48 = .ok (.if_icmp .gt 11, 3) := by decide +kernel
theorem dX12_ownerOn_51 : decode cX12_ownerOn 51 = .ok (.aload_n 0, 1) := by decide +kernel
theorem dX12_ownerOn_52 : decode cX12_ownerOn 52 = .ok (.getfield 40, 3) := by decide +kernel
theorem dX12_ownerOn_55 : decode cX12_ownerOn 55 = .ok (.iload 4, 2) := by decide +kernel
theorem dX12_ownerOn_57 : decode cX12_ownerOn 57 = .ok (.iaload, 1) := by decide +kernel
theorem dX12_ownerOn_58 : decode cX12_ownerOn 58 = .ok (.istore_n 3, 1) := by decide +kernel
theorem dX12_ownerOn_59 : decode cX12_ownerOn 59 = .ok (.iinc 4 1, 3) := by decide +kernel
theorem dX12_ownerOn_62 : decode cX12_ownerOn 62 = .ok (.goto (-52), 3) := by decide +kernel
theorem dX12_ownerOn_65 : decode cX12_ownerOn 65 = .ok (.iload_n 3, 1) := by decide +kernel
theorem dX12_ownerOn_66 : decode cX12_ownerOn 66 = .ok (.ireturn, 1) := by decide +kernel
theorem dX12_lentOn_0 : decode cX12_lentOn 0 = .ok (.iconst (-1), 1) := by decide +kernel
theorem dX12_lentOn_1 : decode cX12_lentOn 1 = .ok (.istore_n 3, 1) := by decide +kernel
theorem dX12_lentOn_2 : decode cX12_lentOn 2 = .ok (.iconst 0, 1) := by decide +kernel
theorem dX12_lentOn_3 : decode cX12_lentOn 3 = .ok (.istore 4, 2) := by decide +kernel
theorem dX12_lentOn_5 : decode cX12_lentOn 5 = .ok (.iload 4, 2) := by decide +kernel
theorem dX12_lentOn_7 : decode cX12_lentOn 7 = .ok (.aload_n 0, 1) := by decide +kernel
theorem dX12_lentOn_8 : decode cX12_lentOn 8 = .ok (.getfield 110, 3) := by decide +kernel
theorem dX12_lentOn_11 : decode cX12_lentOn 11 = .ok (.if_icmp .ge 69, 3) := by decide +kernel
theorem dX12_lentOn_14 : decode cX12_lentOn 14 = .ok (.aload_n 0, 1) := by decide +kernel
theorem dX12_lentOn_15 : decode cX12_lentOn 15 = .ok (.getfield 34, 3) := by decide +kernel
theorem dX12_lentOn_18 : decode cX12_lentOn 18 = .ok (.iload 4, 2) := by decide +kernel
theorem dX12_lentOn_20 : decode cX12_lentOn 20 = .ok (.iaload, 1) := by decide +kernel
theorem dX12_lentOn_21 : decode cX12_lentOn 21 = .ok (.iload_n 1, 1) := by decide +kernel
theorem dX12_lentOn_22 : decode cX12_lentOn 22 = .ok (.if_icmp .ne 52, 3) := by decide +kernel
theorem dX12_lentOn_25 : decode cX12_lentOn 25 = .ok (.aload_n 0, 1) := by decide +kernel
theorem dX12_lentOn_26 : decode cX12_lentOn 26 = .ok (.getfield 37, 3) := by decide +kernel
theorem dX12_lentOn_29 : decode cX12_lentOn 29 = .ok (.iload 4, 2) := by decide +kernel
theorem dX12_lentOn_31 : decode cX12_lentOn 31 = .ok (.iaload, 1) := by decide +kernel
theorem dX12_lentOn_32 : decode cX12_lentOn 32 = .ok (.iconst 1, 1) := by decide +kernel
theorem dX12_lentOn_33 : decode cX12_lentOn 33 = .ok (.iconst 2, 1) := by decide +kernel
theorem dX12_lentOn_34 : decode cX12_lentOn 34 = .ok (.invokestatic 86, 3) := by decide +kernel
theorem dX12_lentOn_37 : decode cX12_lentOn 37 = .ok (.ifCond .eq 37, 3) := by decide +kernel
theorem dX12_lentOn_40 : decode cX12_lentOn 40 = .ok (.aload_n 0, 1) := by decide +kernel
theorem dX12_lentOn_41 : decode cX12_lentOn 41 = .ok (.getfield 43, 3) := by decide +kernel
theorem dX12_lentOn_44 : decode cX12_lentOn 44 = .ok (.iload 4, 2) := by decide +kernel
theorem dX12_lentOn_46 : decode cX12_lentOn 46 = .ok (.iaload, 1) := by decide +kernel
theorem dX12_lentOn_47 : decode cX12_lentOn 47 = .ok (.iload_n 2, 1) := by decide +kernel
theorem dX12_lentOn_48 : decode cX12_lentOn 48 = .ok (.if_icmp .gt 26, 3) := by decide +kernel
theorem dX12_lentOn_51 : decode cX12_lentOn 51 = .ok (.aload_n 0, 1) := by decide +kernel
theorem dX12_lentOn_52 : decode cX12_lentOn 52 = .ok (.getfield 37, 3) := by decide +kernel
theorem dX12_lentOn_55 : decode cX12_lentOn 55 = .ok (.iload 4, 2) := by decide +kernel
theorem dX12_lentOn_57 : decode cX12_lentOn 57 = .ok (.iaload, 1) := by decide +kernel
theorem dX12_lentOn_58 : decode cX12_lentOn 58 = .ok (.iconst 1, 1) := by decide +kernel
theorem dX12_lentOn_59 : decode cX12_lentOn 59 = .ok (.if_icmp .ne 13, 3) := by decide +kernel
theorem dX12_lentOn_62 : decode cX12_lentOn 62 = .ok (.aload_n 0, 1) := by decide +kernel
theorem dX12_lentOn_63 : decode cX12_lentOn 63 = .ok (.getfield 40, 3) := by decide +kernel
theorem dX12_lentOn_66 : decode cX12_lentOn 66 = .ok (.iload 4, 2) := by decide +kernel
theorem dX12_lentOn_68 : decode cX12_lentOn 68 = .ok (.iaload, 1) := by decide +kernel
theorem dX12_lentOn_69 : decode cX12_lentOn 69 = .ok (.goto 4, 3) := by decide +kernel
theorem dX12_lentOn_72 : decode cX12_lentOn 72 = .ok (.iconst (-1), 1) := by decide +kernel
theorem dX12_lentOn_73 : decode cX12_lentOn 73 = .ok (.istore_n 3, 1) := by decide +kernel
theorem dX12_lentOn_74 : decode cX12_lentOn 74 = .ok (.iinc 4 1, 3) := by decide +kernel
theorem dX12_lentOn_77 : decode cX12_lentOn 77 = .ok (.goto (-72), 3) := by decide +kernel
theorem dX12_lentOn_80 : decode cX12_lentOn 80 = .ok (.iload_n 3, 1) := by decide +kernel
theorem dX12_lentOn_81 : decode cX12_lentOn 81 = .ok (.ireturn, 1) := by decide +kernel
theorem dX12_keptOn_0 : decode cX12_keptOn 0 = .ok (.aload_n 0, 1) := by decide +kernel
theorem dX12_keptOn_1 : decode cX12_keptOn 1 = .ok (.iload_n 1, 1) := by decide +kernel
theorem dX12_keptOn_2 : decode cX12_keptOn 2 = .ok (.iload_n 2, 1) := by decide +kernel
theorem dX12_keptOn_3 : decode cX12_keptOn 3 = .ok (.invokevirtual 113, 3) := by decide +kernel
theorem dX12_keptOn_6 : decode cX12_keptOn 6 = .ok (.istore_n 3, 1) := by decide +kernel
theorem dX12_keptOn_7 : decode cX12_keptOn 7 = .ok (.iload_n 3, 1) := by decide +kernel
theorem dX12_keptOn_8 : decode cX12_keptOn 8 = .ok (.iconst (-1), 1) := by decide +kernel
theorem dX12_keptOn_9 : decode cX12_keptOn 9 = .ok (.if_icmp .ne 12, 3) := by decide +kernel
theorem dX12_keptOn_12 : decode cX12_keptOn 12 = .ok (.aload_n 0, 1) := by decide +kernel
theorem dX12_keptOn_13 : decode cX12_keptOn 13 = .ok (.iload_n 1, 1) := by decide +kernel
theorem dX12_keptOn_14 : decode cX12_keptOn 14 = .ok (.iload_n 2, 1) := by decide +kernel
theorem dX12_keptOn_15 : decode cX12_keptOn 15 = .ok (.invokevirtual 117, 3) := by decide +kernel
theorem dX12_keptOn_18 : decode cX12_keptOn 18 = .ok (.goto 4, 3) := by decide +kernel
theorem dX12_keptOn_21 : decode cX12_keptOn 21 = .ok (.iload_n 3, 1) := by decide +kernel
theorem dX12_keptOn_22 : decode cX12_keptOn 22 = .ok (.ireturn, 1) := by decide +kernel
theorem dX12_pass_0 : decode cX12_pass 0 = .ok (.aload_n 0, 1) := by decide +kernel
theorem dX12_pass_1 : decode cX12_pass 1 = .ok (.iload_n 1, 1) := by decide +kernel
theorem dX12_pass_2 : decode cX12_pass 2 = .ok (.invokevirtual 107, 3) := by decide +kernel
theorem dX12_pass_5 : decode cX12_pass 5 = .ok (.ifCond .eq 50, 3) := by decide +kernel
theorem dX12_pass_8 : decode cX12_pass 8 = .ok (.iload_n 2, 1) := by decide +kernel
theorem dX12_pass_9 : decode cX12_pass 9 = .ok (.invokestatic 100, 3) := by decide +kernel
theorem dX12_pass_12 : decode cX12_pass 12 = .ok (.ifCond .eq 43, 3) := by decide +kernel
theorem dX12_pass_15 : decode cX12_pass 15 = .ok (.aload_n 0, 1) := by decide +kernel
theorem dX12_pass_16 : decode cX12_pass 16 = .ok (.iload_n 1, 1) := by decide +kernel
theorem dX12_pass_17 : decode cX12_pass 17 = .ok (.aload_n 0, 1) := by decide +kernel
theorem dX12_pass_18 : decode cX12_pass 18 = .ok (.getfield 97, 3) := by decide +kernel
theorem dX12_pass_21 : decode cX12_pass 21 = .ok (.invokevirtual 113, 3) := by decide +kernel
theorem dX12_pass_24 : decode cX12_pass 24 = .ok (.iconst (-1), 1) := by decide +kernel
theorem dX12_pass_25 : decode cX12_pass 25 = .ok (.if_icmp .ne 30, 3) := by decide +kernel
theorem dX12_pass_28 : decode cX12_pass 28 = .ok (.aload_n 0, 1) := by decide +kernel
theorem dX12_pass_29 : decode cX12_pass 29 = .ok (.iload_n 1, 1) := by decide +kernel
theorem dX12_pass_30 : decode cX12_pass 30 = .ok (.aload_n 0, 1) := by decide +kernel
theorem dX12_pass_31 : decode cX12_pass 31 = .ok (.getfield 97, 3) := by decide +kernel
theorem dX12_pass_34 : decode cX12_pass 34 = .ok (.invokevirtual 117, 3) := by decide +kernel
theorem dX12_pass_37 : decode cX12_pass 37 = .ok (.iload_n 2, 1) := by decide +kernel
theorem dX12_pass_38 : decode cX12_pass 38 = .ok (.if_icmp .eq 17, 3) := by decide +kernel
theorem dX12_pass_41 : decode cX12_pass 41 = .ok (.aload_n 0, 1) := by decide +kernel
theorem dX12_pass_42 : decode cX12_pass 42 = .ok (.iload_n 1, 1) := by decide +kernel
theorem dX12_pass_43 : decode cX12_pass 43 = .ok (.iconst 0, 1) := by decide +kernel
theorem dX12_pass_44 : decode cX12_pass 44 = .ok (.iload_n 2, 1) := by decide +kernel
theorem dX12_pass_45 : decode cX12_pass 45 = .ok (.invokevirtual 120, 3) := by decide +kernel
theorem dX12_pass_48 : decode cX12_pass 48 = .ok (.ifCond .eq 7, 3) := by decide +kernel
theorem dX12_pass_51 : decode cX12_pass 51 = .ok (.iconst 1, 1) := by decide +kernel
theorem dX12_pass_52 : decode cX12_pass 52 = .ok (.goto 4, 3) := by decide +kernel
theorem dX12_pass_55 : decode cX12_pass 55 = .ok (.iconst 0, 1) := by decide +kernel
theorem dX12_pass_56 : decode cX12_pass 56 = .ok (.ireturn, 1) := by decide +kernel
theorem dX12_lend_0 : decode cX12_lend 0 = .ok (.aload_n 0, 1) := by decide +kernel
theorem dX12_lend_1 : decode cX12_lend 1 = .ok (.iload_n 1, 1) := by decide +kernel
theorem dX12_lend_2 : decode cX12_lend 2 = .ok (.invokevirtual 107, 3) := by decide +kernel
theorem dX12_lend_5 : decode cX12_lend 5 = .ok (.ifCond .eq 50, 3) := by decide +kernel
theorem dX12_lend_8 : decode cX12_lend 8 = .ok (.iload_n 2, 1) := by decide +kernel
theorem dX12_lend_9 : decode cX12_lend 9 = .ok (.invokestatic 100, 3) := by decide +kernel
theorem dX12_lend_12 : decode cX12_lend 12 = .ok (.ifCond .eq 43, 3) := by decide +kernel
theorem dX12_lend_15 : decode cX12_lend 15 = .ok (.aload_n 0, 1) := by decide +kernel
theorem dX12_lend_16 : decode cX12_lend 16 = .ok (.iload_n 1, 1) := by decide +kernel
theorem dX12_lend_17 : decode cX12_lend 17 = .ok (.aload_n 0, 1) := by decide +kernel
theorem dX12_lend_18 : decode cX12_lend 18 = .ok (.getfield 97, 3) := by decide +kernel
theorem dX12_lend_21 : decode cX12_lend 21 = .ok (.invokevirtual 113, 3) := by decide +kernel
theorem dX12_lend_24 : decode cX12_lend 24 = .ok (.iconst (-1), 1) := by decide +kernel
theorem dX12_lend_25 : decode cX12_lend 25 = .ok (.if_icmp .ne 30, 3) := by decide +kernel
theorem dX12_lend_28 : decode cX12_lend 28 = .ok (.aload_n 0, 1) := by decide +kernel
theorem dX12_lend_29 : decode cX12_lend 29 = .ok (.iload_n 1, 1) := by decide +kernel
theorem dX12_lend_30 : decode cX12_lend 30 = .ok (.aload_n 0, 1) := by decide +kernel
theorem dX12_lend_31 : decode cX12_lend 31 = .ok (.getfield 97, 3) := by decide +kernel
theorem dX12_lend_34 : decode cX12_lend 34 = .ok (.invokevirtual 117, 3) := by decide +kernel
theorem dX12_lend_37 : decode cX12_lend 37 = .ok (.iload_n 2, 1) := by decide +kernel
theorem dX12_lend_38 : decode cX12_lend 38 = .ok (.if_icmp .eq 17, 3) := by decide +kernel
theorem dX12_lend_41 : decode cX12_lend 41 = .ok (.aload_n 0, 1) := by decide +kernel
theorem dX12_lend_42 : decode cX12_lend 42 = .ok (.iload_n 1, 1) := by decide +kernel
theorem dX12_lend_43 : decode cX12_lend 43 = .ok (.iconst 1, 1) := by decide +kernel
theorem dX12_lend_44 : decode cX12_lend 44 = .ok (.iload_n 2, 1) := by decide +kernel
theorem dX12_lend_45 : decode cX12_lend 45 = .ok (.invokevirtual 120, 3) := by decide +kernel
theorem dX12_lend_48 : decode cX12_lend 48 = .ok (.ifCond .eq 7, 3) := by decide +kernel
theorem dX12_lend_51 : decode cX12_lend 51 = .ok (.iconst 1, 1) := by decide +kernel
theorem dX12_lend_52 : decode cX12_lend 52 = .ok (.goto 4, 3) := by decide +kernel
theorem dX12_lend_55 : decode cX12_lend 55 = .ok (.iconst 0, 1) := by decide +kernel
theorem dX12_lend_56 : decode cX12_lend 56 = .ok (.ireturn, 1) := by decide +kernel
theorem dX12_back_0 : decode cX12_back 0 = .ok (.aload_n 0, 1) := by decide +kernel
theorem dX12_back_1 : decode cX12_back 1 = .ok (.iload_n 1, 1) := by decide +kernel
theorem dX12_back_2 : decode cX12_back 2 = .ok (.invokevirtual 107, 3) := by decide +kernel
theorem dX12_back_5 : decode cX12_back 5 = .ok (.ifCond .eq 30, 3) := by decide +kernel
theorem dX12_back_8 : decode cX12_back 8 = .ok (.aload_n 0, 1) := by decide +kernel
theorem dX12_back_9 : decode cX12_back 9 = .ok (.iload_n 1, 1) := by decide +kernel
theorem dX12_back_10 : decode cX12_back 10 = .ok (.aload_n 0, 1) := by decide +kernel
theorem dX12_back_11 : decode cX12_back 11 = .ok (.getfield 97, 3) := by decide +kernel
theorem dX12_back_14 : decode cX12_back 14 = .ok (.invokevirtual 113, 3) := by decide +kernel
theorem dX12_back_17 : decode cX12_back 17 = .ok (.iconst (-1), 1) := by decide +kernel
theorem dX12_back_18 : decode cX12_back 18 = .ok (.if_icmp .eq 17, 3) := by decide +kernel
theorem dX12_back_21 : decode cX12_back 21 = .ok (.aload_n 0, 1) := by decide +kernel
theorem dX12_back_22 : decode cX12_back 22 = .ok (.iload_n 1, 1) := by decide +kernel
theorem dX12_back_23 : decode cX12_back 23 = .ok (.iconst 2, 1) := by decide +kernel
theorem dX12_back_24 : decode cX12_back 24 = .ok (.iconst (-1), 1) := by decide +kernel
theorem dX12_back_25 : decode cX12_back 25 = .ok (.invokevirtual 120, 3) := by decide +kernel
theorem dX12_back_28 : decode cX12_back 28 = .ok (.ifCond .eq 7, 3) := by decide +kernel
theorem dX12_back_31 : decode cX12_back 31 = .ok (.iconst 1, 1) := by decide +kernel
theorem dX12_back_32 : decode cX12_back 32 = .ok (.goto 4, 3) := by decide +kernel
theorem dX12_back_35 : decode cX12_back 35 = .ok (.iconst 0, 1) := by decide +kernel
theorem dX12_back_36 : decode cX12_back 36 = .ok (.ireturn, 1) := by decide +kernel
theorem dX12_burn_0 : decode cX12_burn 0 = .ok (.aload_n 0, 1) := by decide +kernel
theorem dX12_burn_1 : decode cX12_burn 1 = .ok (.iload_n 1, 1) := by decide +kernel
theorem dX12_burn_2 : decode cX12_burn 2 = .ok (.invokevirtual 107, 3) := by decide +kernel
theorem dX12_burn_5 : decode cX12_burn 5 = .ok (.ifCond .eq 13, 3) := by decide +kernel
theorem dX12_burn_8 : decode cX12_burn 8 = .ok (.aload_n 0, 1) := by decide +kernel
theorem dX12_burn_9 : decode cX12_burn 9 = .ok (.iload_n 1, 1) := by decide +kernel
theorem dX12_burn_10 : decode cX12_burn 10 = .ok (.iconst 3, 1) := by decide +kernel
theorem dX12_burn_11 : decode cX12_burn 11 = .ok (.iconst (-1), 1) := by decide +kernel
theorem dX12_burn_12 : decode cX12_burn 12 = .ok (.invokevirtual 120, 3) := by decide +kernel
theorem dX12_burn_15 : decode cX12_burn 15 = .ok (.ifCond .ne 5, 3) := by decide +kernel
theorem dX12_burn_18 : decode cX12_burn 18 = .ok (.iconst 0, 1) := by decide +kernel
theorem dX12_burn_19 : decode cX12_burn 19 = .ok (.ireturn, 1) := by decide +kernel
theorem dX12_burn_20 : decode cX12_burn 20 = .ok (.aload_n 0, 1) := by decide +kernel
theorem dX12_burn_21 : decode cX12_burn 21 = .ok (.getfield 31, 3) := by decide +kernel
theorem dX12_burn_24 : decode cX12_burn 24 = .ok (.iload_n 1, 1) := by decide +kernel
theorem dX12_burn_25 : decode cX12_burn 25 = .ok (.aload_n 0, 1) := by decide +kernel
theorem dX12_burn_26 : decode cX12_burn 26 = .ok (.getfield 97, 3) := by decide +kernel
theorem dX12_burn_29 : decode cX12_burn 29 = .ok (.iastore, 1) := by decide +kernel
theorem dX12_burn_30 : decode cX12_burn 30 = .ok (.iconst 1, 1) := by decide +kernel
theorem dX12_burn_31 : decode cX12_burn 31 = .ok (.ireturn, 1) := by decide +kernel
theorem dX12_days_0 : decode cX12_days 0 = .ok (.iload_n 1, 1) := by decide +kernel
theorem dX12_days_1 : decode cX12_days 1 = .ok (.iconst 1, 1) := by decide +kernel
theorem dX12_days_2 : decode cX12_days 2 = .ok (.sipush 1000, 3) := by decide +kernel
theorem dX12_days_5 : decode cX12_days 5 = .ok (.invokestatic 86, 3) := by decide +kernel
theorem dX12_days_8 : decode cX12_days 8 = .ok (.ifCond .eq 15, 3) := by decide +kernel
theorem dX12_days_11 : decode cX12_days 11 = .ok (.aload_n 0, 1) := by decide +kernel
theorem dX12_days_12 : decode cX12_days 12 = .ok (.getfield 97, 3) := by decide +kernel
theorem dX12_days_15 : decode cX12_days 15 = .ok (.sipush 9999, 3) := by decide +kernel
theorem dX12_days_18 : decode cX12_days 18 = .ok (.iload_n 1, 1) := by decide +kernel
theorem dX12_days_19 : decode cX12_days 19 = .ok (.isub, 1) := by decide +kernel
theorem dX12_days_20 : decode cX12_days 20 = .ok (.if_icmp .le 5, 3) := by decide +kernel
theorem dX12_days_23 : decode cX12_days 23 = .ok (.iconst (-1), 1) := by decide +kernel
theorem dX12_days_24 : decode cX12_days 24 = .ok (.ireturn, 1) := by decide +kernel
theorem dX12_days_25 : decode cX12_days 25 = .ok (.aload_n 0, 1) := by decide +kernel
theorem dX12_days_26 : decode cX12_days 26 = .ok (.dup, 1) := by decide +kernel
theorem dX12_days_27 : decode cX12_days 27 = .ok (.getfield 97, 3) := by decide +kernel
theorem dX12_days_30 : decode cX12_days 30 = .ok (.iload_n 1, 1) := by decide +kernel
theorem dX12_days_31 : decode cX12_days 31 = .ok (.iadd, 1) := by decide +kernel
theorem dX12_days_32 : decode cX12_days 32 = .ok (.putfield 97, 3) := by decide +kernel
theorem dX12_days_35 : decode cX12_days 35 = .ok (.aload_n 0, 1) := by decide +kernel
theorem dX12_days_36 : decode cX12_days 36 = .ok (.getfield 97, 3) := by decide +kernel
theorem dX12_days_39 : decode cX12_days 39 = .ok (.ireturn, 1) := by decide +kernel
theorem dX12_rootOf_0 : decode cX12_rootOf 0 = .ok (.iload_n 1, 1) := by decide +kernel
theorem dX12_rootOf_1 : decode cX12_rootOf 1 = .ok (.istore_n 2, 1) := by decide +kernel
theorem dX12_rootOf_2 : decode cX12_rootOf 2 = .ok (.aload_n 0, 1) := by decide +kernel
theorem dX12_rootOf_3 : decode cX12_rootOf 3 = .ok (.getfield 25, 3) := by decide +kernel
theorem dX12_rootOf_6 : decode cX12_rootOf 6 = .ok (.iload_n 2, 1) := by decide +kernel
theorem dX12_rootOf_7 : decode cX12_rootOf 7 = .ok (.iaload, 1) := by decide +kernel
theorem dX12_rootOf_8 : decode cX12_rootOf 8 = .ok (.iconst (-1), 1) := by decide +kernel
theorem dX12_rootOf_9 : decode cX12_rootOf 9 = .ok (.if_icmp .eq 13, 3) := by decide +kernel
theorem dX12_rootOf_12 : decode cX12_rootOf 12 = .ok (.aload_n 0, 1) := by decide +kernel
theorem dX12_rootOf_13 : decode cX12_rootOf 13 = .ok (.getfield 25, 3) := by decide +kernel
theorem dX12_rootOf_16 : decode cX12_rootOf 16 = .ok (.iload_n 2, 1) := by decide +kernel
theorem dX12_rootOf_17 : decode cX12_rootOf 17 = .ok (.iaload, 1) := by decide +kernel
theorem dX12_rootOf_18 : decode cX12_rootOf 18 = .ok (.istore_n 2, 1) := by decide +kernel
theorem dX12_rootOf_19 : decode cX12_rootOf 19 = .ok (.goto (-17), 3) := by decide +kernel
theorem dX12_rootOf_22 : decode cX12_rootOf 22 = .ok (.iload_n 2, 1) := by decide +kernel
theorem dX12_rootOf_23 : decode cX12_rootOf 23 = .ok (.ireturn, 1) := by decide +kernel
theorem dX12_isDoubtful_0 : decode cX12_isDoubtful 0 = .ok (.aload_n 0, 1) := by decide +kernel
theorem dX12_isDoubtful_1 : decode cX12_isDoubtful 1 = .ok (.iload_n 1, 1) := by decide +kernel
theorem dX12_isDoubtful_2 : decode cX12_isDoubtful 2 = .ok (.invokevirtual 107, 3) := by decide +kernel
theorem dX12_isDoubtful_5 : decode cX12_isDoubtful 5 = .ok (.ifCond .ne 5, 3) := by decide +kernel
theorem dX12_isDoubtful_8 : decode cX12_isDoubtful 8 = .ok (.iconst 0, 1) := by decide +kernel
theorem dX12_isDoubtful_9 : decode cX12_isDoubtful 9 = .ok (.ireturn, 1) := by decide +kernel
theorem dX12_isDoubtful_10 : decode cX12_isDoubtful 10 = .ok (.aload_n 0, 1) := by decide +kernel
theorem dX12_isDoubtful_11 : decode cX12_isDoubtful 11 = .ok (.iload_n 1, 1) := by decide +kernel
theorem dX12_isDoubtful_12 : decode cX12_isDoubtful 12 = .ok (.invokevirtual 123, 3) := by decide +kernel
theorem dX12_isDoubtful_15 : decode cX12_isDoubtful 15 = .ok (.istore_n 2, 1) := by decide +kernel
theorem dX12_isDoubtful_16 : decode cX12_isDoubtful 16 = .ok (.iload_n 2, 1) := by decide +kernel
theorem dX12_isDoubtful_17 : decode cX12_isDoubtful 17 = .ok (.iload_n 1, 1) := by decide +kernel
theorem dX12_isDoubtful_18 : decode cX12_isDoubtful 18 = .ok (.if_icmp .eq 15, 3) := by decide +kernel
theorem dX12_isDoubtful_21 : decode cX12_isDoubtful 21 = .ok (.aload_n 0, 1) := by decide +kernel
theorem dX12_isDoubtful_22 : decode cX12_isDoubtful 22 = .ok (.getfield 31, 3) := by decide +kernel
theorem dX12_isDoubtful_25 : decode cX12_isDoubtful 25 = .ok (.iload_n 2, 1) := by decide +kernel
theorem dX12_isDoubtful_26 : decode cX12_isDoubtful 26 = .ok (.iaload, 1) := by decide +kernel
theorem dX12_isDoubtful_27 : decode cX12_isDoubtful 27 = .ok (.iconst (-1), 1) := by decide +kernel
theorem dX12_isDoubtful_28 : decode cX12_isDoubtful 28 = .ok (.if_icmp .eq 5, 3) := by decide +kernel
theorem dX12_isDoubtful_31 : decode cX12_isDoubtful 31 = .ok (.iconst 1, 1) := by decide +kernel
theorem dX12_isDoubtful_32 : decode cX12_isDoubtful 32 = .ok (.ireturn, 1) := by decide +kernel
theorem dX12_isDoubtful_33 : decode cX12_isDoubtful 33 = .ok (.iconst 0, 1) := by decide +kernel
theorem dX12_isDoubtful_34 : decode cX12_isDoubtful 34 = .ok (.istore_n 3, 1) := by decide +kernel
theorem dX12_isDoubtful_35 : decode cX12_isDoubtful 35 = .ok (.iconst 0, 1) := by decide +kernel
theorem dX12_isDoubtful_36 : decode cX12_isDoubtful 36 = .ok (.istore 4, 2) := by decide +kernel
theorem dX12_isDoubtful_38 : decode cX12_isDoubtful 38 = .ok (.iload 4, 2) := by decide +kernel
theorem dX12_isDoubtful_40 : decode cX12_isDoubtful 40 = .ok (.aload_n 0, 1) := by decide +kernel
theorem dX12_isDoubtful_41 : decode cX12_isDoubtful 41 = .ok (.getfield 90, 3) := by decide +kernel
theorem dX12_isDoubtful_44 : decode cX12_isDoubtful 44 = .ok (.if_icmp .ge 66, 3) := by decide +kernel
theorem dX12_isDoubtful_47 : decode cX12_isDoubtful 47 = .ok (.iload_n 3, 1) := by decide +kernel
theorem dX12_isDoubtful_48 : decode cX12_isDoubtful 48 = .ok (.ifCond .ne 50, 3) := by decide +kernel
theorem dX12_isDoubtful_51 : decode cX12_isDoubtful 51 = .ok (.iload 4, 2) := by decide +kernel
theorem dX12_isDoubtful_53 : decode cX12_isDoubtful 53 = .ok (.iload_n 1, 1) := by decide +kernel
theorem dX12_isDoubtful_54 : decode cX12_isDoubtful 54 = .ok (.if_icmp .eq 48, 3) := by decide +kernel
theorem dX12_isDoubtful_57 : decode cX12_isDoubtful 57 = .ok (.aload_n 0, 1) := by decide +kernel
theorem dX12_isDoubtful_58 : decode cX12_isDoubtful 58 = .ok (.iload 4, 2) := by decide +kernel
theorem dX12_isDoubtful_60 : decode cX12_isDoubtful 60 = .ok (.invokevirtual 107, 3) := by decide +kernel
theorem dX12_isDoubtful_63 : decode cX12_isDoubtful 63 = .ok (.ifCond .eq 39, 3) := by decide +kernel
theorem dX12_isDoubtful_66 : decode cX12_isDoubtful 66 = .ok (.aload_n 0, 1) := by decide +kernel
theorem dX12_isDoubtful_67 : decode cX12_isDoubtful 67 = .ok (.iload 4, 2) := by decide +kernel
theorem dX12_isDoubtful_69 : decode cX12_isDoubtful 69 = .ok (.invokevirtual 123, 3) := by decide +kernel
theorem dX12_isDoubtful_72 : decode cX12_isDoubtful 72 = .ok (.iload_n 2, 1) := by decide +kernel
theorem dX12_isDoubtful_73 : decode cX12_isDoubtful 73 = .ok (.if_icmp .ne 29, 3) := by decide +kernel
theorem dX12_isDoubtful_76 : decode cX12_isDoubtful 76 = .ok (.aload_n 0, 1) := by decide +kernel
theorem dX12_isDoubtful_77 : decode cX12_isDoubtful 77 = .ok (.iload 4, 2) := by decide +kernel
theorem dX12_isDoubtful_79 : decode cX12_isDoubtful 79 = .ok (.aload_n 0, 1) := by decide +kernel
theorem dX12_isDoubtful_80 : decode cX12_isDoubtful 80 = .ok (.getfield 97, 3) := by decide +kernel
theorem dX12_isDoubtful_83 : decode cX12_isDoubtful 83 = .ok (.invokevirtual 127, 3) := by decide +kernel
theorem dX12_isDoubtful_86 : decode cX12_isDoubtful 86 = .ok (.aload_n 0, 1) := by decide +kernel
theorem dX12_isDoubtful_87 : decode cX12_isDoubtful 87 = .ok (.iload_n 1, 1) := by decide +kernel
theorem dX12_isDoubtful_88 : decode cX12_isDoubtful 88 = .ok (.aload_n 0, 1) := by decide +kernel
theorem dX12_isDoubtful_89 : decode cX12_isDoubtful 89 = .ok (.getfield 97, 3) := by decide +kernel
theorem dX12_isDoubtful_92 : decode cX12_isDoubtful 92 = .ok (.invokevirtual 127, 3) := by decide +kernel
theorem dX12_isDoubtful_95 : decode cX12_isDoubtful 95 = .ok (.if_icmp .eq 7, 3) := by decide +kernel
theorem dX12_isDoubtful_98 : decode cX12_isDoubtful 98 = .ok (.iconst 1, 1) := by decide +kernel
theorem dX12_isDoubtful_99 : decode cX12_isDoubtful 99 = .ok (.goto 4, 3) := by decide +kernel
theorem dX12_isDoubtful_102 : decode cX12_isDoubtful 102 = .ok (.iconst 0, 1) := by decide +kernel
theorem dX12_isDoubtful_103 : decode cX12_isDoubtful 103 = .ok (.istore_n 3, 1) := by decide +kernel
theorem dX12_isDoubtful_104 : decode cX12_isDoubtful 104 = .ok (.iinc 4 1, 3) := by decide +kernel
theorem dX12_isDoubtful_107 : decode cX12_isDoubtful 107 = .ok (.goto (-69), 3) := by decide +kernel
theorem dX12_isDoubtful_110 : decode cX12_isDoubtful 110 = .ok (.iload_n 3, 1) := by decide +kernel
theorem dX12_isDoubtful_111 : decode cX12_isDoubtful 111 = .ok (.ireturn, 1) := by decide +kernel
theorem dX12_look_0 : decode cX12_look 0 = .ok (.iconst 0, 1) := by decide +kernel
theorem dX12_look_1 : decode cX12_look 1 = .ok (.istore_n 2, 1) := by decide +kernel
theorem dX12_look_2 : decode cX12_look 2 = .ok (.iload_n 1, 1) := by decide +kernel
theorem dX12_look_3 : decode cX12_look 3 = .ok (.tableswitch 87 0 4 #[33, 38, 43, 77, 82], 33) := by decide +kernel
theorem dX12_look_36 : decode cX12_look 36 = .ok (.aload_n 0, 1) := by decide +kernel
theorem dX12_look_37 : decode cX12_look 37 = .ok (.getfield 97, 3) := by decide +kernel
theorem dX12_look_40 : decode cX12_look 40 = .ok (.ireturn, 1) := by decide +kernel
theorem dX12_look_41 : decode cX12_look 41 = .ok (.aload_n 0, 1) := by decide +kernel
theorem dX12_look_42 : decode cX12_look 42 = .ok (.getfield 90, 3) := by decide +kernel
theorem dX12_look_45 : decode cX12_look 45 = .ok (.ireturn, 1) := by decide +kernel
theorem dX12_look_46 : decode cX12_look 46 = .ok (.iconst 0, 1) := by decide +kernel
theorem dX12_look_47 : decode cX12_look 47 = .ok (.istore_n 3, 1) := by decide +kernel
theorem dX12_look_48 : decode cX12_look 48 = .ok (.iload_n 3, 1) := by decide +kernel
theorem dX12_look_49 : decode cX12_look 49 = .ok (.aload_n 0, 1) := by decide +kernel
theorem dX12_look_50 : decode cX12_look 50 = .ok (.getfield 90, 3) := by decide +kernel
theorem dX12_look_53 : decode cX12_look 53 = .ok (.if_icmp .ge 25, 3) := by decide +kernel
theorem dX12_look_56 : decode cX12_look 56 = .ok (.iload_n 2, 1) := by decide +kernel
theorem dX12_look_57 : decode cX12_look 57 = .ok (.aload_n 0, 1) := by decide +kernel
theorem dX12_look_58 : decode cX12_look 58 = .ok (.iload_n 3, 1) := by decide +kernel
theorem dX12_look_59 : decode cX12_look 59 = .ok (.invokevirtual 107, 3) := by decide +kernel
theorem dX12_look_62 : decode cX12_look 62 = .ok (.ifCond .eq 7, 3) := by decide +kernel
theorem dX12_look_65 : decode cX12_look 65 = .ok (.iconst 1, 1) := by decide +kernel
theorem dX12_look_66 : decode cX12_look 66 = .ok (.goto 4, 3) := by decide +kernel
theorem dX12_look_69 : decode cX12_look 69 = .ok (.iconst 0, 1) := by decide +kernel
theorem dX12_look_70 : decode cX12_look 70 = .ok (.iadd, 1) := by decide +kernel
theorem dX12_look_71 : decode cX12_look 71 = .ok (.istore_n 2, 1) := by decide +kernel
theorem dX12_look_72 : decode cX12_look 72 = .ok (.iinc 3 1, 3) := by decide +kernel
theorem dX12_look_75 : decode cX12_look 75 = .ok (.goto (-27), 3) := by decide +kernel
theorem dX12_look_78 : decode cX12_look 78 = .ok (.iload_n 2, 1) := by decide +kernel
theorem dX12_look_79 : decode cX12_look 79 = .ok (.ireturn, 1) := by decide +kernel
theorem dX12_look_80 : decode cX12_look 80 = .ok (.aload_n 0, 1) := by decide +kernel
theorem dX12_look_81 : decode cX12_look 81 = .ok (.getfield 130, 3) := by decide +kernel
theorem dX12_look_84 : decode cX12_look 84 = .ok (.ireturn, 1) := by decide +kernel
theorem dX12_look_85 : decode cX12_look 85 = .ok (.aload_n 0, 1) := by decide +kernel
theorem dX12_look_86 : decode cX12_look 86 = .ok (.getfield 133, 3) := by decide +kernel
theorem dX12_look_89 : decode cX12_look 89 = .ok (.ireturn, 1) := by decide +kernel
theorem dX12_look_90 : decode cX12_look 90 = .ok (.iconst (-1), 1) := by decide +kernel
theorem dX12_look_91 : decode cX12_look 91 = .ok (.ireturn, 1) := by decide +kernel
theorem dX12_of_0 : decode cX12_of 0 = .ok (.aload_n 0, 1) := by decide +kernel
theorem dX12_of_1 : decode cX12_of 1 = .ok (.iload_n 1, 1) := by decide +kernel
theorem dX12_of_2 : decode cX12_of 2 = .ok (.invokevirtual 93, 3) := by decide +kernel
theorem dX12_of_5 : decode cX12_of 5 = .ok (.ifCond .ne 5, 3) := by decide +kernel
theorem dX12_of_8 : decode cX12_of 8 = .ok (.iconst (-1), 1) := by decide +kernel
theorem dX12_of_9 : decode cX12_of 9 = .ok (.ireturn, 1) := by decide +kernel
theorem dX12_of_10 : decode cX12_of 10 = .ok (.iload_n 2, 1) := by decide +kernel
theorem dX12_of_11 : decode cX12_of 11 = .ok (.tableswitch 125 0 8 #[49, 56, 63, 70, 77, 84, 91, 97, 111], 49) := by decide +kernel
theorem dX12_of_60 : decode cX12_of 60 = .ok (.aload_n 0, 1) := by decide +kernel
theorem dX12_of_61 : decode cX12_of 61 = .ok (.getfield 7, 3) := by decide +kernel
theorem dX12_of_64 : decode cX12_of 64 = .ok (.iload_n 1, 1) := by decide +kernel
theorem dX12_of_65 : decode cX12_of 65 = .ok (.iaload, 1) := by decide +kernel
theorem dX12_of_66 : decode cX12_of 66 = .ok (.ireturn, 1) := by decide +kernel
theorem dX12_of_67 : decode cX12_of 67 = .ok (.aload_n 0, 1) := by decide +kernel
theorem dX12_of_68 : decode cX12_of 68 = .ok (.getfield 13, 3) := by decide +kernel
theorem dX12_of_71 : decode cX12_of 71 = .ok (.iload_n 1, 1) := by decide +kernel
theorem dX12_of_72 : decode cX12_of 72 = .ok (.iaload, 1) := by decide +kernel
theorem dX12_of_73 : decode cX12_of 73 = .ok (.ireturn, 1) := by decide +kernel
theorem dX12_of_74 : decode cX12_of 74 = .ok (.aload_n 0, 1) := by decide +kernel
theorem dX12_of_75 : decode cX12_of 75 = .ok (.getfield 16, 3) := by decide +kernel
theorem dX12_of_78 : decode cX12_of 78 = .ok (.iload_n 1, 1) := by decide +kernel
theorem dX12_of_79 : decode cX12_of 79 = .ok (.iaload, 1) := by decide +kernel
theorem dX12_of_80 : decode cX12_of 80 = .ok (.ireturn, 1) := by decide +kernel
theorem dX12_of_81 : decode cX12_of 81 = .ok (.aload_n 0, 1) := by decide +kernel
theorem dX12_of_82 : decode cX12_of 82 = .ok (.getfield 19, 3) := by decide +kernel
theorem dX12_of_85 : decode cX12_of 85 = .ok (.iload_n 1, 1) := by decide +kernel
theorem dX12_of_86 : decode cX12_of 86 = .ok (.iaload, 1) := by decide +kernel
theorem dX12_of_87 : decode cX12_of 87 = .ok (.ireturn, 1) := by decide +kernel
theorem dX12_of_88 : decode cX12_of 88 = .ok (.aload_n 0, 1) := by decide +kernel
theorem dX12_of_89 : decode cX12_of 89 = .ok (.getfield 22, 3) := by decide +kernel
theorem dX12_of_92 : decode cX12_of 92 = .ok (.iload_n 1, 1) := by decide +kernel
theorem dX12_of_93 : decode cX12_of 93 = .ok (.iaload, 1) := by decide +kernel
theorem dX12_of_94 : decode cX12_of 94 = .ok (.ireturn, 1) := by decide +kernel
theorem dX12_of_95 : decode cX12_of 95 = .ok (.aload_n 0, 1) := by decide +kernel
theorem dX12_of_96 : decode cX12_of 96 = .ok (.getfield 25, 3) := by decide +kernel
theorem dX12_of_99 : decode cX12_of 99 = .ok (.iload_n 1, 1) := by decide +kernel
theorem dX12_of_100 : decode cX12_of 100 = .ok (.iaload, 1) := by decide +kernel
theorem dX12_of_101 : decode cX12_of 101 = .ok (.ireturn, 1) := by decide +kernel
theorem dX12_of_102 : decode cX12_of 102 = .ok (.aload_n 0, 1) := by decide +kernel
theorem dX12_of_103 : decode cX12_of 103 = .ok (.iload_n 1, 1) := by decide +kernel
theorem dX12_of_104 : decode cX12_of 104 = .ok (.invokevirtual 123, 3) := by decide +kernel
theorem dX12_of_107 : decode cX12_of 107 = .ok (.ireturn, 1) := by decide +kernel
theorem dX12_of_108 : decode cX12_of 108 = .ok (.aload_n 0, 1) := by decide +kernel
theorem dX12_of_109 : decode cX12_of 109 = .ok (.iload_n 1, 1) := by decide +kernel
theorem dX12_of_110 : decode cX12_of 110 = .ok (.invokevirtual 107, 3) := by decide +kernel
theorem dX12_of_113 : decode cX12_of 113 = .ok (.ifCond .eq 7, 3) := by decide +kernel
theorem dX12_of_116 : decode cX12_of 116 = .ok (.iconst 1, 1) := by decide +kernel
theorem dX12_of_117 : decode cX12_of 117 = .ok (.goto 4, 3) := by decide +kernel
theorem dX12_of_120 : decode cX12_of 120 = .ok (.iconst 0, 1) := by decide +kernel
theorem dX12_of_121 : decode cX12_of 121 = .ok (.ireturn, 1) := by decide +kernel
theorem dX12_of_122 : decode cX12_of 122 = .ok (.aload_n 0, 1) := by decide +kernel
theorem dX12_of_123 : decode cX12_of 123 = .ok (.iload_n 1, 1) := by decide +kernel
theorem dX12_of_124 : decode cX12_of 124 = .ok (.invokevirtual 136, 3) := by decide +kernel
theorem dX12_of_127 : decode cX12_of 127 = .ok (.ifCond .eq 7, 3) := by decide +kernel
theorem dX12_of_130 : decode cX12_of 130 = .ok (.iconst 1, 1) := by decide +kernel
theorem dX12_of_131 : decode cX12_of 131 = .ok (.goto 4, 3) := by decide +kernel
theorem dX12_of_134 : decode cX12_of 134 = .ok (.iconst 0, 1) := by decide +kernel
theorem dX12_of_135 : decode cX12_of 135 = .ok (.ireturn, 1) := by decide +kernel
theorem dX12_of_136 : decode cX12_of 136 = .ok (.iconst (-1), 1) := by decide +kernel
theorem dX12_of_137 : decode cX12_of 137 = .ok (.ireturn, 1) := by decide +kernel
theorem dX12_held_0 : decode cX12_held 0 = .ok (.aload_n 0, 1) := by decide +kernel
theorem dX12_held_1 : decode cX12_held 1 = .ok (.iload_n 1, 1) := by decide +kernel
theorem dX12_held_2 : decode cX12_held 2 = .ok (.invokevirtual 93, 3) := by decide +kernel
theorem dX12_held_5 : decode cX12_held 5 = .ok (.ifCond .eq 49, 3) := by decide +kernel
theorem dX12_held_8 : decode cX12_held 8 = .ok (.iload_n 2, 1) := by decide +kernel
theorem dX12_held_9 : decode cX12_held 9 = .ok (.aload_n 0, 1) := by decide +kernel
theorem dX12_held_10 : decode cX12_held 10 = .ok (.getfield 22, 3) := by decide +kernel
theorem dX12_held_13 : decode cX12_held 13 = .ok (.iload_n 1, 1) := by decide +kernel
theorem dX12_held_14 : decode cX12_held 14 = .ok (.iaload, 1) := by decide +kernel
theorem dX12_held_15 : decode cX12_held 15 = .ok (.aload_n 0, 1) := by decide +kernel
theorem dX12_held_16 : decode cX12_held 16 = .ok (.getfield 97, 3) := by decide +kernel
theorem dX12_held_19 : decode cX12_held 19 = .ok (.invokestatic 86, 3) := by decide +kernel
theorem dX12_held_22 : decode cX12_held 22 = .ok (.ifCond .eq 32, 3) := by decide +kernel
theorem dX12_held_25 : decode cX12_held 25 = .ok (.aload_n 0, 1) := by decide +kernel
theorem dX12_held_26 : decode cX12_held 26 = .ok (.getfield 31, 3) := by decide +kernel
theorem dX12_held_29 : decode cX12_held 29 = .ok (.iload_n 1, 1) := by decide +kernel
theorem dX12_held_30 : decode cX12_held 30 = .ok (.iaload, 1) := by decide +kernel
theorem dX12_held_31 : decode cX12_held 31 = .ok (.iconst (-1), 1) := by decide +kernel
theorem dX12_held_32 : decode cX12_held 32 = .ok (.if_icmp .eq 13, 3) := by decide +kernel
theorem dX12_held_35 : decode cX12_held 35 = .ok (.iload_n 2, 1) := by decide +kernel
theorem dX12_held_36 : decode cX12_held 36 = .ok (.aload_n 0, 1) := by decide +kernel
theorem dX12_held_37 : decode cX12_held 37 = .ok (.getfield 31, 3) := by decide +kernel
theorem dX12_held_40 : decode cX12_held 40 = .ok (.iload_n 1, 1) := by decide +kernel
theorem dX12_held_41 : decode cX12_held 41 = .ok (.iaload, 1) := by decide +kernel
theorem dX12_held_42 : decode cX12_held 42 = .ok (.if_icmp .ge 12, 3) := by decide +kernel
theorem dX12_held_45 : decode cX12_held 45 = .ok (.iload_n 3, 1) := by decide +kernel
theorem dX12_held_46 : decode cX12_held 46 = .ok (.iconst 0, 1) := by decide +kernel
theorem dX12_held_47 : decode cX12_held 47 = .ok (.iconst 1, 1) := by decide +kernel
theorem dX12_held_48 : decode cX12_held 48 = .ok (.invokestatic 86, 3) := by decide +kernel
theorem dX12_held_51 : decode cX12_held 51 = .ok (.ifCond .ne 5, 3) := by decide +kernel
theorem dX12_held_54 : decode cX12_held 54 = .ok (.iconst (-1), 1) := by decide +kernel
theorem dX12_held_55 : decode cX12_held 55 = .ok (.ireturn, 1) := by decide +kernel
theorem dX12_held_56 : decode cX12_held 56 = .ok (.iload_n 3, 1) := by decide +kernel
theorem dX12_held_57 : decode cX12_held 57 = .ok (.ifCond .ne 12, 3) := by decide +kernel
theorem dX12_held_60 : decode cX12_held 60 = .ok (.aload_n 0, 1) := by decide +kernel
theorem dX12_held_61 : decode cX12_held 61 = .ok (.iload_n 1, 1) := by decide +kernel
theorem dX12_held_62 : decode cX12_held 62 = .ok (.iload_n 2, 1) := by decide +kernel
theorem dX12_held_63 : decode cX12_held 63 = .ok (.invokevirtual 117, 3) := by decide +kernel
theorem dX12_held_66 : decode cX12_held 66 = .ok (.goto 9, 3) := by decide +kernel
theorem dX12_held_69 : decode cX12_held 69 = .ok (.aload_n 0, 1) := by decide +kernel
theorem dX12_held_70 : decode cX12_held 70 = .ok (.iload_n 1, 1) := by decide +kernel
theorem dX12_held_71 : decode cX12_held 71 = .ok (.iload_n 2, 1) := by decide +kernel
theorem dX12_held_72 : decode cX12_held 72 = .ok (.invokevirtual 127, 3) := by decide +kernel
theorem dX12_held_75 : decode cX12_held 75 = .ok (.ireturn, 1) := by decide +kernel
theorem dX12_owners_0 : decode cX12_owners 0 = .ok (.aload_n 0, 1) := by decide +kernel
theorem dX12_owners_1 : decode cX12_owners 1 = .ok (.iload_n 1, 1) := by decide +kernel
theorem dX12_owners_2 : decode cX12_owners 2 = .ok (.invokevirtual 93, 3) := by decide +kernel
theorem dX12_owners_5 : decode cX12_owners 5 = .ok (.ifCond .eq 8, 3) := by decide +kernel
theorem dX12_owners_8 : decode cX12_owners 8 = .ok (.iload_n 2, 1) := by decide +kernel
theorem dX12_owners_9 : decode cX12_owners 9 = .ok (.iconst (-1), 1) := by decide +kernel
theorem dX12_owners_10 : decode cX12_owners 10 = .ok (.if_icmp .ge 5, 3) := by decide +kernel
theorem dX12_owners_13 : decode cX12_owners 13 = .ok (.iconst (-1), 1) := by decide +kernel
theorem dX12_owners_14 : decode cX12_owners 14 = .ok (.ireturn, 1) := by decide +kernel
theorem dX12_owners_15 : decode cX12_owners 15 = .ok (.iload_n 2, 1) := by decide +kernel
theorem dX12_owners_16 : decode cX12_owners 16 = .ok (.ifCond .ne 10, 3) := by decide +kernel
theorem dX12_owners_19 : decode cX12_owners 19 = .ok (.aload_n 0, 1) := by decide +kernel
theorem dX12_owners_20 : decode cX12_owners 20 = .ok (.getfield 28, 3) := by decide +kernel
theorem dX12_owners_23 : decode cX12_owners 23 = .ok (.iload_n 1, 1) := by decide +kernel
theorem dX12_owners_24 : decode cX12_owners 24 = .ok (.iaload, 1) := by decide +kernel
theorem dX12_owners_25 : decode cX12_owners 25 = .ok (.ireturn, 1) := by decide +kernel
theorem dX12_owners_26 : decode cX12_owners 26 = .ok (.iconst 1, 1) := by decide +kernel
theorem dX12_owners_27 : decode cX12_owners 27 = .ok (.istore_n 3, 1) := by decide +kernel
theorem dX12_owners_28 : decode cX12_owners 28 = .ok (.iconst 0, 1) := by decide +kernel
theorem dX12_owners_29 : decode cX12_owners 29 = .ok (.istore 4, 2) := by decide +kernel
theorem dX12_owners_31 : decode cX12_owners 31 = .ok (.iload 4, 2) := by decide +kernel
theorem dX12_owners_33 : decode cX12_owners 33 = .ok (.aload_n 0, 1) := by decide +kernel
theorem dX12_owners_34 : decode cX12_owners 34 = .ok (.getfield 110, 3) := by decide +kernel
theorem dX12_owners_37 : decode cX12_owners 37 = .ok (.if_icmp .ge 49, 3) := by decide +kernel
theorem dX12_owners_40 : decode cX12_owners 40 = .ok (.aload_n 0, 1) := by decide +kernel
theorem dX12_owners_41 : decode cX12_owners 41 = .ok (.getfield 34, 3) := by decide +kernel
theorem dX12_owners_44 : decode cX12_owners 44 = .ok (.iload 4, 2) := by decide +kernel
theorem dX12_owners_46 : decode cX12_owners 46 = .ok (.iaload, 1) := by decide +kernel
theorem dX12_owners_47 : decode cX12_owners 47 = .ok (.iload_n 1, 1) := by decide +kernel
theorem dX12_owners_48 : decode cX12_owners 48 = .ok (.if_icmp .ne 32, 3) := by decide +kernel
theorem dX12_owners_51 : decode cX12_owners 51 = .ok (.aload_n 0, 1) := by decide +kernel
theorem dX12_owners_52 : decode cX12_owners 52 = .ok (.getfield 37, 3) := by decide +kernel
theorem dX12_owners_55 : decode cX12_owners 55 = .ok (.iload 4, 2) := by decide +kernel
theorem dX12_owners_57 : decode cX12_owners 57 = .ok (.iaload, 1) := by decide +kernel
theorem dX12_owners_58 : decode cX12_owners 58 = .ok (.ifCond .eq 6, 3) := by decide +kernel
theorem dX12_owners_61 : decode cX12_owners 61 = .ok (.goto 19, 3) := by decide +kernel
theorem dX12_owners_64 : decode cX12_owners 64 = .ok (.iload_n 3, 1) := by decide +kernel
theorem dX12_owners_65 : decode cX12_owners 65 = .ok (.iload_n 2, 1) := by decide +kernel
theorem dX12_owners_66 : decode cX12_owners 66 = .ok (.if_icmp .ne 11, 3) := by decide +kernel
theorem dX12_owners_69 : decode cX12_owners 69 = .ok (.aload_n 0, 1) := by decide +kernel
theorem dX12_owners_70 : decode cX12_owners 70 = .ok (.getfield 40, 3) := by decide +kernel
theorem dX12_owners_73 : decode cX12_owners 73 = .ok (.iload 4, 2) := by decide +kernel
theorem dX12_owners_75 : decode cX12_owners 75 = .ok (.iaload, 1) := by decide +kernel
theorem dX12_owners_76 : decode cX12_owners 76 = .ok (.ireturn, 1) := by decide +kernel
theorem dX12_owners_77 : decode cX12_owners 77 = .ok (.iinc 3 1, 3) := by decide +kernel
theorem dX12_owners_80 : decode cX12_owners 80 = .ok (.iinc 4 1, 3) := by decide +kernel
theorem dX12_owners_83 : decode cX12_owners 83 = .ok (.goto (-52), 3) := by decide +kernel
theorem dX12_owners_86 : decode cX12_owners 86 = .ok (.iload_n 2, 1) := by decide +kernel
theorem dX12_owners_87 : decode cX12_owners 87 = .ok (.iconst (-1), 1) := by decide +kernel
theorem dX12_owners_88 : decode cX12_owners 88 = .ok (.if_icmp .ne 7, 3) := by decide +kernel
theorem dX12_owners_91 : decode cX12_owners 91 = .ok (.iload_n 3, 1) := by decide +kernel
theorem dX12_owners_92 : decode cX12_owners 92 = .ok (.goto 4, 3) := by decide +kernel
theorem dX12_owners_95 : decode cX12_owners 95 = .ok (.iconst (-1), 1) := by decide +kernel
theorem dX12_owners_96 : decode cX12_owners 96 = .ok (.ireturn, 1) := by decide +kernel
theorem dX12_isSet_0 : decode cX12_isSet 0 = .ok (.iload_n 1, 1) := by decide +kernel
theorem dX12_isSet_1 : decode cX12_isSet 1 = .ok (.iconst 1, 1) := by decide +kernel
theorem dX12_isSet_2 : decode cX12_isSet 2 = .ok (.iconst 1, 1) := by decide +kernel
theorem dX12_isSet_3 : decode cX12_isSet 3 = .ok (.aload_n 0, 1) := by decide +kernel
theorem dX12_isSet_4 : decode cX12_isSet 4 = .ok (.getfield 90, 3) := by decide +kernel
theorem dX12_isSet_7 : decode cX12_isSet 7 = .ok (.ishl, 1) := by decide +kernel
theorem dX12_isSet_8 : decode cX12_isSet 8 = .ok (.iconst 1, 1) := by decide +kernel
theorem dX12_isSet_9 : decode cX12_isSet 9 = .ok (.isub, 1) := by decide +kernel
theorem dX12_isSet_10 : decode cX12_isSet 10 = .ok (.invokestatic 86, 3) := by decide +kernel
theorem dX12_isSet_13 : decode cX12_isSet 13 = .ok (.ifCond .ne 5, 3) := by decide +kernel
theorem dX12_isSet_16 : decode cX12_isSet 16 = .ok (.iconst 0, 1) := by decide +kernel
theorem dX12_isSet_17 : decode cX12_isSet 17 = .ok (.ireturn, 1) := by decide +kernel
theorem dX12_isSet_18 : decode cX12_isSet 18 = .ok (.iconst 0, 1) := by decide +kernel
theorem dX12_isSet_19 : decode cX12_isSet 19 = .ok (.istore_n 2, 1) := by decide +kernel
theorem dX12_isSet_20 : decode cX12_isSet 20 = .ok (.iconst 0, 1) := by decide +kernel
theorem dX12_isSet_21 : decode cX12_isSet 21 = .ok (.istore_n 3, 1) := by decide +kernel
theorem dX12_isSet_22 : decode cX12_isSet 22 = .ok (.iload_n 3, 1) := by decide +kernel
theorem dX12_isSet_23 : decode cX12_isSet 23 = .ok (.aload_n 0, 1) := by decide +kernel
theorem dX12_isSet_24 : decode cX12_isSet 24 = .ok (.getfield 90, 3) := by decide +kernel
theorem dX12_isSet_27 : decode cX12_isSet 27 = .ok (.if_icmp .ge 47, 3) := by decide +kernel
theorem dX12_isSet_30 : decode cX12_isSet 30 = .ok (.iload_n 1, 1) := by decide +kernel
theorem dX12_isSet_31 : decode cX12_isSet 31 = .ok (.iload_n 3, 1) := by decide +kernel
theorem dX12_isSet_32 : decode cX12_isSet 32 = .ok (.ishr, 1) := by decide +kernel
theorem dX12_isSet_33 : decode cX12_isSet 33 = .ok (.iconst 1, 1) := by decide +kernel
theorem dX12_isSet_34 : decode cX12_isSet 34 = .ok (.iand, 1) := by decide +kernel
theorem dX12_isSet_35 : decode cX12_isSet 35 = .ok (.ifCond .ne 6, 3) := by decide +kernel
theorem dX12_isSet_38 : decode cX12_isSet 38 = .ok (.goto 30, 3) := by decide +kernel
theorem dX12_isSet_41 : decode cX12_isSet 41 = .ok (.iload_n 2, 1) := by decide +kernel
theorem dX12_isSet_42 : decode cX12_isSet 42 = .ok (.aload_n 0, 1) := by decide +kernel
theorem dX12_isSet_43 : decode cX12_isSet 43 = .ok (.getfield 7, 3) := by decide +kernel
theorem dX12_isSet_46 : decode cX12_isSet 46 = .ok (.iload_n 3, 1) := by decide +kernel
theorem dX12_isSet_47 : decode cX12_isSet 47 = .ok (.iaload, 1) := by decide +kernel
theorem dX12_isSet_48 : decode cX12_isSet 48 = .ok (.ishr, 1) := by decide +kernel
theorem dX12_isSet_49 : decode cX12_isSet 49 = .ok (.iconst 1, 1) := by decide +kernel
theorem dX12_isSet_50 : decode cX12_isSet 50 = .ok (.iand, 1) := by decide +kernel
theorem dX12_isSet_51 : decode cX12_isSet 51 = .ok (.iconst 1, 1) := by decide +kernel
theorem dX12_isSet_52 : decode cX12_isSet 52 = .ok (.if_icmp .ne 5, 3) := by decide +kernel
theorem dX12_isSet_55 : decode cX12_isSet 55 = .ok (.iconst 0, 1) := by decide +kernel
theorem dX12_isSet_56 : decode cX12_isSet 56 = .ok (.ireturn, 1) := by decide +kernel
theorem dX12_isSet_57 : decode cX12_isSet 57 = .ok (.iload_n 2, 1) := by decide +kernel
theorem dX12_isSet_58 : decode cX12_isSet 58 = .ok (.iconst 1, 1) := by decide +kernel
theorem dX12_isSet_59 : decode cX12_isSet 59 = .ok (.aload_n 0, 1) := by decide +kernel
theorem dX12_isSet_60 : decode cX12_isSet 60 = .ok (.getfield 7, 3) := by decide +kernel
theorem dX12_isSet_63 : decode cX12_isSet 63 = .ok (.iload_n 3, 1) := by decide +kernel
theorem dX12_isSet_64 : decode cX12_isSet 64 = .ok (.iaload, 1) := by decide +kernel
theorem dX12_isSet_65 : decode cX12_isSet 65 = .ok (.ishl, 1) := by decide +kernel
theorem dX12_isSet_66 : decode cX12_isSet 66 = .ok (.ior, 1) := by decide +kernel
theorem dX12_isSet_67 : decode cX12_isSet 67 = .ok (.istore_n 2, 1) := by decide +kernel
theorem dX12_isSet_68 : decode cX12_isSet 68 = .ok (.iinc 3 1, 3) := by decide +kernel
theorem dX12_isSet_71 : decode cX12_isSet 71 = .ok (.goto (-49), 3) := by decide +kernel
theorem dX12_isSet_74 : decode cX12_isSet 74 = .ok (.iconst 1, 1) := by decide +kernel
theorem dX12_isSet_75 : decode cX12_isSet 75 = .ok (.ireturn, 1) := by decide +kernel
theorem dX12_areGuests_0 : decode cX12_areGuests 0 = .ok (.iload_n 0, 1) := by decide +kernel
theorem dX12_areGuests_1 : decode cX12_areGuests 1 = .ok (.iconst 1, 1) := by decide +kernel
theorem dX12_areGuests_2 : decode cX12_areGuests 2 = .ok (.sipush 255, 3) := by decide +kernel
theorem dX12_areGuests_5 : decode cX12_areGuests 5 = .ok (.invokestatic 86, 3) := by decide +kernel
theorem dX12_areGuests_8 : decode cX12_areGuests 8 = .ok (.ireturn, 1) := by decide +kernel
theorem dX12_isSeason_0 : decode cX12_isSeason 0 = .ok (.iload_n 0, 1) := by decide +kernel
theorem dX12_isSeason_1 : decode cX12_isSeason 1 = .ok (.iconst 0, 1) := by decide +kernel
theorem dX12_isSeason_2 : decode cX12_isSeason 2 = .ok (.iconst 3, 1) := by decide +kernel
theorem dX12_isSeason_3 : decode cX12_isSeason 3 = .ok (.invokestatic 86, 3) := by decide +kernel
theorem dX12_isSeason_6 : decode cX12_isSeason 6 = .ok (.ireturn, 1) := by decide +kernel
theorem dX12_gather_0 : decode cX12_gather 0 = .ok (.iload_n 1, 1) := by decide +kernel
theorem dX12_gather_1 : decode cX12_gather 1 = .ok (.invokestatic 100, 3) := by decide +kernel
theorem dX12_gather_4 : decode cX12_gather 4 = .ok (.ifCond .eq 35, 3) := by decide +kernel
theorem dX12_gather_7 : decode cX12_gather 7 = .ok (.iload_n 2, 1) := by decide +kernel
theorem dX12_gather_8 : decode cX12_gather 8 = .ok (.invokestatic 139, 3) := by decide +kernel
theorem dX12_gather_11 : decode cX12_gather 11 = .ok (.ifCond .eq 28, 3) := by decide +kernel
theorem dX12_gather_14 : decode cX12_gather 14 = .ok (.iload_n 3, 1) := by decide +kernel
theorem dX12_gather_15 : decode cX12_gather 15 = .ok (.invokestatic 142, 3) := by decide +kernel
theorem dX12_gather_18 : decode cX12_gather 18 = .ok (.ifCond .eq 21, 3) := by decide +kernel
theorem dX12_gather_21 : decode cX12_gather 21 = .ok (.aload_n 0, 1) := by decide +kernel
theorem dX12_gather_22 : decode cX12_gather 22 = .ok (.iload 4, 2) := by decide +kernel
theorem dX12_gather_24 : decode cX12_gather 24 = .ok (.invokevirtual 145, 3) := by decide +kernel
theorem dX12_gather_27 : decode cX12_gather 27 = .ok (.ifCond .eq 12, 3) := by decide +kernel
theorem dX12_gather_30 : decode cX12_gather 30 = .ok (.aload_n 0, 1) := by decide +kernel
theorem dX12_gather_31 : decode cX12_gather 31 = .ok (.getfield 130, 3) := by decide +kernel
theorem dX12_gather_34 : decode cX12_gather 34 = .ok (.bipush 60, 2) := by decide +kernel
theorem dX12_gather_36 : decode cX12_gather 36 = .ok (.if_icmp .ne 5, 3) := by decide +kernel
theorem dX12_gather_39 : decode cX12_gather 39 = .ok (.iconst (-1), 1) := by decide +kernel
theorem dX12_gather_40 : decode cX12_gather 40 = .ok (.ireturn, 1) := by decide +kernel
theorem dX12_gather_41 : decode cX12_gather 41 = .ok (.iconst 0, 1) := by decide +kernel
theorem dX12_gather_42 : decode cX12_gather 42 = .ok (.istore 5, 2) := by decide +kernel
theorem dX12_gather_44 : decode cX12_gather 44 = .ok (.iload 5, 2) := by decide +kernel
theorem dX12_gather_46 : decode cX12_gather 46 = .ok (.aload_n 0, 1) := by decide +kernel
theorem dX12_gather_47 : decode cX12_gather 47 = .ok (.getfield 90, 3) := by decide +kernel
theorem dX12_gather_50 : decode cX12_gather 50 = .ok (.if_icmp .ge 45, 3) := by decide +kernel
theorem dX12_gather_53 : decode cX12_gather 53 = .ok (.iload 4, 2) := by decide +kernel
theorem dX12_gather_55 : decode cX12_gather 55 = .ok (.iload 5, 2) := by decide +kernel
theorem dX12_gather_57 : decode cX12_gather 57 = .ok (.ishr, 1) := by decide +kernel
theorem dX12_gather_58 : decode cX12_gather 58 = .ok (.iconst 1, 1) := by decide +kernel
theorem dX12_gather_59 : decode cX12_gather 59 = .ok (.iand, 1) := by decide +kernel
theorem dX12_gather_60 : decode cX12_gather 60 = .ok (.iconst 1, 1) := by decide +kernel
theorem dX12_gather_61 : decode cX12_gather 61 = .ok (.if_icmp .ne 28, 3) := by decide +kernel
theorem dX12_gather_64 : decode cX12_gather 64 = .ok (.aload_n 0, 1) := by decide +kernel
theorem dX12_gather_65 : decode cX12_gather 65 = .ok (.iload 5, 2) := by decide +kernel
theorem dX12_gather_67 : decode cX12_gather 67 = .ok (.invokevirtual 107, 3) := by decide +kernel
theorem dX12_gather_70 : decode cX12_gather 70 = .ok (.ifCond .eq 17, 3) := by decide +kernel
theorem dX12_gather_73 : decode cX12_gather 73 = .ok (.aload_n 0, 1) := by decide +kernel
theorem dX12_gather_74 : decode cX12_gather 74 = .ok (.iload 5, 2) := by decide +kernel
theorem dX12_gather_76 : decode cX12_gather 76 = .ok (.aload_n 0, 1) := by decide +kernel
theorem dX12_gather_77 : decode cX12_gather 77 = .ok (.getfield 97, 3) := by decide +kernel
theorem dX12_gather_80 : decode cX12_gather 80 = .ok (.invokevirtual 127, 3) := by decide +kernel
theorem dX12_gather_83 : decode cX12_gather 83 = .ok (.iload_n 1, 1) := by decide +kernel
theorem dX12_gather_84 : decode cX12_gather 84 = .ok (.if_icmp .eq 5, 3) := by decide +kernel
theorem dX12_gather_87 : decode cX12_gather 87 = .ok (.iconst (-1), 1) := by decide +kernel
theorem dX12_gather_88 : decode cX12_gather 88 = .ok (.ireturn, 1) := by decide +kernel
theorem dX12_gather_89 : decode cX12_gather 89 = .ok (.iinc 5 1, 3) := by decide +kernel
theorem dX12_gather_92 : decode cX12_gather 92 = .ok (.goto (-48), 3) := by decide +kernel
theorem dX12_gather_95 : decode cX12_gather 95 = .ok (.aload_n 0, 1) := by decide +kernel
theorem dX12_gather_96 : decode cX12_gather 96 = .ok (.getfield 130, 3) := by decide +kernel
theorem dX12_gather_99 : decode cX12_gather 99 = .ok (.istore 5, 2) := by decide +kernel
theorem dX12_gather_101 : decode cX12_gather 101 = .ok (.aload_n 0, 1) := by decide +kernel
theorem dX12_gather_102 : decode cX12_gather 102 = .ok (.dup, 1) := by decide +kernel
theorem dX12_gather_103 : decode cX12_gather 103 = .ok (.getfield 130, 3) := by decide +kernel
theorem dX12_gather_106 : decode cX12_gather 106 = .ok (.iconst 1, 1) := by decide +kernel
theorem dX12_gather_107 : decode cX12_gather 107 = .ok (.iadd, 1) := by decide +kernel
theorem dX12_gather_108 : decode cX12_gather 108 = .ok (.putfield 130, 3) := by decide +kernel
theorem dX12_gather_111 : decode cX12_gather 111 = .ok (.aload_n 0, 1) := by decide +kernel
theorem dX12_gather_112 : decode cX12_gather 112 = .ok (.getfield 46, 3) := by decide +kernel
theorem dX12_gather_115 : decode cX12_gather 115 = .ok (.iload 5, 2) := by decide +kernel
theorem dX12_gather_117 : decode cX12_gather 117 = .ok (.iload_n 1, 1) := by decide +kernel
theorem dX12_gather_118 : decode cX12_gather 118 = .ok (.iastore, 1) := by decide +kernel
theorem dX12_gather_119 : decode cX12_gather 119 = .ok (.aload_n 0, 1) := by decide +kernel
theorem dX12_gather_120 : decode cX12_gather 120 = .ok (.getfield 49, 3) := by decide +kernel
theorem dX12_gather_123 : decode cX12_gather 123 = .ok (.iload 5, 2) := by decide +kernel
theorem dX12_gather_125 : decode cX12_gather 125 = .ok (.aload_n 0, 1) := by decide +kernel
theorem dX12_gather_126 : decode cX12_gather 126 = .ok (.getfield 97, 3) := by decide +kernel
theorem dX12_gather_129 : decode cX12_gather 129 = .ok (.iastore, 1) := by decide +kernel
theorem dX12_gather_130 : decode cX12_gather 130 = .ok (.aload_n 0, 1) := by decide +kernel
theorem dX12_gather_131 : decode cX12_gather 131 = .ok (.getfield 52, 3) := by decide +kernel
theorem dX12_gather_134 : decode cX12_gather 134 = .ok (.iload 5, 2) := by decide +kernel
theorem dX12_gather_136 : decode cX12_gather 136 = .ok (.iload_n 2, 1) := by decide +kernel
theorem dX12_gather_137 : decode cX12_gather 137 = .ok (.iastore, 1) := by decide +kernel
theorem dX12_gather_138 : decode cX12_gather 138 = .ok (.aload_n 0, 1) := by decide +kernel
theorem dX12_gather_139 : decode cX12_gather 139 = .ok (.getfield 55, 3) := by decide +kernel
theorem dX12_gather_142 : decode cX12_gather 142 = .ok (.iload 5, 2) := by decide +kernel
theorem dX12_gather_144 : decode cX12_gather 144 = .ok (.iload_n 3, 1) := by decide +kernel
theorem dX12_gather_145 : decode cX12_gather 145 = .ok (.iastore, 1) := by decide +kernel
theorem dX12_gather_146 : decode cX12_gather 146 = .ok (.aload_n 0, 1) := by decide +kernel
theorem dX12_gather_147 : decode cX12_gather 147 = .ok (.getfield 58, 3) := by decide +kernel
theorem dX12_gather_150 : decode cX12_gather 150 = .ok (.iload 5, 2) := by decide +kernel
theorem dX12_gather_152 : decode cX12_gather 152 = .ok (.iload 4, 2) := by decide +kernel
theorem dX12_gather_154 : decode cX12_gather 154 = .ok (.iastore, 1) := by decide +kernel
theorem dX12_gather_155 : decode cX12_gather 155 = .ok (.iload 5, 2) := by decide +kernel
theorem dX12_gather_157 : decode cX12_gather 157 = .ok (.ireturn, 1) := by decide +kernel
theorem dX12_gathering_0 : decode cX12_gathering 0 = .ok (.iload_n 1, 1) := by decide +kernel
theorem dX12_gathering_1 : decode cX12_gathering 1 = .ok (.iconst 0, 1) := by decide +kernel
theorem dX12_gathering_2 : decode cX12_gathering 2 = .ok (.aload_n 0, 1) := by decide +kernel
theorem dX12_gathering_3 : decode cX12_gathering 3 = .ok (.getfield 130, 3) := by decide +kernel
theorem dX12_gathering_6 : decode cX12_gathering 6 = .ok (.iconst 1, 1) := by decide +kernel
theorem dX12_gathering_7 : decode cX12_gathering 7 = .ok (.isub, 1) := by decide +kernel
theorem dX12_gathering_8 : decode cX12_gathering 8 = .ok (.invokestatic 86, 3) := by decide +kernel
theorem dX12_gathering_11 : decode cX12_gathering 11 = .ok (.ifCond .ne 5, 3) := by decide +kernel
theorem dX12_gathering_14 : decode cX12_gathering 14 = .ok (.iconst (-1), 1) := by decide +kernel
theorem dX12_gathering_15 : decode cX12_gathering 15 = .ok (.ireturn, 1) := by decide +kernel
theorem dX12_gathering_16 : decode cX12_gathering 16 = .ok (.iload_n 2, 1) := by decide +kernel
theorem dX12_gathering_17 : decode cX12_gathering 17 = .ok (.tableswitch 70 0 4 #[35, 42, 49, 56, 63], 35) := by decide +kernel
theorem dX12_gathering_52 : decode cX12_gathering 52 = .ok (.aload_n 0, 1) := by decide +kernel
theorem dX12_gathering_53 : decode cX12_gathering 53 = .ok (.getfield 46, 3) := by decide +kernel
theorem dX12_gathering_56 : decode cX12_gathering 56 = .ok (.iload_n 1, 1) := by decide +kernel
theorem dX12_gathering_57 : decode cX12_gathering 57 = .ok (.iaload, 1) := by decide +kernel
theorem dX12_gathering_58 : decode cX12_gathering 58 = .ok (.ireturn, 1) := by decide +kernel
theorem dX12_gathering_59 : decode cX12_gathering 59 = .ok (.aload_n 0, 1) := by decide +kernel
theorem dX12_gathering_60 : decode cX12_gathering 60 = .ok (.getfield 49, 3) := by decide +kernel
theorem dX12_gathering_63 : decode cX12_gathering 63 = .ok (.iload_n 1, 1) := by decide +kernel
theorem dX12_gathering_64 : decode cX12_gathering 64 = .ok (.iaload, 1) := by decide +kernel
theorem dX12_gathering_65 : decode cX12_gathering 65 = .ok (.ireturn, 1) := by decide +kernel
theorem dX12_gathering_66 : decode cX12_gathering 66 = .ok (.aload_n 0, 1) := by decide +kernel
theorem dX12_gathering_67 : decode cX12_gathering 67 = .ok (.getfield 52, 3) := by decide +kernel
theorem dX12_gathering_70 : decode cX12_gathering 70 = .ok (.iload_n 1, 1) := by decide +kernel
theorem dX12_gathering_71 : decode cX12_gathering 71 = .ok (.iaload, 1) := by decide +kernel
theorem dX12_gathering_72 : decode cX12_gathering 72 = .ok (.ireturn, 1) := by decide +kernel
theorem dX12_gathering_73 : decode cX12_gathering 73 = .ok (.aload_n 0, 1) := by decide +kernel
theorem dX12_gathering_74 : decode cX12_gathering 74 = .ok (.getfield 55, 3) := by decide +kernel
theorem dX12_gathering_77 : decode cX12_gathering 77 = .ok (.iload_n 1, 1) := by decide +kernel
theorem dX12_gathering_78 : decode cX12_gathering 78 = .ok (.iaload, 1) := by decide +kernel
theorem dX12_gathering_79 : decode cX12_gathering 79 = .ok (.ireturn, 1) := by decide +kernel
theorem dX12_gathering_80 : decode cX12_gathering 80 = .ok (.aload_n 0, 1) := by decide +kernel
theorem dX12_gathering_81 : decode cX12_gathering 81 = .ok (.getfield 58, 3) := by decide +kernel
theorem dX12_gathering_84 : decode cX12_gathering 84 = .ok (.iload_n 1, 1) := by decide +kernel
theorem dX12_gathering_85 : decode cX12_gathering 85 = .ok (.iaload, 1) := by decide +kernel
theorem dX12_gathering_86 : decode cX12_gathering 86 = .ok (.ireturn, 1) := by decide +kernel
theorem dX12_gathering_87 : decode cX12_gathering 87 = .ok (.iconst (-1), 1) := by decide +kernel
theorem dX12_gathering_88 : decode cX12_gathering 88 = .ok (.ireturn, 1) := by decide +kernel
theorem dX12_seenOf_0 : decode cX12_seenOf 0 = .ok (.iconst 0, 1) := by decide +kernel
theorem dX12_seenOf_1 : decode cX12_seenOf 1 = .ok (.istore 4, 2) := by decide +kernel
theorem dX12_seenOf_3 : decode cX12_seenOf 3 = .ok (.iconst 0, 1) := by decide +kernel
theorem dX12_seenOf_4 : decode cX12_seenOf 4 = .ok (.istore 5, 2) := by decide +kernel
theorem dX12_seenOf_6 : decode cX12_seenOf 6 = .ok (.iload 5, 2) := by decide +kernel
theorem dX12_seenOf_8 : decode cX12_seenOf 8 = .ok (.aload_n 0, 1) := by decide +kernel
theorem dX12_seenOf_9 : decode cX12_seenOf 9 = .ok (.getfield 130, 3) := by decide +kernel
theorem dX12_seenOf_12 : decode cX12_seenOf 12 = .ok (.if_icmp .ge 64, 3) := by decide +kernel
theorem dX12_seenOf_15 : decode cX12_seenOf 15 = .ok (.iload 4, 2) := by decide +kernel
theorem dX12_seenOf_17 : decode cX12_seenOf 17 = .ok (.aload_n 0, 1) := by decide +kernel
theorem dX12_seenOf_18 : decode cX12_seenOf 18 = .ok (.getfield 55, 3) := by decide +kernel
theorem dX12_seenOf_21 : decode cX12_seenOf 21 = .ok (.iload 5, 2) := by decide +kernel
theorem dX12_seenOf_23 : decode cX12_seenOf 23 = .ok (.iaload, 1) := by decide +kernel
theorem dX12_seenOf_24 : decode cX12_seenOf 24 = .ok (.iload_n 1, 1) := by decide +kernel
theorem dX12_seenOf_25 : decode cX12_seenOf 25 = .ok (.ishr, 1) := by decide +kernel
theorem dX12_seenOf_26 : decode cX12_seenOf 26 = .ok (.iconst 1, 1) := by decide +kernel
theorem dX12_seenOf_27 : decode cX12_seenOf 27 = .ok (.iand, 1) := by decide +kernel
theorem dX12_seenOf_28 : decode cX12_seenOf 28 = .ok (.iconst 1, 1) := by decide +kernel
theorem dX12_seenOf_29 : decode cX12_seenOf 29 = .ok (.if_icmp .ne 37, 3) := by decide +kernel
theorem dX12_seenOf_32 : decode cX12_seenOf 32 = .ok (.aload_n 0, 1) := by decide +kernel
theorem dX12_seenOf_33 : decode cX12_seenOf 33 = .ok (.getfield 58, 3) := by decide +kernel
theorem dX12_seenOf_36 : decode cX12_seenOf 36 = .ok (.iload 5, 2) := by decide +kernel
theorem dX12_seenOf_38 : decode cX12_seenOf 38 = .ok (.iaload, 1) := by decide +kernel
theorem dX12_seenOf_39 : decode cX12_seenOf 39 = .ok (.iload_n 2, 1) := by decide +kernel
theorem dX12_seenOf_40 : decode cX12_seenOf 40 = .ok (.ishr, 1) := by decide +kernel
theorem dX12_seenOf_41 : decode cX12_seenOf 41 = .ok (.iconst 1, 1) := by decide +kernel
theorem dX12_seenOf_42 : decode cX12_seenOf 42 = .ok (.iand, 1) := by decide +kernel
theorem dX12_seenOf_43 : decode cX12_seenOf 43 = .ok (.iconst 1, 1) := by decide +kernel
theorem dX12_seenOf_44 : decode cX12_seenOf 44 = .ok (.if_icmp .ne 22, 3) := by decide +kernel
theorem dX12_seenOf_47 : decode cX12_seenOf 47 = .ok (.aload_n 0, 1) := by decide +kernel
theorem dX12_seenOf_48 : decode cX12_seenOf 48 = .ok (.getfield 58, 3) := by decide +kernel
theorem dX12_seenOf_51 : decode cX12_seenOf 51 = .ok (.iload 5, 2) := by decide +kernel
theorem dX12_seenOf_53 : decode cX12_seenOf 53 = .ok (.iaload, 1) := by decide +kernel
theorem dX12_seenOf_54 : decode cX12_seenOf 54 = .ok (.iload_n 3, 1) := by decide +kernel
theorem dX12_seenOf_55 : decode cX12_seenOf 55 = .ok (.ishr, 1) := by decide +kernel
theorem dX12_seenOf_56 : decode cX12_seenOf 56 = .ok (.iconst 1, 1) := by decide +kernel
theorem dX12_seenOf_57 : decode cX12_seenOf 57 = .ok (.iand, 1) := by decide +kernel
theorem dX12_seenOf_58 : decode cX12_seenOf 58 = .ok (.iconst 1, 1) := by decide +kernel
theorem dX12_seenOf_59 : decode cX12_seenOf 59 = .ok (.if_icmp .ne 7, 3) := by decide +kernel
theorem dX12_seenOf_62 : decode cX12_seenOf 62 = .ok (.iconst 1, 1) := by decide +kernel
theorem dX12_seenOf_63 : decode cX12_seenOf 63 = .ok (.goto 4, 3) := by decide +kernel
theorem dX12_seenOf_66 : decode cX12_seenOf 66 = .ok (.iconst 0, 1) := by decide +kernel
theorem dX12_seenOf_67 : decode cX12_seenOf 67 = .ok (.iadd, 1) := by decide +kernel
theorem dX12_seenOf_68 : decode cX12_seenOf 68 = .ok (.istore 4, 2) := by decide +kernel
theorem dX12_seenOf_70 : decode cX12_seenOf 70 = .ok (.iinc 5 1, 3) := by decide +kernel
theorem dX12_seenOf_73 : decode cX12_seenOf 73 = .ok (.goto (-67), 3) := by decide +kernel
theorem dX12_seenOf_76 : decode cX12_seenOf 76 = .ok (.iload 4, 2) := by decide +kernel
theorem dX12_seenOf_78 : decode cX12_seenOf 78 = .ok (.ireturn, 1) := by decide +kernel
theorem dX12_seen_0 : decode cX12_seen 0 = .ok (.iload_n 1, 1) := by decide +kernel
theorem dX12_seen_1 : decode cX12_seen 1 = .ok (.iconst 0, 1) := by decide +kernel
theorem dX12_seen_2 : decode cX12_seen 2 = .ok (.bipush 7, 2) := by decide +kernel
theorem dX12_seen_4 : decode cX12_seen 4 = .ok (.invokestatic 86, 3) := by decide +kernel
theorem dX12_seen_7 : decode cX12_seen 7 = .ok (.ifCond .eq 29, 3) := by decide +kernel
theorem dX12_seen_10 : decode cX12_seen 10 = .ok (.aload_n 0, 1) := by decide +kernel
theorem dX12_seen_11 : decode cX12_seen 11 = .ok (.iload_n 2, 1) := by decide +kernel
theorem dX12_seen_12 : decode cX12_seen 12 = .ok (.invokevirtual 93, 3) := by decide +kernel
theorem dX12_seen_15 : decode cX12_seen 15 = .ok (.ifCond .eq 21, 3) := by decide +kernel
theorem dX12_seen_18 : decode cX12_seen 18 = .ok (.aload_n 0, 1) := by decide +kernel
theorem dX12_seen_19 : decode cX12_seen 19 = .ok (.iload_n 3, 1) := by decide +kernel
theorem dX12_seen_20 : decode cX12_seen 20 = .ok (.invokevirtual 93, 3) := by decide +kernel
theorem dX12_seen_23 : decode cX12_seen 23 = .ok (.ifCond .eq 13, 3) := by decide +kernel
theorem dX12_seen_26 : decode cX12_seen 26 = .ok (.aload_n 0, 1) := by decide +kernel
theorem dX12_seen_27 : decode cX12_seen 27 = .ok (.iload_n 1, 1) := by decide +kernel
theorem dX12_seen_28 : decode cX12_seen 28 = .ok (.iload_n 2, 1) := by decide +kernel
theorem dX12_seen_29 : decode cX12_seen 29 = .ok (.iload_n 3, 1) := by decide +kernel
theorem dX12_seen_30 : decode cX12_seen 30 = .ok (.invokevirtual 148, 3) := by decide +kernel
theorem dX12_seen_33 : decode cX12_seen 33 = .ok (.goto 4, 3) := by decide +kernel
theorem dX12_seen_36 : decode cX12_seen 36 = .ok (.iconst (-1), 1) := by decide +kernel
theorem dX12_seen_37 : decode cX12_seen 37 = .ok (.ireturn, 1) := by decide +kernel
theorem dX12_againOf_0 : decode cX12_againOf 0 = .ok (.iconst 0, 1) := by decide +kernel
theorem dX12_againOf_1 : decode cX12_againOf 1 = .ok (.istore_n 3, 1) := by decide +kernel
theorem dX12_againOf_2 : decode cX12_againOf 2 = .ok (.iconst 0, 1) := by decide +kernel
theorem dX12_againOf_3 : decode cX12_againOf 3 = .ok (.istore 4, 2) := by decide +kernel
theorem dX12_againOf_5 : decode cX12_againOf 5 = .ok (.iload 4, 2) := by decide +kernel
theorem dX12_againOf_7 : decode cX12_againOf 7 = .ok (.bipush 8, 2) := by decide +kernel
theorem dX12_againOf_9 : decode cX12_againOf 9 = .ok (.if_icmp .ge 150, 3) := by decide +kernel
theorem dX12_againOf_12 : decode cX12_againOf 12 = .ok (.iload_n 1, 1) := by decide +kernel
theorem dX12_againOf_13 : decode cX12_againOf 13 = .ok (.iload 4, 2) := by decide +kernel
theorem dX12_againOf_15 : decode cX12_againOf 15 = .ok (.ishr, 1) := by decide +kernel
theorem dX12_againOf_16 : decode cX12_againOf 16 = .ok (.iconst 1, 1) := by decide +kernel
theorem dX12_againOf_17 : decode cX12_againOf 17 = .ok (.iand, 1) := by decide +kernel
theorem dX12_againOf_18 : decode cX12_againOf 18 = .ok (.ifCond .ne 6, 3) := by decide +kernel
theorem dX12_againOf_21 : decode cX12_againOf 21 = .ok (.goto 132, 3) := by decide +kernel
theorem dX12_againOf_24 : decode cX12_againOf 24 = .ok (.iconst 0, 1) := by decide +kernel
theorem dX12_againOf_25 : decode cX12_againOf 25 = .ok (.istore 5, 2) := by decide +kernel
theorem dX12_againOf_27 : decode cX12_againOf 27 = .ok (.iload 5, 2) := by decide +kernel
theorem dX12_againOf_29 : decode cX12_againOf 29 = .ok (.aload_n 0, 1) := by decide +kernel
theorem dX12_againOf_30 : decode cX12_againOf 30 = .ok (.getfield 90, 3) := by decide +kernel
theorem dX12_againOf_33 : decode cX12_againOf 33 = .ok (.if_icmp .ge 66, 3) := by decide +kernel
theorem dX12_againOf_36 : decode cX12_againOf 36 = .ok (.iload 5, 2) := by decide +kernel
theorem dX12_againOf_38 : decode cX12_againOf 38 = .ok (.iconst 1, 1) := by decide +kernel
theorem dX12_againOf_39 : decode cX12_againOf 39 = .ok (.iadd, 1) := by decide +kernel
theorem dX12_againOf_40 : decode cX12_againOf 40 = .ok (.istore 6, 2) := by decide +kernel
theorem dX12_againOf_42 : decode cX12_againOf 42 = .ok (.iload 6, 2) := by decide +kernel
theorem dX12_againOf_44 : decode cX12_againOf 44 = .ok (.aload_n 0, 1) := by decide +kernel
theorem dX12_againOf_45 : decode cX12_againOf 45 = .ok (.getfield 90, 3) := by decide +kernel
theorem dX12_againOf_48 : decode cX12_againOf 48 = .ok (.if_icmp .ge 45, 3) := by decide +kernel
theorem dX12_againOf_51 : decode cX12_againOf 51 = .ok (.iload_n 2, 1) := by decide +kernel
theorem dX12_againOf_52 : decode cX12_againOf 52 = .ok (.iload 5, 2) := by decide +kernel
theorem dX12_againOf_54 : decode cX12_againOf 54 = .ok (.ishr, 1) := by decide +kernel
theorem dX12_againOf_55 : decode cX12_againOf 55 = .ok (.iconst 1, 1) := by decide +kernel
theorem dX12_againOf_56 : decode cX12_againOf 56 = .ok (.iand, 1) := by decide +kernel
theorem dX12_againOf_57 : decode cX12_againOf 57 = .ok (.iconst 1, 1) := by decide +kernel
theorem dX12_againOf_58 : decode cX12_againOf 58 = .ok (.if_icmp .ne 29, 3) := by decide +kernel
theorem dX12_againOf_61 : decode cX12_againOf 61 = .ok (.iload_n 2, 1) := by decide +kernel
theorem dX12_againOf_62 : decode cX12_againOf 62 = .ok (.iload 6, 2) := by decide +kernel
theorem dX12_againOf_64 : decode cX12_againOf 64 = .ok (.ishr, 1) := by decide +kernel
theorem dX12_againOf_65 : decode cX12_againOf 65 = .ok (.iconst 1, 1) := by decide +kernel
theorem dX12_againOf_66 : decode cX12_againOf 66 = .ok (.iand, 1) := by decide +kernel
theorem dX12_againOf_67 : decode cX12_againOf 67 = .ok (.iconst 1, 1) := by decide +kernel
theorem dX12_againOf_68 : decode cX12_againOf 68 = .ok (.if_icmp .ne 19, 3) := by decide +kernel
theorem dX12_againOf_71 : decode cX12_againOf 71 = .ok (.aload_n 0, 1) := by decide +kernel
theorem dX12_againOf_72 : decode cX12_againOf 72 = .ok (.iload 4, 2) := by decide +kernel
theorem dX12_againOf_74 : decode cX12_againOf 74 = .ok (.iload 5, 2) := by decide +kernel
theorem dX12_againOf_76 : decode cX12_againOf 76 = .ok (.iload 6, 2) := by decide +kernel
theorem dX12_againOf_78 : decode cX12_againOf 78 = .ok (.invokevirtual 148, 3) := by decide +kernel
theorem dX12_againOf_81 : decode cX12_againOf 81 = .ok (.ifCond .le 6, 3) := by decide +kernel
theorem dX12_againOf_84 : decode cX12_againOf 84 = .ok (.iinc 3 1, 3) := by decide +kernel
theorem dX12_againOf_87 : decode cX12_againOf 87 = .ok (.iinc 6 1, 3) := by decide +kernel
theorem dX12_againOf_90 : decode cX12_againOf 90 = .ok (.goto (-48), 3) := by decide +kernel
theorem dX12_againOf_93 : decode cX12_againOf 93 = .ok (.iinc 5 1, 3) := by decide +kernel
theorem dX12_againOf_96 : decode cX12_againOf 96 = .ok (.goto (-69), 3) := by decide +kernel
theorem dX12_againOf_99 : decode cX12_againOf 99 = .ok (.iconst 0, 1) := by decide +kernel
theorem dX12_againOf_100 : decode cX12_againOf 100 = .ok (.istore 5, 2) := by decide +kernel
theorem dX12_againOf_102 : decode cX12_againOf 102 = .ok (.iload 5, 2) := by decide +kernel
theorem dX12_againOf_104 : decode cX12_againOf 104 = .ok (.aload_n 0, 1) := by decide +kernel
theorem dX12_againOf_105 : decode cX12_againOf 105 = .ok (.getfield 130, 3) := by decide +kernel
theorem dX12_againOf_108 : decode cX12_againOf 108 = .ok (.if_icmp .ge 45, 3) := by decide +kernel
theorem dX12_againOf_111 : decode cX12_againOf 111 = .ok (.iload_n 3, 1) := by decide +kernel
theorem dX12_againOf_112 : decode cX12_againOf 112 = .ok (.aload_n 0, 1) := by decide +kernel
theorem dX12_againOf_113 : decode cX12_againOf 113 = .ok (.getfield 55, 3) := by decide +kernel
theorem dX12_againOf_116 : decode cX12_againOf 116 = .ok (.iload 5, 2) := by decide +kernel
theorem dX12_againOf_118 : decode cX12_againOf 118 = .ok (.iaload, 1) := by decide +kernel
theorem dX12_againOf_119 : decode cX12_againOf 119 = .ok (.iload 4, 2) := by decide +kernel
theorem dX12_againOf_121 : decode cX12_againOf 121 = .ok (.ishr, 1) := by decide +kernel
theorem dX12_againOf_122 : decode cX12_againOf 122 = .ok (.iconst 1, 1) := by decide +kernel
theorem dX12_againOf_123 : decode cX12_againOf 123 = .ok (.iand, 1) := by decide +kernel
theorem dX12_againOf_124 : decode cX12_againOf 124 = .ok (.iconst 1, 1) := by decide +kernel
theorem dX12_againOf_125 : decode cX12_againOf 125 = .ok (.if_icmp .ne 19, 3) := by decide +kernel
theorem dX12_againOf_128 : decode cX12_againOf 128 = .ok (.aload_n 0, 1) := by decide +kernel
theorem dX12_againOf_129 : decode cX12_againOf 129 = .ok (.getfield 58, 3) := by decide +kernel
theorem dX12_againOf_132 : decode cX12_againOf 132 = .ok (.iload 5, 2) := by decide +kernel
theorem dX12_againOf_134 : decode cX12_againOf 134 = .ok (.iaload, 1) := by decide +kernel
theorem dX12_againOf_135 : decode cX12_againOf 135 = .ok (.iload_n 2, 1) := by decide +kernel
theorem dX12_againOf_136 : decode cX12_againOf 136 = .ok (.if_icmp .ne 8, 3) := by decide +kernel
theorem dX12_againOf_139 : decode cX12_againOf 139 = .ok (.bipush 10, 2) := by decide +kernel
theorem dX12_againOf_141 : decode cX12_againOf 141 = .ok (.goto 4, 3) := by decide +kernel
theorem dX12_againOf_144 : decode cX12_againOf 144 = .ok (.iconst 0, 1) := by decide +kernel
theorem dX12_againOf_145 : decode cX12_againOf 145 = .ok (.iadd, 1) := by decide +kernel
theorem dX12_againOf_146 : decode cX12_againOf 146 = .ok (.istore_n 3, 1) := by decide +kernel
theorem dX12_againOf_147 : decode cX12_againOf 147 = .ok (.iinc 5 1, 3) := by decide +kernel
theorem dX12_againOf_150 : decode cX12_againOf 150 = .ok (.goto (-48), 3) := by decide +kernel
theorem dX12_againOf_153 : decode cX12_againOf 153 = .ok (.iinc 4 1, 3) := by decide +kernel
theorem dX12_againOf_156 : decode cX12_againOf 156 = .ok (.goto (-151), 3) := by decide +kernel
theorem dX12_againOf_159 : decode cX12_againOf 159 = .ok (.iload_n 3, 1) := by decide +kernel
theorem dX12_againOf_160 : decode cX12_againOf 160 = .ok (.ireturn, 1) := by decide +kernel
theorem dX12_again_0 : decode cX12_again 0 = .ok (.iload_n 1, 1) := by decide +kernel
theorem dX12_again_1 : decode cX12_again 1 = .ok (.invokestatic 142, 3) := by decide +kernel
theorem dX12_again_4 : decode cX12_again 4 = .ok (.ifCond .eq 20, 3) := by decide +kernel
theorem dX12_again_7 : decode cX12_again 7 = .ok (.aload_n 0, 1) := by decide +kernel
theorem dX12_again_8 : decode cX12_again 8 = .ok (.iload_n 2, 1) := by decide +kernel
theorem dX12_again_9 : decode cX12_again 9 = .ok (.invokevirtual 145, 3) := by decide +kernel
theorem dX12_again_12 : decode cX12_again 12 = .ok (.ifCond .eq 12, 3) := by decide +kernel
theorem dX12_again_15 : decode cX12_again 15 = .ok (.aload_n 0, 1) := by decide +kernel
theorem dX12_again_16 : decode cX12_again 16 = .ok (.iload_n 1, 1) := by decide +kernel
theorem dX12_again_17 : decode cX12_again 17 = .ok (.iload_n 2, 1) := by decide +kernel
theorem dX12_again_18 : decode cX12_again 18 = .ok (.invokevirtual 152, 3) := by decide +kernel
theorem dX12_again_21 : decode cX12_again 21 = .ok (.goto 4, 3) := by decide +kernel
theorem dX12_again_24 : decode cX12_again 24 = .ok (.iconst (-1), 1) := by decide +kernel
theorem dX12_again_25 : decode cX12_again 25 = .ok (.ireturn, 1) := by decide +kernel
theorem dX12_feed_0 : decode cX12_feed 0 = .ok (.aload_n 0, 1) := by decide +kernel
theorem dX12_feed_1 : decode cX12_feed 1 = .ok (.getfield 155, 3) := by decide +kernel
theorem dX12_feed_4 : decode cX12_feed 4 = .ok (.bipush 20, 2) := by decide +kernel
theorem dX12_feed_6 : decode cX12_feed 6 = .ok (.iadd, 1) := by decide +kernel
theorem dX12_feed_7 : decode cX12_feed 7 = .ok (.sipush 600, 3) := by decide +kernel
theorem dX12_feed_10 : decode cX12_feed 10 = .ok (.if_icmp .le 5, 3) := by decide +kernel
theorem dX12_feed_13 : decode cX12_feed 13 = .ok (.iconst (-1), 1) := by decide +kernel
theorem dX12_feed_14 : decode cX12_feed 14 = .ok (.ireturn, 1) := by decide +kernel
theorem dX12_feed_15 : decode cX12_feed 15 = .ok (.iconst 0, 1) := by decide +kernel
theorem dX12_feed_16 : decode cX12_feed 16 = .ok (.istore 6, 2) := by decide +kernel
theorem dX12_feed_18 : decode cX12_feed 18 = .ok (.iload 6, 2) := by decide +kernel
theorem dX12_feed_20 : decode cX12_feed 20 = .ok (.bipush 20, 2) := by decide +kernel
theorem dX12_feed_22 : decode cX12_feed 22 = .ok (.if_icmp .ge 93, 3) := by decide +kernel
theorem dX12_feed_25 : decode cX12_feed 25 = .ok (.iload 6, 2) := by decide +kernel
theorem dX12_feed_27 : decode cX12_feed 27 = .ok (.iconst 4, 1) := by decide +kernel
theorem dX12_feed_28 : decode cX12_feed 28 = .ok (.if_icmp .ge 7, 3) := by decide +kernel
theorem dX12_feed_31 : decode cX12_feed 31 = .ok (.iload_n 1, 1) := by decide +kernel
theorem dX12_feed_32 : decode cX12_feed 32 = .ok (.goto 39, 3) := by decide +kernel
theorem dX12_feed_35 : decode cX12_feed 35 = .ok (.iload 6, 2) := by decide +kernel
theorem dX12_feed_37 : decode cX12_feed 37 = .ok (.bipush 8, 2) := by decide +kernel
theorem dX12_feed_39 : decode cX12_feed 39 = .ok (.if_icmp .ge 7, 3) := by decide +kernel
theorem dX12_feed_42 : decode cX12_feed 42 = .ok (.iload_n 2, 1) := by decide +kernel
theorem dX12_feed_43 : decode cX12_feed 43 = .ok (.goto 28, 3) := by decide +kernel
theorem dX12_feed_46 : decode cX12_feed 46 = .ok (.iload 6, 2) := by decide +kernel
theorem dX12_feed_48 : decode cX12_feed 48 = .ok (.bipush 12, 2) := by decide +kernel
theorem dX12_feed_50 : decode cX12_feed 50 = .ok (.if_icmp .ge 7, 3) := by decide +kernel
theorem dX12_feed_53 : decode cX12_feed 53 = .ok (.iload_n 3, 1) := by decide +kernel
theorem dX12_feed_54 : decode cX12_feed 54 = .ok (.goto 17, 3) := by decide +kernel
theorem dX12_feed_57 : decode cX12_feed 57 = .ok (.iload 6, 2) := by decide +kernel
theorem dX12_feed_59 : decode cX12_feed 59 = .ok (.bipush 16, 2) := by decide +kernel
theorem dX12_feed_61 : decode cX12_feed 61 = .ok (.if_icmp .ge 8, 3) := by decide +kernel
theorem dX12_feed_64 : decode cX12_feed 64 = .ok (.iload 4, 2) := by decide +kernel
theorem dX12_feed_66 : decode cX12_feed 66 = .ok (.goto 5, 3) := by decide +kernel
theorem dX12_feed_69 : decode cX12_feed 69 = .ok (.iload 5, 2) := by decide +kernel
theorem dX12_feed_71 : decode cX12_feed 71 = .ok (.istore 7, 2) := by decide +kernel
theorem dX12_feed_73 : decode cX12_feed 73 = .ok (.aload_n 0, 1) := by decide +kernel
theorem dX12_feed_74 : decode cX12_feed 74 = .ok (.getfield 76, 3) := by decide +kernel
theorem dX12_feed_77 : decode cX12_feed 77 = .ok (.aload_n 0, 1) := by decide +kernel
theorem dX12_feed_78 : decode cX12_feed 78 = .ok (.getfield 155, 3) := by decide +kernel
theorem dX12_feed_81 : decode cX12_feed 81 = .ok (.iload 7, 2) := by decide +kernel
theorem dX12_feed_83 : decode cX12_feed 83 = .ok (.bipush 24, 2) := by decide +kernel
theorem dX12_feed_85 : decode cX12_feed 85 = .ok (.bipush 8, 2) := by decide +kernel
theorem dX12_feed_87 : decode cX12_feed 87 = .ok (.iload 6, 2) := by decide +kernel
theorem dX12_feed_89 : decode cX12_feed 89 = .ok (.iconst 4, 1) := by decide +kernel
theorem dX12_feed_90 : decode cX12_feed 90 = .ok (.irem, 1) := by decide +kernel
theorem dX12_feed_91 : decode cX12_feed 91 = .ok (.imul, 1) := by decide +kernel
theorem dX12_feed_92 : decode cX12_feed 92 = .ok (.isub, 1) := by decide +kernel
theorem dX12_feed_93 : decode cX12_feed 93 = .ok (.ishr, 1) := by decide +kernel
theorem dX12_feed_94 : decode cX12_feed 94 = .ok (.sipush 255, 3) := by decide +kernel
theorem dX12_feed_97 : decode cX12_feed 97 = .ok (.iand, 1) := by decide +kernel
theorem dX12_feed_98 : decode cX12_feed 98 = .ok (.iastore, 1) := by decide +kernel
theorem dX12_feed_99 : decode cX12_feed 99 = .ok (.aload_n 0, 1) := by decide +kernel
theorem dX12_feed_100 : decode cX12_feed 100 = .ok (.dup, 1) := by decide +kernel
theorem dX12_feed_101 : decode cX12_feed 101 = .ok (.getfield 155, 3) := by decide +kernel
theorem dX12_feed_104 : decode cX12_feed 104 = .ok (.iconst 1, 1) := by decide +kernel
theorem dX12_feed_105 : decode cX12_feed 105 = .ok (.iadd, 1) := by decide +kernel
theorem dX12_feed_106 : decode cX12_feed 106 = .ok (.putfield 155, 3) := by decide +kernel
theorem dX12_feed_109 : decode cX12_feed 109 = .ok (.iinc 6 1, 3) := by decide +kernel
theorem dX12_feed_112 : decode cX12_feed 112 = .ok (.goto (-94), 3) := by decide +kernel
theorem dX12_feed_115 : decode cX12_feed 115 = .ok (.aload_n 0, 1) := by decide +kernel
theorem dX12_feed_116 : decode cX12_feed 116 = .ok (.getfield 155, 3) := by decide +kernel
theorem dX12_feed_119 : decode cX12_feed 119 = .ok (.ireturn, 1) := by decide +kernel
theorem dX12_end_0 : decode cX12_end 0 = .ok (.iload_n 1, 1) := by decide +kernel
theorem dX12_end_1 : decode cX12_end 1 = .ok (.iconst 0, 1) := by decide +kernel
theorem dX12_end_2 : decode cX12_end 2 = .ok (.aload_n 0, 1) := by decide +kernel
theorem dX12_end_3 : decode cX12_end 3 = .ok (.getfield 155, 3) := by decide +kernel
theorem dX12_end_6 : decode cX12_end 6 = .ok (.invokestatic 86, 3) := by decide +kernel
theorem dX12_end_9 : decode cX12_end 9 = .ok (.ifCond .ne 5, 3) := by decide +kernel
theorem dX12_end_12 : decode cX12_end 12 = .ok (.iconst 0, 1) := by decide +kernel
theorem dX12_end_13 : decode cX12_end 13 = .ok (.ireturn, 1) := by decide +kernel
theorem dX12_end_14 : decode cX12_end 14 = .ok (.aload_n 0, 1) := by decide +kernel
theorem dX12_end_15 : decode cX12_end 15 = .ok (.iload_n 1, 1) := by decide +kernel
theorem dX12_end_16 : decode cX12_end 16 = .ok (.putfield 155, 3) := by decide +kernel
theorem dX12_end_19 : decode cX12_end 19 = .ok (.iconst 1, 1) := by decide +kernel
theorem dX12_end_20 : decode cX12_end 20 = .ok (.ireturn, 1) := by decide +kernel
theorem dX12_see_0 : decode cX12_see 0 = .ok (.iload_n 1, 1) := by decide +kernel
theorem dX12_see_1 : decode cX12_see 1 = .ok (.aload_n 0, 1) := by decide +kernel
theorem dX12_see_2 : decode cX12_see 2 = .ok (.getfield 155, 3) := by decide +kernel
theorem dX12_see_5 : decode cX12_see 5 = .ok (.if_icmp .ge 12, 3) := by decide +kernel
theorem dX12_see_8 : decode cX12_see 8 = .ok (.aload_n 0, 1) := by decide +kernel
theorem dX12_see_9 : decode cX12_see 9 = .ok (.getfield 76, 3) := by decide +kernel
theorem dX12_see_12 : decode cX12_see 12 = .ok (.iload_n 1, 1) := by decide +kernel
theorem dX12_see_13 : decode cX12_see 13 = .ok (.iaload, 1) := by decide +kernel
theorem dX12_see_14 : decode cX12_see 14 = .ok (.goto 4, 3) := by decide +kernel
theorem dX12_see_17 : decode cX12_see 17 = .ok (.iconst (-1), 1) := by decide +kernel
theorem dX12_see_18 : decode cX12_see 18 = .ok (.ireturn, 1) := by decide +kernel
theorem dX12_isLetter_0 : decode cX12_isLetter 0 = .ok (.iload_n 0, 1) := by decide +kernel
theorem dX12_isLetter_1 : decode cX12_isLetter 1 = .ok (.bipush 97, 2) := by decide +kernel
theorem dX12_isLetter_3 : decode cX12_isLetter 3 = .ok (.bipush 122, 2) := by decide +kernel
theorem dX12_isLetter_5 : decode cX12_isLetter 5 = .ok (.invokestatic 86, 3) := by decide +kernel
theorem dX12_isLetter_8 : decode cX12_isLetter 8 = .ok (.ifCond .ne 14, 3) := by decide +kernel
theorem dX12_isLetter_11 : decode cX12_isLetter 11 = .ok (.iload_n 0, 1) := by decide +kernel
theorem dX12_isLetter_12 : decode cX12_isLetter 12 = .ok (.bipush 65, 2) := by decide +kernel
theorem dX12_isLetter_14 : decode cX12_isLetter 14 = .ok (.bipush 90, 2) := by decide +kernel
theorem dX12_isLetter_16 : decode cX12_isLetter 16 = .ok (.invokestatic 86, 3) := by decide +kernel
theorem dX12_isLetter_19 : decode cX12_isLetter 19 = .ok (.ifCond .eq 7, 3) := by decide +kernel
theorem dX12_isLetter_22 : decode cX12_isLetter 22 = .ok (.iconst 1, 1) := by decide +kernel
theorem dX12_isLetter_23 : decode cX12_isLetter 23 = .ok (.goto 4, 3) := by decide +kernel
theorem dX12_isLetter_26 : decode cX12_isLetter 26 = .ok (.iconst 0, 1) := by decide +kernel
theorem dX12_isLetter_27 : decode cX12_isLetter 27 = .ok (.ireturn, 1) := by decide +kernel
theorem dX12_isDigit_0 : decode cX12_isDigit 0 = .ok (.iload_n 0, 1) := by decide +kernel
theorem dX12_isDigit_1 : decode cX12_isDigit 1 = .ok (.bipush 48, 2) := by decide +kernel
theorem dX12_isDigit_3 : decode cX12_isDigit 3 = .ok (.bipush 57, 2) := by decide +kernel
theorem dX12_isDigit_5 : decode cX12_isDigit 5 = .ok (.invokestatic 86, 3) := by decide +kernel
theorem dX12_isDigit_8 : decode cX12_isDigit 8 = .ok (.ireturn, 1) := by decide +kernel
theorem dX12_word_0 : decode cX12_word 0 = .ok (.lload_n 0, 1) := by decide +kernel
theorem dX12_word_1 : decode cX12_word 1 = .ok (.ldc2_w 158, 3) := by decide +kernel
theorem dX12_word_4 : decode cX12_word 4 = .ok (.lcmp, 1) := by decide +kernel
theorem dX12_word_5 : decode cX12_word 5 = .ok (.ifCond .ne 5, 3) := by decide +kernel
theorem dX12_word_8 : decode cX12_word 8 = .ok (.iconst 3, 1) := by decide +kernel
theorem dX12_word_9 : decode cX12_word 9 = .ok (.ireturn, 1) := by decide +kernel
theorem dX12_word_10 : decode cX12_word 10 = .ok (.lload_n 0, 1) := by decide +kernel
theorem dX12_word_11 : decode cX12_word 11 = .ok (.ldc2_w 160, 3) := by decide +kernel
theorem dX12_word_14 : decode cX12_word 14 = .ok (.lcmp, 1) := by decide +kernel
theorem dX12_word_15 : decode cX12_word 15 = .ok (.ifCond .ne 5, 3) := by decide +kernel
theorem dX12_word_18 : decode cX12_word 18 = .ok (.iconst 4, 1) := by decide +kernel
theorem dX12_word_19 : decode cX12_word 19 = .ok (.ireturn, 1) := by decide +kernel
theorem dX12_word_20 : decode cX12_word 20 = .ok (.lload_n 0, 1) := by decide +kernel
theorem dX12_word_21 : decode cX12_word 21 = .ok (.ldc2_w 162, 3) := by decide +kernel
theorem dX12_word_24 : decode cX12_word 24 = .ok (.lcmp, 1) := by decide +kernel
theorem dX12_word_25 : decode cX12_word 25 = .ok (.ifCond .ne 5, 3) := by decide +kernel
theorem dX12_word_28 : decode cX12_word 28 = .ok (.iconst 5, 1) := by decide +kernel
theorem dX12_word_29 : decode cX12_word 29 = .ok (.ireturn, 1) := by decide +kernel
theorem dX12_word_30 : decode cX12_word 30 = .ok (.lload_n 0, 1) := by decide +kernel
theorem dX12_word_31 : decode cX12_word 31 = .ok (.ldc2_w 164, 3) := by decide +kernel
theorem dX12_word_34 : decode cX12_word 34 = .ok (.lcmp, 1) := by decide +kernel
theorem dX12_word_35 : decode cX12_word 35 = .ok (.ifCond .ne 6, 3) := by decide +kernel
theorem dX12_word_38 : decode cX12_word 38 = .ok (.bipush 6, 2) := by decide +kernel
theorem dX12_word_40 : decode cX12_word 40 = .ok (.ireturn, 1) := by decide +kernel
theorem dX12_word_41 : decode cX12_word 41 = .ok (.lload_n 0, 1) := by decide +kernel
theorem dX12_word_42 : decode cX12_word 42 = .ok (.ldc2_w 166, 3) := by decide +kernel
theorem dX12_word_45 : decode cX12_word 45 = .ok (.lcmp, 1) := by decide +kernel
theorem dX12_word_46 : decode cX12_word 46 = .ok (.ifCond .ne 6, 3) := by decide +kernel
theorem dX12_word_49 : decode cX12_word 49 = .ok (.bipush 7, 2) := by decide +kernel
theorem dX12_word_51 : decode cX12_word 51 = .ok (.ireturn, 1) := by decide +kernel
theorem dX12_word_52 : decode cX12_word 52 = .ok (.lload_n 0, 1) := by decide +kernel
theorem dX12_word_53 : decode cX12_word 53 = .ok (.ldc2_w 168, 3) := by decide +kernel
theorem dX12_word_56 : decode cX12_word 56 = .ok (.lcmp, 1) := by decide +kernel
theorem dX12_word_57 : decode cX12_word 57 = .ok (.ifCond .ne 6, 3) := by decide +kernel
theorem dX12_word_60 : decode cX12_word 60 = .ok (.bipush 8, 2) := by decide +kernel
theorem dX12_word_62 : decode cX12_word 62 = .ok (.ireturn, 1) := by decide +kernel
theorem dX12_word_63 : decode cX12_word 63 = .ok (.lload_n 0, 1) := by decide +kernel
theorem dX12_word_64 : decode cX12_word 64 = .ok (.ldc2_w 170, 3) := by decide +kernel
theorem dX12_word_67 : decode cX12_word 67 = .ok (.lcmp, 1) := by decide +kernel
theorem dX12_word_68 : decode cX12_word 68 = .ok (.ifCond .ne 7, 3) := by decide +kernel
theorem dX12_word_71 : decode cX12_word 71 = .ok (.sipush 410, 3) := by decide +kernel
theorem dX12_word_74 : decode cX12_word 74 = .ok (.ireturn, 1) := by decide +kernel
theorem dX12_word_75 : decode cX12_word 75 = .ok (.lload_n 0, 1) := by decide +kernel
theorem dX12_word_76 : decode cX12_word 76 = .ok (.ldc2_w 172, 3) := by decide +kernel
theorem dX12_word_79 : decode cX12_word 79 = .ok (.lcmp, 1) := by decide +kernel
theorem dX12_word_80 : decode cX12_word 80 = .ok (.ifCond .ne 7, 3) := by decide +kernel
theorem dX12_word_83 : decode cX12_word 83 = .ok (.sipush 420, 3) := by decide +kernel
theorem dX12_word_86 : decode cX12_word 86 = .ok (.ireturn, 1) := by decide +kernel
theorem dX12_word_87 : decode cX12_word 87 = .ok (.lload_n 0, 1) := by decide +kernel
theorem dX12_word_88 : decode cX12_word 88 = .ok (.ldc2_w 174, 3) := by decide +kernel
theorem dX12_word_91 : decode cX12_word 91 = .ok (.lcmp, 1) := by decide +kernel
theorem dX12_word_92 : decode cX12_word 92 = .ok (.ifCond .ne 7, 3) := by decide +kernel
theorem dX12_word_95 : decode cX12_word 95 = .ok (.sipush 430, 3) := by decide +kernel
theorem dX12_word_98 : decode cX12_word 98 = .ok (.ireturn, 1) := by decide +kernel
theorem dX12_word_99 : decode cX12_word 99 = .ok (.lload_n 0, 1) := by decide +kernel
theorem dX12_word_100 : decode cX12_word 100 = .ok (.ldc2_w 176, 3) := by decide +kernel
theorem dX12_word_103 : decode cX12_word 103 = .ok (.lcmp, 1) := by decide +kernel
theorem dX12_word_104 : decode cX12_word 104 = .ok (.ifCond .ne 7, 3) := by decide +kernel
theorem dX12_word_107 : decode cX12_word 107 = .ok (.sipush 440, 3) := by decide +kernel
theorem dX12_word_110 : decode cX12_word 110 = .ok (.ireturn, 1) := by decide +kernel
theorem dX12_word_111 : decode cX12_word 111 = .ok (.lload_n 0, 1) := by decide +kernel
theorem dX12_word_112 : decode cX12_word 112 = .ok (.ldc2_w 178, 3) := by decide +kernel
theorem dX12_word_115 : decode cX12_word 115 = .ok (.lcmp, 1) := by decide +kernel
theorem dX12_word_116 : decode cX12_word 116 = .ok (.ifCond .ne 7, 3) := by decide +kernel
theorem dX12_word_119 : decode cX12_word 119 = .ok (.sipush 300, 3) := by decide +kernel
theorem dX12_word_122 : decode cX12_word 122 = .ok (.ireturn, 1) := by decide +kernel
theorem dX12_word_123 : decode cX12_word 123 = .ok (.lload_n 0, 1) := by decide +kernel
theorem dX12_word_124 : decode cX12_word 124 = .ok (.ldc2_w 180, 3) := by decide +kernel
theorem dX12_word_127 : decode cX12_word 127 = .ok (.lcmp, 1) := by decide +kernel
theorem dX12_word_128 : decode cX12_word 128 = .ok (.ifCond .ne 7, 3) := by decide +kernel
theorem dX12_word_131 : decode cX12_word 131 = .ok (.sipush 301, 3) := by decide +kernel
theorem dX12_word_134 : decode cX12_word 134 = .ok (.ireturn, 1) := by decide +kernel
theorem dX12_word_135 : decode cX12_word 135 = .ok (.lload_n 0, 1) := by decide +kernel
theorem dX12_word_136 : decode cX12_word 136 = .ok (.ldc2_w 182, 3) := by decide +kernel
theorem dX12_word_139 : decode cX12_word 139 = .ok (.lcmp, 1) := by decide +kernel
theorem dX12_word_140 : decode cX12_word 140 = .ok (.ifCond .ne 7, 3) := by decide +kernel
theorem dX12_word_143 : decode cX12_word 143 = .ok (.sipush 302, 3) := by decide +kernel
theorem dX12_word_146 : decode cX12_word 146 = .ok (.ireturn, 1) := by decide +kernel
theorem dX12_word_147 : decode cX12_word 147 = .ok (.lload_n 0, 1) := by decide +kernel
theorem dX12_word_148 : decode cX12_word 148 = .ok (.ldc2_w 184, 3) := by decide +kernel
theorem dX12_word_151 : decode cX12_word 151 = .ok (.lcmp, 1) := by decide +kernel
theorem dX12_word_152 : decode cX12_word 152 = .ok (.ifCond .ne 7, 3) := by decide +kernel
theorem dX12_word_155 : decode cX12_word 155 = .ok (.sipush 303, 3) := by decide +kernel
theorem dX12_word_158 : decode cX12_word 158 = .ok (.ireturn, 1) := by decide +kernel
theorem dX12_word_159 : decode cX12_word 159 = .ok (.lload_n 0, 1) := by decide +kernel
theorem dX12_word_160 : decode cX12_word 160 = .ok (.ldc2_w 186, 3) := by decide +kernel
theorem dX12_word_163 : decode cX12_word 163 = .ok (.lcmp, 1) := by decide +kernel
theorem dX12_word_164 : decode cX12_word 164 = .ok (.ifCond .ne 9, 3) := by decide +kernel
theorem dX12_word_167 : decode cX12_word 167 = .ok (.sipush 304, 3) := by decide +kernel
theorem dX12_word_170 : decode cX12_word 170 = .ok (.goto 4, 3) := by decide +kernel
theorem dX12_word_173 : decode cX12_word 173 = .ok (.iconst 1, 1) := by decide +kernel
theorem dX12_word_174 : decode cX12_word 174 = .ok (.ireturn, 1) := by decide +kernel
theorem dX12_next0_0 : decode cX12_next0 0 = .ok (.aload_n 0, 1) := by decide +kernel
theorem dX12_next0_1 : decode cX12_next0 1 = .ok (.aload_n 0, 1) := by decide +kernel
theorem dX12_next0_2 : decode cX12_next0 2 = .ok (.getfield 188, 3) := by decide +kernel
theorem dX12_next0_5 : decode cX12_next0 5 = .ok (.invokevirtual 191, 3) := by decide +kernel
theorem dX12_next0_8 : decode cX12_next0 8 = .ok (.bipush 32, 2) := by decide +kernel
theorem dX12_next0_10 : decode cX12_next0 10 = .ok (.if_icmp .eq 16, 3) := by decide +kernel
theorem dX12_next0_13 : decode cX12_next0 13 = .ok (.aload_n 0, 1) := by decide +kernel
theorem dX12_next0_14 : decode cX12_next0 14 = .ok (.aload_n 0, 1) := by decide +kernel
theorem dX12_next0_15 : decode cX12_next0 15 = .ok (.getfield 188, 3) := by decide +kernel
theorem dX12_next0_18 : decode cX12_next0 18 = .ok (.invokevirtual 191, 3) := by decide +kernel
theorem dX12_next0_21 : decode cX12_next0 21 = .ok (.bipush 10, 2) := by decide +kernel
theorem dX12_next0_23 : decode cX12_next0 23 = .ok (.if_icmp .ne 16, 3) := by decide +kernel
theorem dX12_next0_26 : decode cX12_next0 26 = .ok (.aload_n 0, 1) := by decide +kernel
theorem dX12_next0_27 : decode cX12_next0 27 = .ok (.dup, 1) := by decide +kernel
theorem dX12_next0_28 : decode cX12_next0 28 = .ok (.getfield 188, 3) := by decide +kernel
theorem dX12_next0_31 : decode cX12_next0 31 = .ok (.iconst 1, 1) := by decide +kernel
theorem dX12_next0_32 : decode cX12_next0 32 = .ok (.iadd, 1) := by decide +kernel
theorem dX12_next0_33 : decode cX12_next0 33 = .ok (.putfield 188, 3) := by decide +kernel
theorem dX12_next0_36 : decode cX12_next0 36 = .ok (.goto (-36), 3) := by decide +kernel
theorem dX12_next0_39 : decode cX12_next0 39 = .ok (.aload_n 0, 1) := by decide +kernel
theorem dX12_next0_40 : decode cX12_next0 40 = .ok (.aload_n 0, 1) := by decide +kernel
theorem dX12_next0_41 : decode cX12_next0 41 = .ok (.getfield 188, 3) := by decide +kernel
theorem dX12_next0_44 : decode cX12_next0 44 = .ok (.putfield 194, 3) := by decide +kernel
theorem dX12_next0_47 : decode cX12_next0 47 = .ok (.aload_n 0, 1) := by decide +kernel
theorem dX12_next0_48 : decode cX12_next0 48 = .ok (.aload_n 0, 1) := by decide +kernel
theorem dX12_next0_49 : decode cX12_next0 49 = .ok (.getfield 188, 3) := by decide +kernel
theorem dX12_next0_52 : decode cX12_next0 52 = .ok (.invokevirtual 191, 3) := by decide +kernel
theorem dX12_next0_55 : decode cX12_next0 55 = .ok (.istore_n 1, 1) := by decide +kernel
theorem dX12_next0_56 : decode cX12_next0 56 = .ok (.iconst 0, 1) := by decide +kernel
theorem dX12_next0_57 : decode cX12_next0 57 = .ok (.istore_n 2, 1) := by decide +kernel
theorem dX12_next0_58 : decode cX12_next0 58 = .ok (.iload_n 1, 1) := by decide +kernel
theorem dX12_next0_59 : decode cX12_next0 59 = .ok (.iconst (-1), 1) := by decide +kernel
theorem dX12_next0_60 : decode cX12_next0 60 = .ok (.if_icmp .ne 11, 3) := by decide +kernel
theorem dX12_next0_63 : decode cX12_next0 63 = .ok (.aload_n 0, 1) := by decide +kernel
theorem dX12_next0_64 : decode cX12_next0 64 = .ok (.iconst 0, 1) := by decide +kernel
theorem dX12_next0_65 : decode cX12_next0 65 = .ok (.putfield 197, 3) := by decide +kernel
theorem dX12_next0_68 : decode cX12_next0 68 = .ok (.goto 226, 3) := by decide +kernel
theorem dX12_next0_71 : decode cX12_next0 71 = .ok (.iload_n 1, 1) := by decide +kernel
theorem dX12_next0_72 : decode cX12_next0 72 = .ok (.invokestatic 200, 3) := by decide +kernel
theorem dX12_next0_75 : decode cX12_next0 75 = .ok (.ifCond .eq 77, 3) := by decide +kernel
theorem dX12_next0_78 : decode cX12_next0 78 = .ok (.lconst 0, 1) := by decide +kernel
theorem dX12_next0_79 : decode cX12_next0 79 = .ok (.lstore_n 3, 1) := by decide +kernel
theorem dX12_next0_80 : decode cX12_next0 80 = .ok (.aload_n 0, 1) := by decide +kernel
theorem dX12_next0_81 : decode cX12_next0 81 = .ok (.aload_n 0, 1) := by decide +kernel
theorem dX12_next0_82 : decode cX12_next0 82 = .ok (.getfield 188, 3) := by decide +kernel
theorem dX12_next0_85 : decode cX12_next0 85 = .ok (.invokevirtual 191, 3) := by decide +kernel
theorem dX12_next0_88 : decode cX12_next0 88 = .ok (.invokestatic 200, 3) := by decide +kernel
theorem dX12_next0_91 : decode cX12_next0 91 = .ok (.ifCond .eq 40, 3) := by decide +kernel
theorem dX12_next0_94 : decode cX12_next0 94 = .ok (.iload_n 2, 1) := by decide +kernel
theorem dX12_next0_95 : decode cX12_next0 95 = .ok (.bipush 7, 2) := by decide +kernel
theorem dX12_next0_97 : decode cX12_next0 97 = .ok (.if_icmp .ge 18, 3) := by decide +kernel
theorem dX12_next0_100 : decode cX12_next0 100 = .ok (.lload_n 3, 1) := by decide +kernel
theorem dX12_next0_101 : decode cX12_next0 101 = .ok (.bipush 8, 2) := by decide +kernel
theorem dX12_next0_103 : decode cX12_next0 103 = .ok (.lshl, 1) := by decide +kernel
theorem dX12_next0_104 : decode cX12_next0 104 = .ok (.aload_n 0, 1) := by decide +kernel
theorem dX12_next0_105 : decode cX12_next0 105 = .ok (.aload_n 0, 1) := by decide +kernel
theorem dX12_next0_106 : decode cX12_next0 106 = .ok (.getfield 188, 3) := by decide +kernel
theorem dX12_next0_109 : decode cX12_next0 109 = .ok (.invokevirtual 191, 3) := by decide +kernel
theorem dX12_next0_112 : decode cX12_next0 112 = .ok (.i2l, 1) := by decide +kernel
theorem dX12_next0_113 : decode cX12_next0 113 = .ok (.lor, 1) := by decide +kernel
theorem dX12_next0_114 : decode cX12_next0 114 = .ok (.lstore_n 3, 1) := by decide +kernel
theorem dX12_next0_115 : decode cX12_next0 115 = .ok (.iinc 2 1, 3) := by decide +kernel
theorem dX12_next0_118 : decode cX12_next0 118 = .ok (.aload_n 0, 1) := by decide +kernel
theorem dX12_next0_119 : decode cX12_next0 119 = .ok (.dup, 1) := by decide +kernel
theorem dX12_next0_120 : decode cX12_next0 120 = .ok (.getfield 188, 3) := by decide +kernel
theorem dX12_next0_123 : decode cX12_next0 123 = .ok (.iconst 1, 1) := by decide +kernel
theorem dX12_next0_124 : decode cX12_next0 124 = .ok (.iadd, 1) := by decide +kernel
theorem dX12_next0_125 : decode cX12_next0 125 = .ok (.putfield 188, 3) := by decide +kernel
theorem dX12_next0_128 : decode cX12_next0 128 = .ok (.goto (-48), 3) := by decide +kernel
theorem dX12_next0_131 : decode cX12_next0 131 = .ok (.aload_n 0, 1) := by decide +kernel
theorem dX12_next0_132 : decode cX12_next0 132 = .ok (.iload_n 2, 1) := by decide +kernel
theorem dX12_next0_133 : decode cX12_next0 133 = .ok (.bipush 7, 2) := by decide +kernel
theorem dX12_next0_135 : decode cX12_next0 135 = .ok (.if_icmp .ge 10, 3) := by decide +kernel
theorem dX12_next0_138 : decode cX12_next0 138 = .ok (.lload_n 3, 1) := by decide +kernel
theorem dX12_next0_139 : decode cX12_next0 139 = .ok (.invokestatic 203, 3) := by decide +kernel
theorem dX12_next0_142 : decode cX12_next0 142 = .ok (.goto 4, 3) := by decide +kernel
theorem dX12_next0_145 : decode cX12_next0 145 = .ok (.iconst 1, 1) := by decide +kernel
theorem dX12_next0_146 : decode cX12_next0 146 = .ok (.putfield 197, 3) := by decide +kernel
theorem dX12_next0_149 : decode cX12_next0 149 = .ok (.goto 145, 3) := by decide +kernel
theorem dX12_next0_152 : decode cX12_next0 152 = .ok (.iload_n 1, 1) := by decide +kernel
theorem dX12_next0_153 : decode cX12_next0 153 = .ok (.invokestatic 207, 3) := by decide +kernel
theorem dX12_next0_156 : decode cX12_next0 156 = .ok (.ifCond .eq 83, 3) := by decide +kernel
theorem dX12_next0_159 : decode cX12_next0 159 = .ok (.aload_n 0, 1) := by decide +kernel
theorem dX12_next0_160 : decode cX12_next0 160 = .ok (.iconst 0, 1) := by decide +kernel
theorem dX12_next0_161 : decode cX12_next0 161 = .ok (.putfield 210, 3) := by decide +kernel
theorem dX12_next0_164 : decode cX12_next0 164 = .ok (.aload_n 0, 1) := by decide +kernel
theorem dX12_next0_165 : decode cX12_next0 165 = .ok (.aload_n 0, 1) := by decide +kernel
theorem dX12_next0_166 : decode cX12_next0 166 = .ok (.getfield 188, 3) := by decide +kernel
theorem dX12_next0_169 : decode cX12_next0 169 = .ok (.invokevirtual 191, 3) := by decide +kernel
theorem dX12_next0_172 : decode cX12_next0 172 = .ok (.invokestatic 207, 3) := by decide +kernel
theorem dX12_next0_175 : decode cX12_next0 175 = .ok (.ifCond .eq 47, 3) := by decide +kernel
theorem dX12_next0_178 : decode cX12_next0 178 = .ok (.iload_n 2, 1) := by decide +kernel
theorem dX12_next0_179 : decode cX12_next0 179 = .ok (.iconst 4, 1) := by decide +kernel
theorem dX12_next0_180 : decode cX12_next0 180 = .ok (.if_icmp .ge 26, 3) := by decide +kernel
theorem dX12_next0_183 : decode cX12_next0 183 = .ok (.aload_n 0, 1) := by decide +kernel
theorem dX12_next0_184 : decode cX12_next0 184 = .ok (.bipush 10, 2) := by decide +kernel
theorem dX12_next0_186 : decode cX12_next0 186 = .ok (.aload_n 0, 1) := by decide +kernel
theorem dX12_next0_187 : decode cX12_next0 187 = .ok (.getfield 210, 3) := by decide +kernel
theorem dX12_next0_190 : decode cX12_next0 190 = .ok (.imul, 1) := by decide +kernel
theorem dX12_next0_191 : decode cX12_next0 191 = .ok (.aload_n 0, 1) := by decide +kernel
theorem dX12_next0_192 : decode cX12_next0 192 = .ok (.aload_n 0, 1) := by decide +kernel
theorem dX12_next0_193 : decode cX12_next0 193 = .ok (.getfield 188, 3) := by decide +kernel
theorem dX12_next0_196 : decode cX12_next0 196 = .ok (.invokevirtual 191, 3) := by decide +kernel
theorem dX12_next0_199 : decode cX12_next0 199 = .ok (.iadd, 1) := by decide +kernel
theorem dX12_next0_200 : decode cX12_next0 200 = .ok (.bipush 48, 2) := by decide +kernel
theorem dX12_next0_202 : decode cX12_next0 202 = .ok (.isub, 1) := by decide +kernel
theorem dX12_next0_203 : decode cX12_next0 203 = .ok (.putfield 210, 3) := by decide +kernel
theorem dX12_next0_206 : decode cX12_next0 206 = .ok (.iinc 2 1, 3) := by decide +kernel
theorem dX12_next0_209 : decode cX12_next0 209 = .ok (.aload_n 0, 1) := by decide +kernel
theorem dX12_next0_210 : decode cX12_next0 210 = .ok (.dup, 1) := by decide +kernel
theorem dX12_next0_211 : decode cX12_next0 211 = .ok (.getfield 188, 3) := by decide +kernel
theorem dX12_next0_214 : decode cX12_next0 214 = .ok (.iconst 1, 1) := by decide +kernel
theorem dX12_next0_215 : decode cX12_next0 215 = .ok (.iadd, 1) := by decide +kernel
theorem dX12_next0_216 : decode cX12_next0 216 = .ok (.putfield 188, 3) := by decide +kernel
theorem dX12_next0_219 : decode cX12_next0 219 = .ok (.goto (-55), 3) := by decide +kernel
theorem dX12_next0_222 : decode cX12_next0 222 = .ok (.aload_n 0, 1) := by decide +kernel
theorem dX12_next0_223 : decode cX12_next0 223 = .ok (.iload_n 2, 1) := by decide +kernel
theorem dX12_next0_224 : decode cX12_next0 224 = .ok (.iconst 5, 1) := by decide +kernel
theorem dX12_next0_225 : decode cX12_next0 225 = .ok (.if_icmp .ge 7, 3) := by decide +kernel
theorem dX12_next0_228 : decode cX12_next0 228 = .ok (.iconst 2, 1) := by decide +kernel
theorem dX12_next0_229 : decode cX12_next0 229 = .ok (.goto 4, 3) := by decide +kernel
theorem dX12_next0_232 : decode cX12_next0 232 = .ok (.iconst 1, 1) := by decide +kernel
theorem dX12_next0_233 : decode cX12_next0 233 = .ok (.putfield 197, 3) := by decide +kernel
theorem dX12_next0_236 : decode cX12_next0 236 = .ok (.goto 58, 3) := by decide +kernel
theorem dX12_next0_239 : decode cX12_next0 239 = .ok (.aload_n 0, 1) := by decide +kernel
theorem dX12_next0_240 : decode cX12_next0 240 = .ok (.dup, 1) := by decide +kernel
theorem dX12_next0_241 : decode cX12_next0 241 = .ok (.getfield 188, 3) := by decide +kernel
theorem dX12_next0_244 : decode cX12_next0 244 = .ok (.iconst 1, 1) := by decide +kernel
theorem dX12_next0_245 : decode cX12_next0 245 = .ok (.iadd, 1) := by decide +kernel
theorem dX12_next0_246 : decode cX12_next0 246 = .ok (.putfield 188, 3) := by decide +kernel
theorem dX12_next0_249 : decode cX12_next0 249 = .ok (.aload_n 0, 1) := by decide +kernel
theorem dX12_next0_250 : decode cX12_next0 250 = .ok (.iload_n 1, 1) := by decide +kernel
theorem dX12_next0_251 : decode cX12_next0 251 = .ok (.bipush 59, 2) := by decide +kernel
theorem dX12_next0_253 : decode cX12_next0 253 = .ok (.if_icmp .eq 33, 3) := by decide +kernel
theorem dX12_next0_256 : decode cX12_next0 256 = .ok (.iload_n 1, 1) := by decide +kernel
theorem dX12_next0_257 : decode cX12_next0 257 = .ok (.bipush 40, 2) := by decide +kernel
theorem dX12_next0_259 : decode cX12_next0 259 = .ok (.if_icmp .eq 27, 3) := by decide +kernel
theorem dX12_next0_262 : decode cX12_next0 262 = .ok (.iload_n 1, 1) := by decide +kernel
theorem dX12_next0_263 : decode cX12_next0 263 = .ok (.bipush 41, 2) := by decide +kernel
theorem dX12_next0_265 : decode cX12_next0 265 = .ok (.if_icmp .eq 21, 3) := by decide +kernel
theorem dX12_next0_268 : decode cX12_next0 268 = .ok (.iload_n 1, 1) := by decide +kernel
theorem dX12_next0_269 : decode cX12_next0 269 = .ok (.bipush 60, 2) := by decide +kernel
theorem dX12_next0_271 : decode cX12_next0 271 = .ok (.if_icmp .eq 15, 3) := by decide +kernel
theorem dX12_next0_274 : decode cX12_next0 274 = .ok (.iload_n 1, 1) := by decide +kernel
theorem dX12_next0_275 : decode cX12_next0 275 = .ok (.bipush 61, 2) := by decide +kernel
theorem dX12_next0_277 : decode cX12_next0 277 = .ok (.if_icmp .eq 9, 3) := by decide +kernel
theorem dX12_next0_280 : decode cX12_next0 280 = .ok (.iload_n 1, 1) := by decide +kernel
theorem dX12_next0_281 : decode cX12_next0 281 = .ok (.bipush 62, 2) := by decide +kernel
theorem dX12_next0_283 : decode cX12_next0 283 = .ok (.if_icmp .ne 7, 3) := by decide +kernel
theorem dX12_next0_286 : decode cX12_next0 286 = .ok (.iload_n 1, 1) := by decide +kernel
theorem dX12_next0_287 : decode cX12_next0 287 = .ok (.goto 4, 3) := by decide +kernel
theorem dX12_next0_290 : decode cX12_next0 290 = .ok (.iconst 1, 1) := by decide +kernel
theorem dX12_next0_291 : decode cX12_next0 291 = .ok (.putfield 197, 3) := by decide +kernel
theorem dX12_next0_294 : decode cX12_next0 294 = .ok (.return_, 1) := by decide +kernel
theorem dX12_bad_0 : decode cX12_bad 0 = .ok (.aload_n 0, 1) := by decide +kernel
theorem dX12_bad_1 : decode cX12_bad 1 = .ok (.iload_n 1, 1) := by decide +kernel
theorem dX12_bad_2 : decode cX12_bad 2 = .ok (.putfield 213, 3) := by decide +kernel
theorem dX12_bad_5 : decode cX12_bad 5 = .ok (.aload_n 0, 1) := by decide +kernel
theorem dX12_bad_6 : decode cX12_bad 6 = .ok (.aload_n 0, 1) := by decide +kernel
theorem dX12_bad_7 : decode cX12_bad 7 = .ok (.getfield 194, 3) := by decide +kernel
theorem dX12_bad_10 : decode cX12_bad 10 = .ok (.putfield 216, 3) := by decide +kernel
theorem dX12_bad_13 : decode cX12_bad 13 = .ok (.iconst 0, 1) := by decide +kernel
theorem dX12_bad_14 : decode cX12_bad 14 = .ok (.ireturn, 1) := by decide +kernel
theorem dX12_need_0 : decode cX12_need 0 = .ok (.aload_n 0, 1) := by decide +kernel
theorem dX12_need_1 : decode cX12_need 1 = .ok (.getfield 197, 3) := by decide +kernel
theorem dX12_need_4 : decode cX12_need 4 = .ok (.iload_n 1, 1) := by decide +kernel
theorem dX12_need_5 : decode cX12_need 5 = .ok (.if_icmp .eq 9, 3) := by decide +kernel
theorem dX12_need_8 : decode cX12_need 8 = .ok (.aload_n 0, 1) := by decide +kernel
theorem dX12_need_9 : decode cX12_need 9 = .ok (.iconst 1, 1) := by decide +kernel
theorem dX12_need_10 : decode cX12_need 10 = .ok (.invokevirtual 219, 3) := by decide +kernel
theorem dX12_need_13 : decode cX12_need 13 = .ok (.ireturn, 1) := by decide +kernel
theorem dX12_need_14 : decode cX12_need 14 = .ok (.aload_n 0, 1) := by decide +kernel
theorem dX12_need_15 : decode cX12_need 15 = .ok (.invokevirtual 222, 3) := by decide +kernel
theorem dX12_need_18 : decode cX12_need 18 = .ok (.iconst 1, 1) := by decide +kernel
theorem dX12_need_19 : decode cX12_need 19 = .ok (.ireturn, 1) := by decide +kernel
theorem dX12_lay_0 : decode cX12_lay 0 = .ok (.aload_n 0, 1) := by decide +kernel
theorem dX12_lay_1 : decode cX12_lay 1 = .ok (.getfield 70, 3) := by decide +kernel
theorem dX12_lay_4 : decode cX12_lay 4 = .ok (.aload_n 0, 1) := by decide +kernel
theorem dX12_lay_5 : decode cX12_lay 5 = .ok (.getfield 225, 3) := by decide +kernel
theorem dX12_lay_8 : decode cX12_lay 8 = .ok (.iload_n 1, 1) := by decide +kernel
theorem dX12_lay_9 : decode cX12_lay 9 = .ok (.iastore, 1) := by decide +kernel
theorem dX12_lay_10 : decode cX12_lay 10 = .ok (.aload_n 0, 1) := by decide +kernel
theorem dX12_lay_11 : decode cX12_lay 11 = .ok (.dup, 1) := by decide +kernel
theorem dX12_lay_12 : decode cX12_lay 12 = .ok (.getfield 225, 3) := by decide +kernel
theorem dX12_lay_15 : decode cX12_lay 15 = .ok (.iconst 1, 1) := by decide +kernel
theorem dX12_lay_16 : decode cX12_lay 16 = .ok (.iadd, 1) := by decide +kernel
theorem dX12_lay_17 : decode cX12_lay 17 = .ok (.putfield 225, 3) := by decide +kernel
theorem dX12_lay_20 : decode cX12_lay 20 = .ok (.return_, 1) := by decide +kernel
theorem dX12_opens_0 : decode cX12_opens 0 = .ok (.aload_n 0, 1) := by decide +kernel
theorem dX12_opens_1 : decode cX12_opens 1 = .ok (.getfield 228, 3) := by decide +kernel
theorem dX12_opens_4 : decode cX12_opens 4 = .ok (.bipush 8, 2) := by decide +kernel
theorem dX12_opens_6 : decode cX12_opens 6 = .ok (.if_icmp .ne 9, 3) := by decide +kernel
theorem dX12_opens_9 : decode cX12_opens 9 = .ok (.aload_n 0, 1) := by decide +kernel
theorem dX12_opens_10 : decode cX12_opens 10 = .ok (.iconst 2, 1) := by decide +kernel
theorem dX12_opens_11 : decode cX12_opens 11 = .ok (.invokevirtual 219, 3) := by decide +kernel
theorem dX12_opens_14 : decode cX12_opens 14 = .ok (.ireturn, 1) := by decide +kernel
theorem dX12_opens_15 : decode cX12_opens 15 = .ok (.aload_n 0, 1) := by decide +kernel
theorem dX12_opens_16 : decode cX12_opens 16 = .ok (.dup, 1) := by decide +kernel
theorem dX12_opens_17 : decode cX12_opens 17 = .ok (.getfield 228, 3) := by decide +kernel
theorem dX12_opens_20 : decode cX12_opens 20 = .ok (.iconst 1, 1) := by decide +kernel
theorem dX12_opens_21 : decode cX12_opens 21 = .ok (.iadd, 1) := by decide +kernel
theorem dX12_opens_22 : decode cX12_opens 22 = .ok (.putfield 228, 3) := by decide +kernel
theorem dX12_opens_25 : decode cX12_opens 25 = .ok (.aload_n 0, 1) := by decide +kernel
theorem dX12_opens_26 : decode cX12_opens 26 = .ok (.invokevirtual 222, 3) := by decide +kernel
theorem dX12_opens_29 : decode cX12_opens 29 = .ok (.iconst 1, 1) := by decide +kernel
theorem dX12_opens_30 : decode cX12_opens 30 = .ok (.ireturn, 1) := by decide +kernel
theorem dX12_any_0 : decode cX12_any 0 = .ok (.aload_n 0, 1) := by decide +kernel
theorem dX12_any_1 : decode cX12_any 1 = .ok (.invokevirtual 231, 3) := by decide +kernel
theorem dX12_any_4 : decode cX12_any 4 = .ok (.ifCond .ne 5, 3) := by decide +kernel
theorem dX12_any_7 : decode cX12_any 7 = .ok (.iconst 0, 1) := by decide +kernel
theorem dX12_any_8 : decode cX12_any 8 = .ok (.ireturn, 1) := by decide +kernel
theorem dX12_any_9 : decode cX12_any 9 = .ok (.aload_n 0, 1) := by decide +kernel
theorem dX12_any_10 : decode cX12_any 10 = .ok (.getfield 197, 3) := by decide +kernel
theorem dX12_any_13 : decode cX12_any 13 = .ok (.iconst 4, 1) := by decide +kernel
theorem dX12_any_14 : decode cX12_any 14 = .ok (.if_icmp .ne 26, 3) := by decide +kernel
theorem dX12_any_17 : decode cX12_any 17 = .ok (.aload_n 0, 1) := by decide +kernel
theorem dX12_any_18 : decode cX12_any 18 = .ok (.invokevirtual 222, 3) := by decide +kernel
theorem dX12_any_21 : decode cX12_any 21 = .ok (.aload_n 0, 1) := by decide +kernel
theorem dX12_any_22 : decode cX12_any 22 = .ok (.invokevirtual 231, 3) := by decide +kernel
theorem dX12_any_25 : decode cX12_any 25 = .ok (.ifCond .ne 5, 3) := by decide +kernel
theorem dX12_any_28 : decode cX12_any 28 = .ok (.iconst 0, 1) := by decide +kernel
theorem dX12_any_29 : decode cX12_any 29 = .ok (.ireturn, 1) := by decide +kernel
theorem dX12_any_30 : decode cX12_any 30 = .ok (.aload_n 0, 1) := by decide +kernel
theorem dX12_any_31 : decode cX12_any 31 = .ok (.sipush 20005, 3) := by decide +kernel
theorem dX12_any_34 : decode cX12_any 34 = .ok (.invokevirtual 235, 3) := by decide +kernel
theorem dX12_any_37 : decode cX12_any 37 = .ok (.goto (-28), 3) := by decide +kernel
theorem dX12_any_40 : decode cX12_any 40 = .ok (.iconst 1, 1) := by decide +kernel
theorem dX12_any_41 : decode cX12_any 41 = .ok (.ireturn, 1) := by decide +kernel
theorem dX12_all_0 : decode cX12_all 0 = .ok (.aload_n 0, 1) := by decide +kernel
theorem dX12_all_1 : decode cX12_all 1 = .ok (.invokevirtual 239, 3) := by decide +kernel
theorem dX12_all_4 : decode cX12_all 4 = .ok (.ifCond .ne 5, 3) := by decide +kernel
theorem dX12_all_7 : decode cX12_all 7 = .ok (.iconst 0, 1) := by decide +kernel
theorem dX12_all_8 : decode cX12_all 8 = .ok (.ireturn, 1) := by decide +kernel
theorem dX12_all_9 : decode cX12_all 9 = .ok (.aload_n 0, 1) := by decide +kernel
theorem dX12_all_10 : decode cX12_all 10 = .ok (.getfield 197, 3) := by decide +kernel
theorem dX12_all_13 : decode cX12_all 13 = .ok (.iconst 5, 1) := by decide +kernel
theorem dX12_all_14 : decode cX12_all 14 = .ok (.if_icmp .ne 26, 3) := by decide +kernel
theorem dX12_all_17 : decode cX12_all 17 = .ok (.aload_n 0, 1) := by decide +kernel
theorem dX12_all_18 : decode cX12_all 18 = .ok (.invokevirtual 222, 3) := by decide +kernel
theorem dX12_all_21 : decode cX12_all 21 = .ok (.aload_n 0, 1) := by decide +kernel
theorem dX12_all_22 : decode cX12_all 22 = .ok (.invokevirtual 239, 3) := by decide +kernel
theorem dX12_all_25 : decode cX12_all 25 = .ok (.ifCond .ne 5, 3) := by decide +kernel
theorem dX12_all_28 : decode cX12_all 28 = .ok (.iconst 0, 1) := by decide +kernel
theorem dX12_all_29 : decode cX12_all 29 = .ok (.ireturn, 1) := by decide +kernel
theorem dX12_all_30 : decode cX12_all 30 = .ok (.aload_n 0, 1) := by decide +kernel
theorem dX12_all_31 : decode cX12_all 31 = .ok (.sipush 20004, 3) := by decide +kernel
theorem dX12_all_34 : decode cX12_all 34 = .ok (.invokevirtual 235, 3) := by decide +kernel
theorem dX12_all_37 : decode cX12_all 37 = .ok (.goto (-28), 3) := by decide +kernel
theorem dX12_all_40 : decode cX12_all 40 = .ok (.iconst 1, 1) := by decide +kernel
theorem dX12_all_41 : decode cX12_all 41 = .ok (.ireturn, 1) := by decide +kernel
theorem dX12_one_0 : decode cX12_one 0 = .ok (.aload_n 0, 1) := by decide +kernel
theorem dX12_one_1 : decode cX12_one 1 = .ok (.getfield 197, 3) := by decide +kernel
theorem dX12_one_4 : decode cX12_one 4 = .ok (.bipush 6, 2) := by decide +kernel
theorem dX12_one_6 : decode cX12_one 6 = .ok (.if_icmp .ne 38, 3) := by decide +kernel
theorem dX12_one_9 : decode cX12_one 9 = .ok (.aload_n 0, 1) := by decide +kernel
theorem dX12_one_10 : decode cX12_one 10 = .ok (.invokevirtual 242, 3) := by decide +kernel
theorem dX12_one_13 : decode cX12_one 13 = .ok (.ifCond .eq 10, 3) := by decide +kernel
theorem dX12_one_16 : decode cX12_one 16 = .ok (.aload_n 0, 1) := by decide +kernel
theorem dX12_one_17 : decode cX12_one 17 = .ok (.invokevirtual 239, 3) := by decide +kernel
theorem dX12_one_20 : decode cX12_one 20 = .ok (.ifCond .ne 5, 3) := by decide +kernel
theorem dX12_one_23 : decode cX12_one 23 = .ok (.iconst 0, 1) := by decide +kernel
theorem dX12_one_24 : decode cX12_one 24 = .ok (.ireturn, 1) := by decide +kernel
theorem dX12_one_25 : decode cX12_one 25 = .ok (.aload_n 0, 1) := by decide +kernel
theorem dX12_one_26 : decode cX12_one 26 = .ok (.dup, 1) := by decide +kernel
theorem dX12_one_27 : decode cX12_one 27 = .ok (.getfield 228, 3) := by decide +kernel
theorem dX12_one_30 : decode cX12_one 30 = .ok (.iconst 1, 1) := by decide +kernel
theorem dX12_one_31 : decode cX12_one 31 = .ok (.isub, 1) := by decide +kernel
theorem dX12_one_32 : decode cX12_one 32 = .ok (.putfield 228, 3) := by decide +kernel
theorem dX12_one_35 : decode cX12_one 35 = .ok (.aload_n 0, 1) := by decide +kernel
theorem dX12_one_36 : decode cX12_one 36 = .ok (.sipush 20003, 3) := by decide +kernel
theorem dX12_one_39 : decode cX12_one 39 = .ok (.invokevirtual 235, 3) := by decide +kernel
theorem dX12_one_42 : decode cX12_one 42 = .ok (.iconst 1, 1) := by decide +kernel
theorem dX12_one_43 : decode cX12_one 43 = .ok (.ireturn, 1) := by decide +kernel
theorem dX12_one_44 : decode cX12_one 44 = .ok (.aload_n 0, 1) := by decide +kernel
theorem dX12_one_45 : decode cX12_one 45 = .ok (.getfield 197, 3) := by decide +kernel
theorem dX12_one_48 : decode cX12_one 48 = .ok (.bipush 40, 2) := by decide +kernel
theorem dX12_one_50 : decode cX12_one 50 = .ok (.if_icmp .ne 40, 3) := by decide +kernel
theorem dX12_one_53 : decode cX12_one 53 = .ok (.aload_n 0, 1) := by decide +kernel
theorem dX12_one_54 : decode cX12_one 54 = .ok (.invokevirtual 242, 3) := by decide +kernel
theorem dX12_one_57 : decode cX12_one 57 = .ok (.ifCond .eq 19, 3) := by decide +kernel
theorem dX12_one_60 : decode cX12_one 60 = .ok (.aload_n 0, 1) := by decide +kernel
theorem dX12_one_61 : decode cX12_one 61 = .ok (.invokevirtual 245, 3) := by decide +kernel
theorem dX12_one_64 : decode cX12_one 64 = .ok (.ifCond .eq 12, 3) := by decide +kernel
theorem dX12_one_67 : decode cX12_one 67 = .ok (.aload_n 0, 1) := by decide +kernel
theorem dX12_one_68 : decode cX12_one 68 = .ok (.bipush 41, 2) := by decide +kernel
theorem dX12_one_70 : decode cX12_one 70 = .ok (.invokevirtual 248, 3) := by decide +kernel
theorem dX12_one_73 : decode cX12_one 73 = .ok (.ifCond .ne 5, 3) := by decide +kernel
theorem dX12_one_76 : decode cX12_one 76 = .ok (.iconst 0, 1) := by decide +kernel
theorem dX12_one_77 : decode cX12_one 77 = .ok (.ireturn, 1) := by decide +kernel
theorem dX12_one_78 : decode cX12_one 78 = .ok (.aload_n 0, 1) := by decide +kernel
theorem dX12_one_79 : decode cX12_one 79 = .ok (.dup, 1) := by decide +kernel
theorem dX12_one_80 : decode cX12_one 80 = .ok (.getfield 228, 3) := by decide +kernel
theorem dX12_one_83 : decode cX12_one 83 = .ok (.iconst 1, 1) := by decide +kernel
theorem dX12_one_84 : decode cX12_one 84 = .ok (.isub, 1) := by decide +kernel
theorem dX12_one_85 : decode cX12_one 85 = .ok (.putfield 228, 3) := by decide +kernel
theorem dX12_one_88 : decode cX12_one 88 = .ok (.iconst 1, 1) := by decide +kernel
theorem dX12_one_89 : decode cX12_one 89 = .ok (.ireturn, 1) := by decide +kernel
theorem dX12_one_90 : decode cX12_one 90 = .ok (.aload_n 0, 1) := by decide +kernel
theorem dX12_one_91 : decode cX12_one 91 = .ok (.invokevirtual 251, 3) := by decide +kernel
theorem dX12_one_94 : decode cX12_one 94 = .ok (.ifCond .ne 5, 3) := by decide +kernel
theorem dX12_one_97 : decode cX12_one 97 = .ok (.iconst 0, 1) := by decide +kernel
theorem dX12_one_98 : decode cX12_one 98 = .ok (.ireturn, 1) := by decide +kernel
theorem dX12_one_99 : decode cX12_one 99 = .ok (.aload_n 0, 1) := by decide +kernel
theorem dX12_one_100 : decode cX12_one 100 = .ok (.getfield 197, 3) := by decide +kernel
theorem dX12_one_103 : decode cX12_one 103 = .ok (.bipush 60, 2) := by decide +kernel
theorem dX12_one_105 : decode cX12_one 105 = .ok (.if_icmp .ne 9, 3) := by decide +kernel
theorem dX12_one_108 : decode cX12_one 108 = .ok (.sipush 20000, 3) := by decide +kernel
theorem dX12_one_111 : decode cX12_one 111 = .ok (.goto 34, 3) := by decide +kernel
theorem dX12_one_114 : decode cX12_one 114 = .ok (.aload_n 0, 1) := by decide +kernel
theorem dX12_one_115 : decode cX12_one 115 = .ok (.getfield 197, 3) := by decide +kernel
theorem dX12_one_118 : decode cX12_one 118 = .ok (.bipush 61, 2) := by decide +kernel
theorem dX12_one_120 : decode cX12_one 120 = .ok (.if_icmp .ne 9, 3) := by decide +kernel
theorem dX12_one_123 : decode cX12_one 123 = .ok (.sipush 20001, 3) := by decide +kernel
theorem dX12_one_126 : decode cX12_one 126 = .ok (.goto 19, 3) := by decide +kernel
theorem dX12_one_129 : decode cX12_one 129 = .ok (.aload_n 0, 1) := by decide +kernel
theorem dX12_one_130 : decode cX12_one 130 = .ok (.getfield 197, 3) := by decide +kernel
theorem dX12_one_133 : decode cX12_one 133 = .ok (.bipush 62, 2) := by decide +kernel
theorem dX12_one_135 : decode cX12_one 135 = .ok (.if_icmp .ne 9, 3) := by decide +kernel
theorem dX12_one_138 : decode cX12_one 138 = .ok (.sipush 20002, 3) := by decide +kernel
theorem dX12_one_141 : decode cX12_one 141 = .ok (.goto 4, 3) := by decide +kernel
theorem dX12_one_144 : decode cX12_one 144 = .ok (.iconst (-1), 1) := by decide +kernel
theorem dX12_one_145 : decode cX12_one 145 = .ok (.istore_n 1, 1) := by decide +kernel
theorem dX12_one_146 : decode cX12_one 146 = .ok (.iload_n 1, 1) := by decide +kernel
theorem dX12_one_147 : decode cX12_one 147 = .ok (.iconst (-1), 1) := by decide +kernel
theorem dX12_one_148 : decode cX12_one 148 = .ok (.if_icmp .ne 9, 3) := by decide +kernel
theorem dX12_one_151 : decode cX12_one 151 = .ok (.aload_n 0, 1) := by decide +kernel
theorem dX12_one_152 : decode cX12_one 152 = .ok (.iconst 1, 1) := by decide +kernel
theorem dX12_one_153 : decode cX12_one 153 = .ok (.invokevirtual 219, 3) := by decide +kernel
theorem dX12_one_156 : decode cX12_one 156 = .ok (.ireturn, 1) := by decide +kernel
theorem dX12_one_157 : decode cX12_one 157 = .ok (.aload_n 0, 1) := by decide +kernel
theorem dX12_one_158 : decode cX12_one 158 = .ok (.invokevirtual 222, 3) := by decide +kernel
theorem dX12_one_161 : decode cX12_one 161 = .ok (.aload_n 0, 1) := by decide +kernel
theorem dX12_one_162 : decode cX12_one 162 = .ok (.invokevirtual 251, 3) := by decide +kernel
theorem dX12_one_165 : decode cX12_one 165 = .ok (.ifCond .ne 5, 3) := by decide +kernel
theorem dX12_one_168 : decode cX12_one 168 = .ok (.iconst 0, 1) := by decide +kernel
theorem dX12_one_169 : decode cX12_one 169 = .ok (.ireturn, 1) := by decide +kernel
theorem dX12_one_170 : decode cX12_one 170 = .ok (.aload_n 0, 1) := by decide +kernel
theorem dX12_one_171 : decode cX12_one 171 = .ok (.iload_n 1, 1) := by decide +kernel
theorem dX12_one_172 : decode cX12_one 172 = .ok (.invokevirtual 235, 3) := by decide +kernel
theorem dX12_one_175 : decode cX12_one 175 = .ok (.iconst 1, 1) := by decide +kernel
theorem dX12_one_176 : decode cX12_one 176 = .ok (.ireturn, 1) := by decide +kernel
theorem dX12_term_0 : decode cX12_term 0 = .ok (.aload_n 0, 1) := by decide +kernel
theorem dX12_term_1 : decode cX12_term 1 = .ok (.getfield 197, 3) := by decide +kernel
theorem dX12_term_4 : decode cX12_term 4 = .ok (.istore_n 1, 1) := by decide +kernel
theorem dX12_term_5 : decode cX12_term 5 = .ok (.iload_n 1, 1) := by decide +kernel
theorem dX12_term_6 : decode cX12_term 6 = .ok (.iconst 2, 1) := by decide +kernel
theorem dX12_term_7 : decode cX12_term 7 = .ok (.if_icmp .ne 14, 3) := by decide +kernel
theorem dX12_term_10 : decode cX12_term 10 = .ok (.aload_n 0, 1) := by decide +kernel
theorem dX12_term_11 : decode cX12_term 11 = .ok (.aload_n 0, 1) := by decide +kernel
theorem dX12_term_12 : decode cX12_term 12 = .ok (.getfield 210, 3) := by decide +kernel
theorem dX12_term_15 : decode cX12_term 15 = .ok (.invokevirtual 235, 3) := by decide +kernel
theorem dX12_term_18 : decode cX12_term 18 = .ok (.goto 48, 3) := by decide +kernel
theorem dX12_term_21 : decode cX12_term 21 = .ok (.iload_n 1, 1) := by decide +kernel
theorem dX12_term_22 : decode cX12_term 22 = .ok (.bipush 7, 2) := by decide +kernel
theorem dX12_term_24 : decode cX12_term 24 = .ok (.if_icmp .ne 13, 3) := by decide +kernel
theorem dX12_term_27 : decode cX12_term 27 = .ok (.aload_n 0, 1) := by decide +kernel
theorem dX12_term_28 : decode cX12_term 28 = .ok (.sipush 10001, 3) := by decide +kernel
theorem dX12_term_31 : decode cX12_term 31 = .ok (.invokevirtual 235, 3) := by decide +kernel
theorem dX12_term_34 : decode cX12_term 34 = .ok (.goto 32, 3) := by decide +kernel
theorem dX12_term_37 : decode cX12_term 37 = .ok (.iload_n 1, 1) := by decide +kernel
theorem dX12_term_38 : decode cX12_term 38 = .ok (.bipush 8, 2) := by decide +kernel
theorem dX12_term_40 : decode cX12_term 40 = .ok (.if_icmp .ne 13, 3) := by decide +kernel
theorem dX12_term_43 : decode cX12_term 43 = .ok (.aload_n 0, 1) := by decide +kernel
theorem dX12_term_44 : decode cX12_term 44 = .ok (.sipush 10002, 3) := by decide +kernel
theorem dX12_term_47 : decode cX12_term 47 = .ok (.invokevirtual 235, 3) := by decide +kernel
theorem dX12_term_50 : decode cX12_term 50 = .ok (.goto 16, 3) := by decide +kernel
theorem dX12_term_53 : decode cX12_term 53 = .ok (.iload_n 1, 1) := by decide +kernel
theorem dX12_term_54 : decode cX12_term 54 = .ok (.sipush 400, 3) := by decide +kernel
theorem dX12_term_57 : decode cX12_term 57 = .ok (.if_icmp .ge 9, 3) := by decide +kernel
theorem dX12_term_60 : decode cX12_term 60 = .ok (.aload_n 0, 1) := by decide +kernel
theorem dX12_term_61 : decode cX12_term 61 = .ok (.iconst 1, 1) := by decide +kernel
theorem dX12_term_62 : decode cX12_term 62 = .ok (.invokevirtual 219, 3) := by decide +kernel
theorem dX12_term_65 : decode cX12_term 65 = .ok (.ireturn, 1) := by decide +kernel
theorem dX12_term_66 : decode cX12_term 66 = .ok (.aload_n 0, 1) := by decide +kernel
theorem dX12_term_67 : decode cX12_term 67 = .ok (.invokevirtual 222, 3) := by decide +kernel
theorem dX12_term_70 : decode cX12_term 70 = .ok (.iload_n 1, 1) := by decide +kernel
theorem dX12_term_71 : decode cX12_term 71 = .ok (.sipush 400, 3) := by decide +kernel
theorem dX12_term_74 : decode cX12_term 74 = .ok (.if_icmp .ge 5, 3) := by decide +kernel
theorem dX12_term_77 : decode cX12_term 77 = .ok (.iconst 1, 1) := by decide +kernel
theorem dX12_term_78 : decode cX12_term 78 = .ok (.ireturn, 1) := by decide +kernel
theorem dX12_term_79 : decode cX12_term 79 = .ok (.aload_n 0, 1) := by decide +kernel
theorem dX12_term_80 : decode cX12_term 80 = .ok (.getfield 197, 3) := by decide +kernel
theorem dX12_term_83 : decode cX12_term 83 = .ok (.sipush 300, 3) := by decide +kernel
theorem dX12_term_86 : decode cX12_term 86 = .ok (.sipush 304, 3) := by decide +kernel
theorem dX12_term_89 : decode cX12_term 89 = .ok (.invokestatic 86, 3) := by decide +kernel
theorem dX12_term_92 : decode cX12_term 92 = .ok (.ifCond .ne 9, 3) := by decide +kernel
theorem dX12_term_95 : decode cX12_term 95 = .ok (.aload_n 0, 1) := by decide +kernel
theorem dX12_term_96 : decode cX12_term 96 = .ok (.iconst 1, 1) := by decide +kernel
theorem dX12_term_97 : decode cX12_term 97 = .ok (.invokevirtual 219, 3) := by decide +kernel
theorem dX12_term_100 : decode cX12_term 100 = .ok (.ireturn, 1) := by decide +kernel
theorem dX12_term_101 : decode cX12_term 101 = .ok (.aload_n 0, 1) := by decide +kernel
theorem dX12_term_102 : decode cX12_term 102 = .ok (.sipush 10000, 3) := by decide +kernel
theorem dX12_term_105 : decode cX12_term 105 = .ok (.iload_n 1, 1) := by decide +kernel
theorem dX12_term_106 : decode cX12_term 106 = .ok (.iadd, 1) := by decide +kernel
theorem dX12_term_107 : decode cX12_term 107 = .ok (.sipush 400, 3) := by decide +kernel
theorem dX12_term_110 : decode cX12_term 110 = .ok (.isub, 1) := by decide +kernel
theorem dX12_term_111 : decode cX12_term 111 = .ok (.aload_n 0, 1) := by decide +kernel
theorem dX12_term_112 : decode cX12_term 112 = .ok (.getfield 197, 3) := by decide +kernel
theorem dX12_term_115 : decode cX12_term 115 = .ok (.iadd, 1) := by decide +kernel
theorem dX12_term_116 : decode cX12_term 116 = .ok (.sipush 300, 3) := by decide +kernel
theorem dX12_term_119 : decode cX12_term 119 = .ok (.isub, 1) := by decide +kernel
theorem dX12_term_120 : decode cX12_term 120 = .ok (.invokevirtual 235, 3) := by decide +kernel
theorem dX12_term_123 : decode cX12_term 123 = .ok (.aload_n 0, 1) := by decide +kernel
theorem dX12_term_124 : decode cX12_term 124 = .ok (.invokevirtual 222, 3) := by decide +kernel
theorem dX12_term_127 : decode cX12_term 127 = .ok (.iconst 1, 1) := by decide +kernel
theorem dX12_term_128 : decode cX12_term 128 = .ok (.ireturn, 1) := by decide +kernel
theorem dX12_aRule_0 : decode cX12_aRule 0 = .ok (.aload_n 0, 1) := by decide +kernel
theorem dX12_aRule_1 : decode cX12_aRule 1 = .ok (.getfield 197, 3) := by decide +kernel
theorem dX12_aRule_4 : decode cX12_aRule 4 = .ok (.iconst 3, 1) := by decide +kernel
theorem dX12_aRule_5 : decode cX12_aRule 5 = .ok (.if_icmp .eq 9, 3) := by decide +kernel
theorem dX12_aRule_8 : decode cX12_aRule 8 = .ok (.aload_n 0, 1) := by decide +kernel
theorem dX12_aRule_9 : decode cX12_aRule 9 = .ok (.iconst 1, 1) := by decide +kernel
theorem dX12_aRule_10 : decode cX12_aRule 10 = .ok (.invokevirtual 219, 3) := by decide +kernel
theorem dX12_aRule_13 : decode cX12_aRule 13 = .ok (.ireturn, 1) := by decide +kernel
theorem dX12_aRule_14 : decode cX12_aRule 14 = .ok (.aload_n 0, 1) := by decide +kernel
theorem dX12_aRule_15 : decode cX12_aRule 15 = .ok (.getfield 254, 3) := by decide +kernel
theorem dX12_aRule_18 : decode cX12_aRule 18 = .ok (.bipush 12, 2) := by decide +kernel
theorem dX12_aRule_20 : decode cX12_aRule 20 = .ok (.if_icmp .ne 9, 3) := by decide +kernel
theorem dX12_aRule_23 : decode cX12_aRule 23 = .ok (.aload_n 0, 1) := by decide +kernel
theorem dX12_aRule_24 : decode cX12_aRule 24 = .ok (.iconst 2, 1) := by decide +kernel
theorem dX12_aRule_25 : decode cX12_aRule 25 = .ok (.invokevirtual 219, 3) := by decide +kernel
theorem dX12_aRule_28 : decode cX12_aRule 28 = .ok (.ireturn, 1) := by decide +kernel
theorem dX12_aRule_29 : decode cX12_aRule 29 = .ok (.aload_n 0, 1) := by decide +kernel
theorem dX12_aRule_30 : decode cX12_aRule 30 = .ok (.invokevirtual 222, 3) := by decide +kernel
theorem dX12_aRule_33 : decode cX12_aRule 33 = .ok (.aload_n 0, 1) := by decide +kernel
theorem dX12_aRule_34 : decode cX12_aRule 34 = .ok (.getfield 67, 3) := by decide +kernel
theorem dX12_aRule_37 : decode cX12_aRule 37 = .ok (.aload_n 0, 1) := by decide +kernel
theorem dX12_aRule_38 : decode cX12_aRule 38 = .ok (.getfield 254, 3) := by decide +kernel
theorem dX12_aRule_41 : decode cX12_aRule 41 = .ok (.aload_n 0, 1) := by decide +kernel
theorem dX12_aRule_42 : decode cX12_aRule 42 = .ok (.getfield 225, 3) := by decide +kernel
theorem dX12_aRule_45 : decode cX12_aRule 45 = .ok (.iastore, 1) := by decide +kernel
theorem dX12_aRule_46 : decode cX12_aRule 46 = .ok (.aload_n 0, 1) := by decide +kernel
theorem dX12_aRule_47 : decode cX12_aRule 47 = .ok (.dup, 1) := by decide +kernel
theorem dX12_aRule_48 : decode cX12_aRule 48 = .ok (.getfield 254, 3) := by decide +kernel
theorem dX12_aRule_51 : decode cX12_aRule 51 = .ok (.iconst 1, 1) := by decide +kernel
theorem dX12_aRule_52 : decode cX12_aRule 52 = .ok (.iadd, 1) := by decide +kernel
theorem dX12_aRule_53 : decode cX12_aRule 53 = .ok (.putfield 254, 3) := by decide +kernel
theorem dX12_aRule_56 : decode cX12_aRule 56 = .ok (.aload_n 0, 1) := by decide +kernel
theorem dX12_aRule_57 : decode cX12_aRule 57 = .ok (.iconst 0, 1) := by decide +kernel
theorem dX12_aRule_58 : decode cX12_aRule 58 = .ok (.putfield 228, 3) := by decide +kernel
theorem dX12_aRule_61 : decode cX12_aRule 61 = .ok (.aload_n 0, 1) := by decide +kernel
theorem dX12_aRule_62 : decode cX12_aRule 62 = .ok (.invokevirtual 245, 3) := by decide +kernel
theorem dX12_aRule_65 : decode cX12_aRule 65 = .ok (.ifCond .eq 16, 3) := by decide +kernel
theorem dX12_aRule_68 : decode cX12_aRule 68 = .ok (.aload_n 0, 1) := by decide +kernel
theorem dX12_aRule_69 : decode cX12_aRule 69 = .ok (.bipush 59, 2) := by decide +kernel
theorem dX12_aRule_71 : decode cX12_aRule 71 = .ok (.invokevirtual 248, 3) := by decide +kernel
theorem dX12_aRule_74 : decode cX12_aRule 74 = .ok (.ifCond .eq 7, 3) := by decide +kernel
theorem dX12_aRule_77 : decode cX12_aRule 77 = .ok (.iconst 1, 1) := by decide +kernel
theorem dX12_aRule_78 : decode cX12_aRule 78 = .ok (.goto 4, 3) := by decide +kernel
theorem dX12_aRule_81 : decode cX12_aRule 81 = .ok (.iconst 0, 1) := by decide +kernel
theorem dX12_aRule_82 : decode cX12_aRule 82 = .ok (.ireturn, 1) := by decide +kernel
theorem dX12_rules_0 : decode cX12_rules 0 = .ok (.aload_n 0, 1) := by decide +kernel
theorem dX12_rules_1 : decode cX12_rules 1 = .ok (.iconst 0, 1) := by decide +kernel
theorem dX12_rules_2 : decode cX12_rules 2 = .ok (.putfield 213, 3) := by decide +kernel
theorem dX12_rules_5 : decode cX12_rules 5 = .ok (.aload_n 0, 1) := by decide +kernel
theorem dX12_rules_6 : decode cX12_rules 6 = .ok (.iconst 0, 1) := by decide +kernel
theorem dX12_rules_7 : decode cX12_rules 7 = .ok (.putfield 188, 3) := by decide +kernel
theorem dX12_rules_10 : decode cX12_rules 10 = .ok (.aload_n 0, 1) := by decide +kernel
theorem dX12_rules_11 : decode cX12_rules 11 = .ok (.iconst 0, 1) := by decide +kernel
theorem dX12_rules_12 : decode cX12_rules 12 = .ok (.putfield 254, 3) := by decide +kernel
theorem dX12_rules_15 : decode cX12_rules 15 = .ok (.aload_n 0, 1) := by decide +kernel
theorem dX12_rules_16 : decode cX12_rules 16 = .ok (.iconst 0, 1) := by decide +kernel
theorem dX12_rules_17 : decode cX12_rules 17 = .ok (.putfield 225, 3) := by decide +kernel
theorem dX12_rules_20 : decode cX12_rules 20 = .ok (.aload_n 0, 1) := by decide +kernel
theorem dX12_rules_21 : decode cX12_rules 21 = .ok (.invokevirtual 222, 3) := by decide +kernel
theorem dX12_rules_24 : decode cX12_rules 24 = .ok (.iconst 1, 1) := by decide +kernel
theorem dX12_rules_25 : decode cX12_rules 25 = .ok (.istore_n 1, 1) := by decide +kernel
theorem dX12_rules_26 : decode cX12_rules 26 = .ok (.iload_n 1, 1) := by decide +kernel
theorem dX12_rules_27 : decode cX12_rules 27 = .ok (.ifCond .eq 18, 3) := by decide +kernel
theorem dX12_rules_30 : decode cX12_rules 30 = .ok (.aload_n 0, 1) := by decide +kernel
theorem dX12_rules_31 : decode cX12_rules 31 = .ok (.getfield 197, 3) := by decide +kernel
theorem dX12_rules_34 : decode cX12_rules 34 = .ok (.ifCond .eq 11, 3) := by decide +kernel
theorem dX12_rules_37 : decode cX12_rules 37 = .ok (.aload_n 0, 1) := by decide +kernel
theorem dX12_rules_38 : decode cX12_rules 38 = .ok (.invokevirtual 257, 3) := by decide +kernel
theorem dX12_rules_41 : decode cX12_rules 41 = .ok (.istore_n 1, 1) := by decide +kernel
theorem dX12_rules_42 : decode cX12_rules 42 = .ok (.goto (-16), 3) := by decide +kernel
theorem dX12_rules_45 : decode cX12_rules 45 = .ok (.aload_n 0, 1) := by decide +kernel
theorem dX12_rules_46 : decode cX12_rules 46 = .ok (.iconst 0, 1) := by decide +kernel
theorem dX12_rules_47 : decode cX12_rules 47 = .ok (.putfield 155, 3) := by decide +kernel
theorem dX12_rules_50 : decode cX12_rules 50 = .ok (.aload_n 0, 1) := by decide +kernel
theorem dX12_rules_51 : decode cX12_rules 51 = .ok (.aload_n 0, 1) := by decide +kernel
theorem dX12_rules_52 : decode cX12_rules 52 = .ok (.getfield 213, 3) := by decide +kernel
theorem dX12_rules_55 : decode cX12_rules 55 = .ok (.putfield 260, 3) := by decide +kernel
theorem dX12_rules_58 : decode cX12_rules 58 = .ok (.aload_n 0, 1) := by decide +kernel
theorem dX12_rules_59 : decode cX12_rules 59 = .ok (.iload_n 1, 1) := by decide +kernel
theorem dX12_rules_60 : decode cX12_rules 60 = .ok (.ifCond .eq 7, 3) := by decide +kernel
theorem dX12_rules_63 : decode cX12_rules 63 = .ok (.iconst (-1), 1) := by decide +kernel
theorem dX12_rules_64 : decode cX12_rules 64 = .ok (.goto 7, 3) := by decide +kernel
theorem dX12_rules_67 : decode cX12_rules 67 = .ok (.aload_n 0, 1) := by decide +kernel
theorem dX12_rules_68 : decode cX12_rules 68 = .ok (.getfield 216, 3) := by decide +kernel
theorem dX12_rules_71 : decode cX12_rules 71 = .ok (.putfield 79, 3) := by decide +kernel
theorem dX12_rules_74 : decode cX12_rules 74 = .ok (.iload_n 1, 1) := by decide +kernel
theorem dX12_rules_75 : decode cX12_rules 75 = .ok (.ifCond .ne 5, 3) := by decide +kernel
theorem dX12_rules_78 : decode cX12_rules 78 = .ok (.iconst (-1), 1) := by decide +kernel
theorem dX12_rules_79 : decode cX12_rules 79 = .ok (.ireturn, 1) := by decide +kernel
theorem dX12_rules_80 : decode cX12_rules 80 = .ok (.aload_n 0, 1) := by decide +kernel
theorem dX12_rules_81 : decode cX12_rules 81 = .ok (.aload_n 0, 1) := by decide +kernel
theorem dX12_rules_82 : decode cX12_rules 82 = .ok (.getfield 254, 3) := by decide +kernel
theorem dX12_rules_85 : decode cX12_rules 85 = .ok (.putfield 133, 3) := by decide +kernel
theorem dX12_rules_88 : decode cX12_rules 88 = .ok (.iconst 0, 1) := by decide +kernel
theorem dX12_rules_89 : decode cX12_rules 89 = .ok (.istore_n 2, 1) := by decide +kernel
theorem dX12_rules_90 : decode cX12_rules 90 = .ok (.iload_n 2, 1) := by decide +kernel
theorem dX12_rules_91 : decode cX12_rules 91 = .ok (.aload_n 0, 1) := by decide +kernel
theorem dX12_rules_92 : decode cX12_rules 92 = .ok (.getfield 133, 3) := by decide +kernel
theorem dX12_rules_95 : decode cX12_rules 95 = .ok (.if_icmp .ge 21, 3) := by decide +kernel
theorem dX12_rules_98 : decode cX12_rules 98 = .ok (.aload_n 0, 1) := by decide +kernel
theorem dX12_rules_99 : decode cX12_rules 99 = .ok (.getfield 61, 3) := by decide +kernel
theorem dX12_rules_102 : decode cX12_rules 102 = .ok (.iload_n 2, 1) := by decide +kernel
theorem dX12_rules_103 : decode cX12_rules 103 = .ok (.aload_n 0, 1) := by decide +kernel
theorem dX12_rules_104 : decode cX12_rules 104 = .ok (.getfield 67, 3) := by decide +kernel
theorem dX12_rules_107 : decode cX12_rules 107 = .ok (.iload_n 2, 1) := by decide +kernel
theorem dX12_rules_108 : decode cX12_rules 108 = .ok (.iaload, 1) := by decide +kernel
theorem dX12_rules_109 : decode cX12_rules 109 = .ok (.iastore, 1) := by decide +kernel
theorem dX12_rules_110 : decode cX12_rules 110 = .ok (.iinc 2 1, 3) := by decide +kernel
theorem dX12_rules_113 : decode cX12_rules 113 = .ok (.goto (-23), 3) := by decide +kernel
theorem dX12_rules_116 : decode cX12_rules 116 = .ok (.aload_n 0, 1) := by decide +kernel
theorem dX12_rules_117 : decode cX12_rules 117 = .ok (.getfield 61, 3) := by decide +kernel
theorem dX12_rules_120 : decode cX12_rules 120 = .ok (.aload_n 0, 1) := by decide +kernel
theorem dX12_rules_121 : decode cX12_rules 121 = .ok (.getfield 133, 3) := by decide +kernel
theorem dX12_rules_124 : decode cX12_rules 124 = .ok (.aload_n 0, 1) := by decide +kernel
theorem dX12_rules_125 : decode cX12_rules 125 = .ok (.getfield 225, 3) := by decide +kernel
theorem dX12_rules_128 : decode cX12_rules 128 = .ok (.iastore, 1) := by decide +kernel
theorem dX12_rules_129 : decode cX12_rules 129 = .ok (.iconst 0, 1) := by decide +kernel
theorem dX12_rules_130 : decode cX12_rules 130 = .ok (.istore_n 2, 1) := by decide +kernel
theorem dX12_rules_131 : decode cX12_rules 131 = .ok (.iload_n 2, 1) := by decide +kernel
theorem dX12_rules_132 : decode cX12_rules 132 = .ok (.aload_n 0, 1) := by decide +kernel
theorem dX12_rules_133 : decode cX12_rules 133 = .ok (.getfield 225, 3) := by decide +kernel
theorem dX12_rules_136 : decode cX12_rules 136 = .ok (.if_icmp .ge 21, 3) := by decide +kernel
theorem dX12_rules_139 : decode cX12_rules 139 = .ok (.aload_n 0, 1) := by decide +kernel
theorem dX12_rules_140 : decode cX12_rules 140 = .ok (.getfield 64, 3) := by decide +kernel
theorem dX12_rules_143 : decode cX12_rules 143 = .ok (.iload_n 2, 1) := by decide +kernel
theorem dX12_rules_144 : decode cX12_rules 144 = .ok (.aload_n 0, 1) := by decide +kernel
theorem dX12_rules_145 : decode cX12_rules 145 = .ok (.getfield 70, 3) := by decide +kernel
theorem dX12_rules_148 : decode cX12_rules 148 = .ok (.iload_n 2, 1) := by decide +kernel
theorem dX12_rules_149 : decode cX12_rules 149 = .ok (.iaload, 1) := by decide +kernel
theorem dX12_rules_150 : decode cX12_rules 150 = .ok (.iastore, 1) := by decide +kernel
theorem dX12_rules_151 : decode cX12_rules 151 = .ok (.iinc 2 1, 3) := by decide +kernel
theorem dX12_rules_154 : decode cX12_rules 154 = .ok (.goto (-23), 3) := by decide +kernel
theorem dX12_rules_157 : decode cX12_rules 157 = .ok (.aload_n 0, 1) := by decide +kernel
theorem dX12_rules_158 : decode cX12_rules 158 = .ok (.getfield 133, 3) := by decide +kernel
theorem dX12_rules_161 : decode cX12_rules 161 = .ok (.ireturn, 1) := by decide +kernel
theorem dX12_fault_0 : decode cX12_fault 0 = .ok (.iload_n 1, 1) := by decide +kernel
theorem dX12_fault_1 : decode cX12_fault 1 = .ok (.ifCond .ne 10, 3) := by decide +kernel
theorem dX12_fault_4 : decode cX12_fault 4 = .ok (.aload_n 0, 1) := by decide +kernel
theorem dX12_fault_5 : decode cX12_fault 5 = .ok (.getfield 260, 3) := by decide +kernel
theorem dX12_fault_8 : decode cX12_fault 8 = .ok (.goto 16, 3) := by decide +kernel
theorem dX12_fault_11 : decode cX12_fault 11 = .ok (.iload_n 1, 1) := by decide +kernel
theorem dX12_fault_12 : decode cX12_fault 12 = .ok (.iconst 1, 1) := by decide +kernel
theorem dX12_fault_13 : decode cX12_fault 13 = .ok (.if_icmp .ne 10, 3) := by decide +kernel
theorem dX12_fault_16 : decode cX12_fault 16 = .ok (.aload_n 0, 1) := by decide +kernel
theorem dX12_fault_17 : decode cX12_fault 17 = .ok (.getfield 79, 3) := by decide +kernel
theorem dX12_fault_20 : decode cX12_fault 20 = .ok (.goto 4, 3) := by decide +kernel
theorem dX12_fault_23 : decode cX12_fault 23 = .ok (.iconst (-1), 1) := by decide +kernel
theorem dX12_fault_24 : decode cX12_fault 24 = .ok (.ireturn, 1) := by decide +kernel
theorem dX12_bits_0 : decode cX12_bits 0 = .ok (.iconst 0, 1) := by decide +kernel
theorem dX12_bits_1 : decode cX12_bits 1 = .ok (.istore_n 1, 1) := by decide +kernel
theorem dX12_bits_2 : decode cX12_bits 2 = .ok (.iconst 0, 1) := by decide +kernel
theorem dX12_bits_3 : decode cX12_bits 3 = .ok (.istore_n 2, 1) := by decide +kernel
theorem dX12_bits_4 : decode cX12_bits 4 = .ok (.iload_n 2, 1) := by decide +kernel
theorem dX12_bits_5 : decode cX12_bits 5 = .ok (.bipush 20, 2) := by decide +kernel
theorem dX12_bits_7 : decode cX12_bits 7 = .ok (.if_icmp .ge 17, 3) := by decide +kernel
theorem dX12_bits_10 : decode cX12_bits 10 = .ok (.iload_n 1, 1) := by decide +kernel
theorem dX12_bits_11 : decode cX12_bits 11 = .ok (.iload_n 0, 1) := by decide +kernel
theorem dX12_bits_12 : decode cX12_bits 12 = .ok (.iload_n 2, 1) := by decide +kernel
theorem dX12_bits_13 : decode cX12_bits 13 = .ok (.ishr, 1) := by decide +kernel
theorem dX12_bits_14 : decode cX12_bits 14 = .ok (.iconst 1, 1) := by decide +kernel
theorem dX12_bits_15 : decode cX12_bits 15 = .ok (.iand, 1) := by decide +kernel
theorem dX12_bits_16 : decode cX12_bits 16 = .ok (.iadd, 1) := by decide +kernel
theorem dX12_bits_17 : decode cX12_bits 17 = .ok (.istore_n 1, 1) := by decide +kernel
theorem dX12_bits_18 : decode cX12_bits 18 = .ok (.iinc 2 1, 3) := by decide +kernel
theorem dX12_bits_21 : decode cX12_bits 21 = .ok (.goto (-17), 3) := by decide +kernel
theorem dX12_bits_24 : decode cX12_bits 24 = .ok (.iload_n 1, 1) := by decide +kernel
theorem dX12_bits_25 : decode cX12_bits 25 = .ok (.ireturn, 1) := by decide +kernel
theorem dX12_known_0 : decode cX12_known 0 = .ok (.iload_n 1, 1) := by decide +kernel
theorem dX12_known_1 : decode cX12_known 1 = .ok (.sipush 10001, 3) := by decide +kernel
theorem dX12_known_4 : decode cX12_known 4 = .ok (.if_icmp .ne 5, 3) := by decide +kernel
theorem dX12_known_7 : decode cX12_known 7 = .ok (.iload_n 2, 1) := by decide +kernel
theorem dX12_known_8 : decode cX12_known 8 = .ok (.ireturn, 1) := by decide +kernel
theorem dX12_known_9 : decode cX12_known 9 = .ok (.iload_n 1, 1) := by decide +kernel
theorem dX12_known_10 : decode cX12_known 10 = .ok (.sipush 10002, 3) := by decide +kernel
theorem dX12_known_13 : decode cX12_known 13 = .ok (.if_icmp .ne 8, 3) := by decide +kernel
theorem dX12_known_16 : decode cX12_known 16 = .ok (.iload_n 3, 1) := by decide +kernel
theorem dX12_known_17 : decode cX12_known 17 = .ok (.invokestatic 263, 3) := by decide +kernel
theorem dX12_known_20 : decode cX12_known 20 = .ok (.ireturn, 1) := by decide +kernel
theorem dX12_known_21 : decode cX12_known 21 = .ok (.iconst 0, 1) := by decide +kernel
theorem dX12_known_22 : decode cX12_known 22 = .ok (.istore 5, 2) := by decide +kernel
theorem dX12_known_24 : decode cX12_known 24 = .ok (.iload 5, 2) := by decide +kernel
theorem dX12_known_26 : decode cX12_known 26 = .ok (.aload_n 0, 1) := by decide +kernel
theorem dX12_known_27 : decode cX12_known 27 = .ok (.getfield 90, 3) := by decide +kernel
theorem dX12_known_30 : decode cX12_known 30 = .ok (.if_icmp .ge 37, 3) := by decide +kernel
theorem dX12_known_33 : decode cX12_known 33 = .ok (.iload 4, 2) := by decide +kernel
theorem dX12_known_35 : decode cX12_known 35 = .ok (.iload 5, 2) := by decide +kernel
theorem dX12_known_37 : decode cX12_known 37 = .ok (.ishr, 1) := by decide +kernel
theorem dX12_known_38 : decode cX12_known 38 = .ok (.iconst 1, 1) := by decide +kernel
theorem dX12_known_39 : decode cX12_known 39 = .ok (.iand, 1) := by decide +kernel
theorem dX12_known_40 : decode cX12_known 40 = .ok (.ifCond .eq 21, 3) := by decide +kernel
theorem dX12_known_43 : decode cX12_known 43 = .ok (.aload_n 0, 1) := by decide +kernel
theorem dX12_known_44 : decode cX12_known 44 = .ok (.getfield 7, 3) := by decide +kernel
theorem dX12_known_47 : decode cX12_known 47 = .ok (.iload 5, 2) := by decide +kernel
theorem dX12_known_49 : decode cX12_known 49 = .ok (.iaload, 1) := by decide +kernel
theorem dX12_known_50 : decode cX12_known 50 = .ok (.iload_n 1, 1) := by decide +kernel
theorem dX12_known_51 : decode cX12_known 51 = .ok (.sipush 10010, 3) := by decide +kernel
theorem dX12_known_54 : decode cX12_known 54 = .ok (.isub, 1) := by decide +kernel
theorem dX12_known_55 : decode cX12_known 55 = .ok (.bipush 10, 2) := by decide +kernel
theorem dX12_known_57 : decode cX12_known 57 = .ok (.irem, 1) := by decide +kernel
theorem dX12_known_58 : decode cX12_known 58 = .ok (.if_icmp .eq 9, 3) := by decide +kernel
theorem dX12_known_61 : decode cX12_known 61 = .ok (.iinc 5 1, 3) := by decide +kernel
theorem dX12_known_64 : decode cX12_known 64 = .ok (.goto (-40), 3) := by decide +kernel
theorem dX12_known_67 : decode cX12_known 67 = .ok (.iload 5, 2) := by decide +kernel
theorem dX12_known_69 : decode cX12_known 69 = .ok (.aload_n 0, 1) := by decide +kernel
theorem dX12_known_70 : decode cX12_known 70 = .ok (.getfield 90, 3) := by decide +kernel
theorem dX12_known_73 : decode cX12_known 73 = .ok (.if_icmp .ne 5, 3) := by decide +kernel
theorem dX12_known_76 : decode cX12_known 76 = .ok (.iconst 0, 1) := by decide +kernel
theorem dX12_known_77 : decode cX12_known 77 = .ok (.ireturn, 1) := by decide +kernel
theorem dX12_known_78 : decode cX12_known 78 = .ok (.iload_n 1, 1) := by decide +kernel
theorem dX12_known_79 : decode cX12_known 79 = .ok (.sipush 10020, 3) := by decide +kernel
theorem dX12_known_82 : decode cX12_known 82 = .ok (.if_icmp .ge 13, 3) := by decide +kernel
theorem dX12_known_85 : decode cX12_known 85 = .ok (.aload_n 0, 1) := by decide +kernel
theorem dX12_known_86 : decode cX12_known 86 = .ok (.getfield 13, 3) := by decide +kernel
theorem dX12_known_89 : decode cX12_known 89 = .ok (.iload 5, 2) := by decide +kernel
theorem dX12_known_91 : decode cX12_known 91 = .ok (.iaload, 1) := by decide +kernel
theorem dX12_known_92 : decode cX12_known 92 = .ok (.goto 43, 3) := by decide +kernel
theorem dX12_known_95 : decode cX12_known 95 = .ok (.iload_n 1, 1) := by decide +kernel
theorem dX12_known_96 : decode cX12_known 96 = .ok (.sipush 10030, 3) := by decide +kernel
theorem dX12_known_99 : decode cX12_known 99 = .ok (.if_icmp .ge 13, 3) := by decide +kernel
theorem dX12_known_102 : decode cX12_known 102 = .ok (.aload_n 0, 1) := by decide +kernel
theorem dX12_known_103 : decode cX12_known 103 = .ok (.getfield 16, 3) := by decide +kernel
theorem dX12_known_106 : decode cX12_known 106 = .ok (.iload 5, 2) := by decide +kernel
theorem dX12_known_108 : decode cX12_known 108 = .ok (.iaload, 1) := by decide +kernel
theorem dX12_known_109 : decode cX12_known 109 = .ok (.goto 26, 3) := by decide +kernel
theorem dX12_known_112 : decode cX12_known 112 = .ok (.iload_n 1, 1) := by decide +kernel
theorem dX12_known_113 : decode cX12_known 113 = .ok (.sipush 10040, 3) := by decide +kernel
theorem dX12_known_116 : decode cX12_known 116 = .ok (.if_icmp .ge 18, 3) := by decide +kernel
theorem dX12_known_119 : decode cX12_known 119 = .ok (.aload_n 0, 1) := by decide +kernel
theorem dX12_known_120 : decode cX12_known 120 = .ok (.getfield 97, 3) := by decide +kernel
theorem dX12_known_123 : decode cX12_known 123 = .ok (.aload_n 0, 1) := by decide +kernel
theorem dX12_known_124 : decode cX12_known 124 = .ok (.getfield 22, 3) := by decide +kernel
theorem dX12_known_127 : decode cX12_known 127 = .ok (.iload 5, 2) := by decide +kernel
theorem dX12_known_129 : decode cX12_known 129 = .ok (.iaload, 1) := by decide +kernel
theorem dX12_known_130 : decode cX12_known 130 = .ok (.isub, 1) := by decide +kernel
theorem dX12_known_131 : decode cX12_known 131 = .ok (.goto 4, 3) := by decide +kernel
theorem dX12_known_134 : decode cX12_known 134 = .ok (.iconst 1, 1) := by decide +kernel
theorem dX12_known_135 : decode cX12_known 135 = .ok (.ireturn, 1) := by decide +kernel
theorem dX12_both_0 : decode cX12_both 0 = .ok (.iload_n 0, 1) := by decide +kernel
theorem dX12_both_1 : decode cX12_both 1 = .ok (.tableswitch 72 20000 20004 #[35, 46, 57, 72, 68], 35) := by decide +kernel
theorem dX12_both_36 : decode cX12_both 36 = .ok (.iload_n 1, 1) := by decide +kernel
theorem dX12_both_37 : decode cX12_both 37 = .ok (.iload_n 2, 1) := by decide +kernel
theorem dX12_both_38 : decode cX12_both 38 = .ok (.if_icmp .ge 7, 3) := by decide +kernel
theorem dX12_both_41 : decode cX12_both 41 = .ok (.iconst 1, 1) := by decide +kernel
theorem dX12_both_42 : decode cX12_both 42 = .ok (.goto 4, 3) := by decide +kernel
theorem dX12_both_45 : decode cX12_both 45 = .ok (.iconst 0, 1) := by decide +kernel
theorem dX12_both_46 : decode cX12_both 46 = .ok (.ireturn, 1) := by decide +kernel
theorem dX12_both_47 : decode cX12_both 47 = .ok (.iload_n 1, 1) := by decide +kernel
theorem dX12_both_48 : decode cX12_both 48 = .ok (.iload_n 2, 1) := by decide +kernel
theorem dX12_both_49 : decode cX12_both 49 = .ok (.if_icmp .ne 7, 3) := by decide +kernel
theorem dX12_both_52 : decode cX12_both 52 = .ok (.iconst 1, 1) := by decide +kernel
theorem dX12_both_53 : decode cX12_both 53 = .ok (.goto 4, 3) := by decide +kernel
theorem dX12_both_56 : decode cX12_both 56 = .ok (.iconst 0, 1) := by decide +kernel
theorem dX12_both_57 : decode cX12_both 57 = .ok (.ireturn, 1) := by decide +kernel
theorem dX12_both_58 : decode cX12_both 58 = .ok (.iload_n 1, 1) := by decide +kernel
theorem dX12_both_59 : decode cX12_both 59 = .ok (.iload_n 2, 1) := by decide +kernel
theorem dX12_both_60 : decode cX12_both 60 = .ok (.if_icmp .le 7, 3) := by decide +kernel
theorem dX12_both_63 : decode cX12_both 63 = .ok (.iconst 1, 1) := by decide +kernel
theorem dX12_both_64 : decode cX12_both 64 = .ok (.goto 4, 3) := by decide +kernel
theorem dX12_both_67 : decode cX12_both 67 = .ok (.iconst 0, 1) := by decide +kernel
theorem dX12_both_68 : decode cX12_both 68 = .ok (.ireturn, 1) := by decide +kernel
theorem dX12_both_69 : decode cX12_both 69 = .ok (.iload_n 1, 1) := by decide +kernel
theorem dX12_both_70 : decode cX12_both 70 = .ok (.iload_n 2, 1) := by decide +kernel
theorem dX12_both_71 : decode cX12_both 71 = .ok (.iand, 1) := by decide +kernel
theorem dX12_both_72 : decode cX12_both 72 = .ok (.ireturn, 1) := by decide +kernel
theorem dX12_both_73 : decode cX12_both 73 = .ok (.iload_n 1, 1) := by decide +kernel
theorem dX12_both_74 : decode cX12_both 74 = .ok (.iload_n 2, 1) := by decide +kernel
theorem dX12_both_75 : decode cX12_both 75 = .ok (.ior, 1) := by decide +kernel
theorem dX12_both_76 : decode cX12_both 76 = .ok (.ireturn, 1) := by decide +kernel
theorem dX12_isSo_0 : decode cX12_isSo 0 = .ok (.iconst 0, 1) := by decide +kernel
theorem dX12_isSo_1 : decode cX12_isSo 1 = .ok (.istore 5, 2) := by decide +kernel
theorem dX12_isSo_3 : decode cX12_isSo 3 = .ok (.aload_n 0, 1) := by decide +kernel
theorem dX12_isSo_4 : decode cX12_isSo 4 = .ok (.getfield 61, 3) := by decide +kernel
theorem dX12_isSo_7 : decode cX12_isSo 7 = .ok (.iload_n 1, 1) := by decide +kernel
theorem dX12_isSo_8 : decode cX12_isSo 8 = .ok (.iaload, 1) := by decide +kernel
theorem dX12_isSo_9 : decode cX12_isSo 9 = .ok (.istore 6, 2) := by decide +kernel
theorem dX12_isSo_11 : decode cX12_isSo 11 = .ok (.iload 6, 2) := by decide +kernel
theorem dX12_isSo_13 : decode cX12_isSo 13 = .ok (.aload_n 0, 1) := by decide +kernel
theorem dX12_isSo_14 : decode cX12_isSo 14 = .ok (.getfield 61, 3) := by decide +kernel
theorem dX12_isSo_17 : decode cX12_isSo 17 = .ok (.iload_n 1, 1) := by decide +kernel
theorem dX12_isSo_18 : decode cX12_isSo 18 = .ok (.iconst 1, 1) := by decide +kernel
theorem dX12_isSo_19 : decode cX12_isSo 19 = .ok (.iadd, 1) := by decide +kernel
theorem dX12_isSo_20 : decode cX12_isSo 20 = .ok (.iaload, 1) := by decide +kernel
theorem dX12_isSo_21 : decode cX12_isSo 21 = .ok (.if_icmp .ge 126, 3) := by decide +kernel
theorem dX12_isSo_24 : decode cX12_isSo 24 = .ok (.aload_n 0, 1) := by decide +kernel
theorem dX12_isSo_25 : decode cX12_isSo 25 = .ok (.getfield 64, 3) := by decide +kernel
theorem dX12_isSo_28 : decode cX12_isSo 28 = .ok (.iload 6, 2) := by decide +kernel
theorem dX12_isSo_30 : decode cX12_isSo 30 = .ok (.iaload, 1) := by decide +kernel
theorem dX12_isSo_31 : decode cX12_isSo 31 = .ok (.istore 7, 2) := by decide +kernel
theorem dX12_isSo_33 : decode cX12_isSo 33 = .ok (.iload 7, 2) := by decide +kernel
theorem dX12_isSo_35 : decode cX12_isSo 35 = .ok (.sipush 20000, 3) := by decide +kernel
theorem dX12_isSo_38 : decode cX12_isSo 38 = .ok (.if_icmp .ge 39, 3) := by decide +kernel
theorem dX12_isSo_41 : decode cX12_isSo 41 = .ok (.aload_n 0, 1) := by decide +kernel
theorem dX12_isSo_42 : decode cX12_isSo 42 = .ok (.getfield 73, 3) := by decide +kernel
theorem dX12_isSo_45 : decode cX12_isSo 45 = .ok (.iload 5, 2) := by decide +kernel
theorem dX12_isSo_47 : decode cX12_isSo 47 = .ok (.iload 7, 2) := by decide +kernel
theorem dX12_isSo_49 : decode cX12_isSo 49 = .ok (.sipush 10001, 3) := by decide +kernel
theorem dX12_isSo_52 : decode cX12_isSo 52 = .ok (.if_icmp .ge 8, 3) := by decide +kernel
theorem dX12_isSo_55 : decode cX12_isSo 55 = .ok (.iload 7, 2) := by decide +kernel
theorem dX12_isSo_57 : decode cX12_isSo 57 = .ok (.goto 13, 3) := by decide +kernel
theorem dX12_isSo_60 : decode cX12_isSo 60 = .ok (.aload_n 0, 1) := by decide +kernel
theorem dX12_isSo_61 : decode cX12_isSo 61 = .ok (.iload 7, 2) := by decide +kernel
theorem dX12_isSo_63 : decode cX12_isSo 63 = .ok (.iload_n 2, 1) := by decide +kernel
theorem dX12_isSo_64 : decode cX12_isSo 64 = .ok (.iload_n 3, 1) := by decide +kernel
theorem dX12_isSo_65 : decode cX12_isSo 65 = .ok (.iload 4, 2) := by decide +kernel
theorem dX12_isSo_67 : decode cX12_isSo 67 = .ok (.invokevirtual 266, 3) := by decide +kernel
theorem dX12_isSo_70 : decode cX12_isSo 70 = .ok (.iastore, 1) := by decide +kernel
theorem dX12_isSo_71 : decode cX12_isSo 71 = .ok (.iinc 5 1, 3) := by decide +kernel
theorem dX12_isSo_74 : decode cX12_isSo 74 = .ok (.goto 67, 3) := by decide +kernel
theorem dX12_isSo_77 : decode cX12_isSo 77 = .ok (.iload 7, 2) := by decide +kernel
theorem dX12_isSo_79 : decode cX12_isSo 79 = .ok (.sipush 20003, 3) := by decide +kernel
theorem dX12_isSo_82 : decode cX12_isSo 82 = .ok (.if_icmp .ne 26, 3) := by decide +kernel
theorem dX12_isSo_85 : decode cX12_isSo 85 = .ok (.aload_n 0, 1) := by decide +kernel
theorem dX12_isSo_86 : decode cX12_isSo 86 = .ok (.getfield 73, 3) := by decide +kernel
theorem dX12_isSo_89 : decode cX12_isSo 89 = .ok (.iload 5, 2) := by decide +kernel
theorem dX12_isSo_91 : decode cX12_isSo 91 = .ok (.iconst 1, 1) := by decide +kernel
theorem dX12_isSo_92 : decode cX12_isSo 92 = .ok (.isub, 1) := by decide +kernel
theorem dX12_isSo_93 : decode cX12_isSo 93 = .ok (.iconst 1, 1) := by decide +kernel
theorem dX12_isSo_94 : decode cX12_isSo 94 = .ok (.aload_n 0, 1) := by decide +kernel
theorem dX12_isSo_95 : decode cX12_isSo 95 = .ok (.getfield 73, 3) := by decide +kernel
theorem dX12_isSo_98 : decode cX12_isSo 98 = .ok (.iload 5, 2) := by decide +kernel
theorem dX12_isSo_100 : decode cX12_isSo 100 = .ok (.iconst 1, 1) := by decide +kernel
theorem dX12_isSo_101 : decode cX12_isSo 101 = .ok (.isub, 1) := by decide +kernel
theorem dX12_isSo_102 : decode cX12_isSo 102 = .ok (.iaload, 1) := by decide +kernel
theorem dX12_isSo_103 : decode cX12_isSo 103 = .ok (.isub, 1) := by decide +kernel
theorem dX12_isSo_104 : decode cX12_isSo 104 = .ok (.iastore, 1) := by decide +kernel
theorem dX12_isSo_105 : decode cX12_isSo 105 = .ok (.goto 36, 3) := by decide +kernel
theorem dX12_isSo_108 : decode cX12_isSo 108 = .ok (.iinc 5 (-1), 3) := by decide +kernel
theorem dX12_isSo_111 : decode cX12_isSo 111 = .ok (.aload_n 0, 1) := by decide +kernel
theorem dX12_isSo_112 : decode cX12_isSo 112 = .ok (.getfield 73, 3) := by decide +kernel
theorem dX12_isSo_115 : decode cX12_isSo 115 = .ok (.iload 5, 2) := by decide +kernel
theorem dX12_isSo_117 : decode cX12_isSo 117 = .ok (.iconst 1, 1) := by decide +kernel
theorem dX12_isSo_118 : decode cX12_isSo 118 = .ok (.isub, 1) := by decide +kernel
theorem dX12_isSo_119 : decode cX12_isSo 119 = .ok (.iload 7, 2) := by decide +kernel
theorem dX12_isSo_121 : decode cX12_isSo 121 = .ok (.aload_n 0, 1) := by decide +kernel
theorem dX12_isSo_122 : decode cX12_isSo 122 = .ok (.getfield 73, 3) := by decide +kernel
theorem dX12_isSo_125 : decode cX12_isSo 125 = .ok (.iload 5, 2) := by decide +kernel
theorem dX12_isSo_127 : decode cX12_isSo 127 = .ok (.iconst 1, 1) := by decide +kernel
theorem dX12_isSo_128 : decode cX12_isSo 128 = .ok (.isub, 1) := by decide +kernel
theorem dX12_isSo_129 : decode cX12_isSo 129 = .ok (.iaload, 1) := by decide +kernel
theorem dX12_isSo_130 : decode cX12_isSo 130 = .ok (.aload_n 0, 1) := by decide +kernel
theorem dX12_isSo_131 : decode cX12_isSo 131 = .ok (.getfield 73, 3) := by decide +kernel
theorem dX12_isSo_134 : decode cX12_isSo 134 = .ok (.iload 5, 2) := by decide +kernel
theorem dX12_isSo_136 : decode cX12_isSo 136 = .ok (.iaload, 1) := by decide +kernel
theorem dX12_isSo_137 : decode cX12_isSo 137 = .ok (.invokestatic 270, 3) := by decide +kernel
theorem dX12_isSo_140 : decode cX12_isSo 140 = .ok (.iastore, 1) := by decide +kernel
theorem dX12_isSo_141 : decode cX12_isSo 141 = .ok (.iinc 6 1, 3) := by decide +kernel
theorem dX12_isSo_144 : decode cX12_isSo 144 = .ok (.goto (-133), 3) := by decide +kernel
theorem dX12_isSo_147 : decode cX12_isSo 147 = .ok (.aload_n 0, 1) := by decide +kernel
theorem dX12_isSo_148 : decode cX12_isSo 148 = .ok (.getfield 73, 3) := by decide +kernel
theorem dX12_isSo_151 : decode cX12_isSo 151 = .ok (.iconst 0, 1) := by decide +kernel
theorem dX12_isSo_152 : decode cX12_isSo 152 = .ok (.iaload, 1) := by decide +kernel
theorem dX12_isSo_153 : decode cX12_isSo 153 = .ok (.iconst 1, 1) := by decide +kernel
theorem dX12_isSo_154 : decode cX12_isSo 154 = .ok (.if_icmp .ne 7, 3) := by decide +kernel
theorem dX12_isSo_157 : decode cX12_isSo 157 = .ok (.iconst 1, 1) := by decide +kernel
theorem dX12_isSo_158 : decode cX12_isSo 158 = .ok (.goto 4, 3) := by decide +kernel
theorem dX12_isSo_161 : decode cX12_isSo 161 = .ok (.iconst 0, 1) := by decide +kernel
theorem dX12_isSo_162 : decode cX12_isSo 162 = .ok (.ireturn, 1) := by decide +kernel
theorem dX12_barredBy_0 : decode cX12_barredBy 0 = .ok (.iconst 0, 1) := by decide +kernel
theorem dX12_barredBy_1 : decode cX12_barredBy 1 = .ok (.istore 4, 2) := by decide +kernel
theorem dX12_barredBy_3 : decode cX12_barredBy 3 = .ok (.iload 4, 2) := by decide +kernel
theorem dX12_barredBy_5 : decode cX12_barredBy 5 = .ok (.aload_n 0, 1) := by decide +kernel
theorem dX12_barredBy_6 : decode cX12_barredBy 6 = .ok (.getfield 133, 3) := by decide +kernel
theorem dX12_barredBy_9 : decode cX12_barredBy 9 = .ok (.if_icmp .ge 24, 3) := by decide +kernel
theorem dX12_barredBy_12 : decode cX12_barredBy 12 = .ok (.aload_n 0, 1) := by decide +kernel
theorem dX12_barredBy_13 : decode cX12_barredBy 13 = .ok (.iload 4, 2) := by decide +kernel
theorem dX12_barredBy_15 : decode cX12_barredBy 15 = .ok (.iload_n 1, 1) := by decide +kernel
theorem dX12_barredBy_16 : decode cX12_barredBy 16 = .ok (.iload_n 2, 1) := by decide +kernel
theorem dX12_barredBy_17 : decode cX12_barredBy 17 = .ok (.iload_n 3, 1) := by decide +kernel
theorem dX12_barredBy_18 : decode cX12_barredBy 18 = .ok (.invokevirtual 273, 3) := by decide +kernel
theorem dX12_barredBy_21 : decode cX12_barredBy 21 = .ok (.ifCond .eq 6, 3) := by decide +kernel
theorem dX12_barredBy_24 : decode cX12_barredBy 24 = .ok (.iload 4, 2) := by decide +kernel
theorem dX12_barredBy_26 : decode cX12_barredBy 26 = .ok (.ireturn, 1) := by decide +kernel
theorem dX12_barredBy_27 : decode cX12_barredBy 27 = .ok (.iinc 4 1, 3) := by decide +kernel
theorem dX12_barredBy_30 : decode cX12_barredBy 30 = .ok (.goto (-27), 3) := by decide +kernel
theorem dX12_barredBy_33 : decode cX12_barredBy 33 = .ok (.iconst (-1), 1) := by decide +kernel
theorem dX12_barredBy_34 : decode cX12_barredBy 34 = .ok (.ireturn, 1) := by decide +kernel
theorem dX12_barred_0 : decode cX12_barred 0 = .ok (.iload_n 1, 1) := by decide +kernel
theorem dX12_barred_1 : decode cX12_barred 1 = .ok (.invokestatic 139, 3) := by decide +kernel
theorem dX12_barred_4 : decode cX12_barred 4 = .ok (.ifCond .eq 28, 3) := by decide +kernel
theorem dX12_barred_7 : decode cX12_barred 7 = .ok (.iload_n 2, 1) := by decide +kernel
theorem dX12_barred_8 : decode cX12_barred 8 = .ok (.invokestatic 142, 3) := by decide +kernel
theorem dX12_barred_11 : decode cX12_barred 11 = .ok (.ifCond .eq 21, 3) := by decide +kernel
theorem dX12_barred_14 : decode cX12_barred 14 = .ok (.aload_n 0, 1) := by decide +kernel
theorem dX12_barred_15 : decode cX12_barred 15 = .ok (.iload_n 3, 1) := by decide +kernel
theorem dX12_barred_16 : decode cX12_barred 16 = .ok (.invokevirtual 145, 3) := by decide +kernel
theorem dX12_barred_19 : decode cX12_barred 19 = .ok (.ifCond .eq 13, 3) := by decide +kernel
theorem dX12_barred_22 : decode cX12_barred 22 = .ok (.aload_n 0, 1) := by decide +kernel
theorem dX12_barred_23 : decode cX12_barred 23 = .ok (.iload_n 1, 1) := by decide +kernel
theorem dX12_barred_24 : decode cX12_barred 24 = .ok (.iload_n 2, 1) := by decide +kernel
theorem dX12_barred_25 : decode cX12_barred 25 = .ok (.iload_n 3, 1) := by decide +kernel
theorem dX12_barred_26 : decode cX12_barred 26 = .ok (.invokevirtual 277, 3) := by decide +kernel
theorem dX12_barred_29 : decode cX12_barred 29 = .ok (.goto 5, 3) := by decide +kernel
theorem dX12_barred_32 : decode cX12_barred 32 = .ok (.bipush (-2), 2) := by decide +kernel
theorem dX12_barred_34 : decode cX12_barred 34 = .ok (.ireturn, 1) := by decide +kernel
theorem dX12_isFit_0 : decode cX12_isFit 0 = .ok (.aload_n 0, 1) := by decide +kernel
theorem dX12_isFit_1 : decode cX12_isFit 1 = .ok (.iload_n 1, 1) := by decide +kernel
theorem dX12_isFit_2 : decode cX12_isFit 2 = .ok (.invokevirtual 107, 3) := by decide +kernel
theorem dX12_isFit_5 : decode cX12_isFit 5 = .ok (.ifCond .eq 45, 3) := by decide +kernel
theorem dX12_isFit_8 : decode cX12_isFit 8 = .ok (.aload_n 0, 1) := by decide +kernel
theorem dX12_isFit_9 : decode cX12_isFit 9 = .ok (.getfield 7, 3) := by decide +kernel
theorem dX12_isFit_12 : decode cX12_isFit 12 = .ok (.iload_n 1, 1) := by decide +kernel
theorem dX12_isFit_13 : decode cX12_isFit 13 = .ok (.iaload, 1) := by decide +kernel
theorem dX12_isFit_14 : decode cX12_isFit 14 = .ok (.iload_n 2, 1) := by decide +kernel
theorem dX12_isFit_15 : decode cX12_isFit 15 = .ok (.if_icmp .ne 35, 3) := by decide +kernel
theorem dX12_isFit_18 : decode cX12_isFit 18 = .ok (.aload_n 0, 1) := by decide +kernel
theorem dX12_isFit_19 : decode cX12_isFit 19 = .ok (.iload_n 1, 1) := by decide +kernel
theorem dX12_isFit_20 : decode cX12_isFit 20 = .ok (.aload_n 0, 1) := by decide +kernel
theorem dX12_isFit_21 : decode cX12_isFit 21 = .ok (.getfield 97, 3) := by decide +kernel
theorem dX12_isFit_24 : decode cX12_isFit 24 = .ok (.invokevirtual 127, 3) := by decide +kernel
theorem dX12_isFit_27 : decode cX12_isFit 27 = .ok (.iload_n 3, 1) := by decide +kernel
theorem dX12_isFit_28 : decode cX12_isFit 28 = .ok (.if_icmp .ne 22, 3) := by decide +kernel
theorem dX12_isFit_31 : decode cX12_isFit 31 = .ok (.aload_n 0, 1) := by decide +kernel
theorem dX12_isFit_32 : decode cX12_isFit 32 = .ok (.getfield 19, 3) := by decide +kernel
theorem dX12_isFit_35 : decode cX12_isFit 35 = .ok (.iload_n 1, 1) := by decide +kernel
theorem dX12_isFit_36 : decode cX12_isFit 36 = .ok (.iaload, 1) := by decide +kernel
theorem dX12_isFit_37 : decode cX12_isFit 37 = .ok (.iload 4, 2) := by decide +kernel
theorem dX12_isFit_39 : decode cX12_isFit 39 = .ok (.ishr, 1) := by decide +kernel
theorem dX12_isFit_40 : decode cX12_isFit 40 = .ok (.iconst 1, 1) := by decide +kernel
theorem dX12_isFit_41 : decode cX12_isFit 41 = .ok (.iand, 1) := by decide +kernel
theorem dX12_isFit_42 : decode cX12_isFit 42 = .ok (.iconst 1, 1) := by decide +kernel
theorem dX12_isFit_43 : decode cX12_isFit 43 = .ok (.if_icmp .ne 7, 3) := by decide +kernel
theorem dX12_isFit_46 : decode cX12_isFit 46 = .ok (.iconst 1, 1) := by decide +kernel
theorem dX12_isFit_47 : decode cX12_isFit 47 = .ok (.goto 4, 3) := by decide +kernel
theorem dX12_isFit_50 : decode cX12_isFit 50 = .ok (.iconst 0, 1) := by decide +kernel
theorem dX12_isFit_51 : decode cX12_isFit 51 = .ok (.ireturn, 1) := by decide +kernel
theorem dX12_next_0 : decode cX12_next 0 = .ok (.iload_n 1, 1) := by decide +kernel
theorem dX12_next_1 : decode cX12_next 1 = .ok (.istore 5, 2) := by decide +kernel
theorem dX12_next_3 : decode cX12_next 3 = .ok (.iload 5, 2) := by decide +kernel
theorem dX12_next_5 : decode cX12_next 5 = .ok (.aload_n 0, 1) := by decide +kernel
theorem dX12_next_6 : decode cX12_next 6 = .ok (.getfield 90, 3) := by decide +kernel
theorem dX12_next_9 : decode cX12_next 9 = .ok (.if_icmp .ge 22, 3) := by decide +kernel
theorem dX12_next_12 : decode cX12_next 12 = .ok (.aload_n 0, 1) := by decide +kernel
theorem dX12_next_13 : decode cX12_next 13 = .ok (.iload 5, 2) := by decide +kernel
theorem dX12_next_15 : decode cX12_next 15 = .ok (.iload_n 2, 1) := by decide +kernel
theorem dX12_next_16 : decode cX12_next 16 = .ok (.iload_n 3, 1) := by decide +kernel
theorem dX12_next_17 : decode cX12_next 17 = .ok (.iload 4, 2) := by decide +kernel
theorem dX12_next_19 : decode cX12_next 19 = .ok (.invokevirtual 280, 3) := by decide +kernel
theorem dX12_next_22 : decode cX12_next 22 = .ok (.ifCond .ne 9, 3) := by decide +kernel
theorem dX12_next_25 : decode cX12_next 25 = .ok (.iinc 5 1, 3) := by decide +kernel
theorem dX12_next_28 : decode cX12_next 28 = .ok (.goto (-25), 3) := by decide +kernel
theorem dX12_next_31 : decode cX12_next 31 = .ok (.iload 5, 2) := by decide +kernel
theorem dX12_next_33 : decode cX12_next 33 = .ok (.aload_n 0, 1) := by decide +kernel
theorem dX12_next_34 : decode cX12_next 34 = .ok (.getfield 90, 3) := by decide +kernel
theorem dX12_next_37 : decode cX12_next 37 = .ok (.if_icmp .ge 8, 3) := by decide +kernel
theorem dX12_next_40 : decode cX12_next 40 = .ok (.iload 5, 2) := by decide +kernel
theorem dX12_next_42 : decode cX12_next 42 = .ok (.goto 4, 3) := by decide +kernel
theorem dX12_next_45 : decode cX12_next 45 = .ok (.iconst (-1), 1) := by decide +kernel
theorem dX12_next_46 : decode cX12_next 46 = .ok (.ireturn, 1) := by decide +kernel
theorem dX12_tries_0 : decode cX12_tries 0 = .ok (.iconst 0, 1) := by decide +kernel
theorem dX12_tries_1 : decode cX12_tries 1 = .ok (.istore_n 3, 1) := by decide +kernel
theorem dX12_tries_2 : decode cX12_tries 2 = .ok (.iconst 0, 1) := by decide +kernel
theorem dX12_tries_3 : decode cX12_tries 3 = .ok (.istore 4, 2) := by decide +kernel
theorem dX12_tries_5 : decode cX12_tries 5 = .ok (.iconst 0, 1) := by decide +kernel
theorem dX12_tries_6 : decode cX12_tries 6 = .ok (.istore 5, 2) := by decide +kernel
theorem dX12_tries_8 : decode cX12_tries 8 = .ok (.iload 5, 2) := by decide +kernel
theorem dX12_tries_10 : decode cX12_tries 10 = .ok (.iconst 5, 1) := by decide +kernel
theorem dX12_tries_11 : decode cX12_tries 11 = .ok (.if_icmp .ge 52, 3) := by decide +kernel
theorem dX12_tries_14 : decode cX12_tries 14 = .ok (.aload_n 0, 1) := by decide +kernel
theorem dX12_tries_15 : decode cX12_tries 15 = .ok (.getfield 83, 3) := by decide +kernel
theorem dX12_tries_18 : decode cX12_tries 18 = .ok (.iload 5, 2) := by decide +kernel
theorem dX12_tries_20 : decode cX12_tries 20 = .ok (.iaload, 1) := by decide +kernel
theorem dX12_tries_21 : decode cX12_tries 21 = .ok (.iconst (-1), 1) := by decide +kernel
theorem dX12_tries_22 : decode cX12_tries 22 = .ok (.if_icmp .ne 6, 3) := by decide +kernel
theorem dX12_tries_25 : decode cX12_tries 25 = .ok (.goto 32, 3) := by decide +kernel
theorem dX12_tries_28 : decode cX12_tries 28 = .ok (.iload_n 3, 1) := by decide +kernel
theorem dX12_tries_29 : decode cX12_tries 29 = .ok (.iconst 1, 1) := by decide +kernel
theorem dX12_tries_30 : decode cX12_tries 30 = .ok (.aload_n 0, 1) := by decide +kernel
theorem dX12_tries_31 : decode cX12_tries 31 = .ok (.getfield 83, 3) := by decide +kernel
theorem dX12_tries_34 : decode cX12_tries 34 = .ok (.iload 5, 2) := by decide +kernel
theorem dX12_tries_36 : decode cX12_tries 36 = .ok (.iaload, 1) := by decide +kernel
theorem dX12_tries_37 : decode cX12_tries 37 = .ok (.ishl, 1) := by decide +kernel
theorem dX12_tries_38 : decode cX12_tries 38 = .ok (.ior, 1) := by decide +kernel
theorem dX12_tries_39 : decode cX12_tries 39 = .ok (.istore_n 3, 1) := by decide +kernel
theorem dX12_tries_40 : decode cX12_tries 40 = .ok (.iload 4, 2) := by decide +kernel
theorem dX12_tries_42 : decode cX12_tries 42 = .ok (.aload_n 0, 1) := by decide +kernel
theorem dX12_tries_43 : decode cX12_tries 43 = .ok (.getfield 13, 3) := by decide +kernel
theorem dX12_tries_46 : decode cX12_tries 46 = .ok (.aload_n 0, 1) := by decide +kernel
theorem dX12_tries_47 : decode cX12_tries 47 = .ok (.getfield 83, 3) := by decide +kernel
theorem dX12_tries_50 : decode cX12_tries 50 = .ok (.iload 5, 2) := by decide +kernel
theorem dX12_tries_52 : decode cX12_tries 52 = .ok (.iaload, 1) := by decide +kernel
theorem dX12_tries_53 : decode cX12_tries 53 = .ok (.iaload, 1) := by decide +kernel
theorem dX12_tries_54 : decode cX12_tries 54 = .ok (.iadd, 1) := by decide +kernel
theorem dX12_tries_55 : decode cX12_tries 55 = .ok (.istore 4, 2) := by decide +kernel
theorem dX12_tries_57 : decode cX12_tries 57 = .ok (.iinc 5 1, 3) := by decide +kernel
theorem dX12_tries_60 : decode cX12_tries 60 = .ok (.goto (-52), 3) := by decide +kernel
theorem dX12_tries_63 : decode cX12_tries 63 = .ok (.aload_n 0, 1) := by decide +kernel
theorem dX12_tries_64 : decode cX12_tries 64 = .ok (.iload_n 1, 1) := by decide +kernel
theorem dX12_tries_65 : decode cX12_tries 65 = .ok (.iload_n 2, 1) := by decide +kernel
theorem dX12_tries_66 : decode cX12_tries 66 = .ok (.iload_n 3, 1) := by decide +kernel
theorem dX12_tries_67 : decode cX12_tries 67 = .ok (.invokevirtual 277, 3) := by decide +kernel
theorem dX12_tries_70 : decode cX12_tries 70 = .ok (.iconst (-1), 1) := by decide +kernel
theorem dX12_tries_71 : decode cX12_tries 71 = .ok (.if_icmp .eq 4, 3) := by decide +kernel
theorem dX12_tries_74 : decode cX12_tries 74 = .ok (.return_, 1) := by decide +kernel
theorem dX12_tries_75 : decode cX12_tries 75 = .ok (.aload_n 0, 1) := by decide +kernel
theorem dX12_tries_76 : decode cX12_tries 76 = .ok (.dup, 1) := by decide +kernel
theorem dX12_tries_77 : decode cX12_tries 77 = .ok (.getfield 283, 3) := by decide +kernel
theorem dX12_tries_80 : decode cX12_tries 80 = .ok (.iconst 1, 1) := by decide +kernel
theorem dX12_tries_81 : decode cX12_tries 81 = .ok (.iadd, 1) := by decide +kernel
theorem dX12_tries_82 : decode cX12_tries 82 = .ok (.putfield 283, 3) := by decide +kernel
theorem dX12_tries_85 : decode cX12_tries 85 = .ok (.aload_n 0, 1) := by decide +kernel
theorem dX12_tries_86 : decode cX12_tries 86 = .ok (.iload_n 2, 1) := by decide +kernel
theorem dX12_tries_87 : decode cX12_tries 87 = .ok (.iload_n 3, 1) := by decide +kernel
theorem dX12_tries_88 : decode cX12_tries 88 = .ok (.invokevirtual 152, 3) := by decide +kernel
theorem dX12_tries_91 : decode cX12_tries 91 = .ok (.istore 5, 2) := by decide +kernel
theorem dX12_tries_93 : decode cX12_tries 93 = .ok (.aload_n 0, 1) := by decide +kernel
theorem dX12_tries_94 : decode cX12_tries 94 = .ok (.getfield 286, 3) := by decide +kernel
theorem dX12_tries_97 : decode cX12_tries 97 = .ok (.ifCond .eq 31, 3) := by decide +kernel
theorem dX12_tries_100 : decode cX12_tries 100 = .ok (.iload 5, 2) := by decide +kernel
theorem dX12_tries_102 : decode cX12_tries 102 = .ok (.aload_n 0, 1) := by decide +kernel
theorem dX12_tries_103 : decode cX12_tries 103 = .ok (.getfield 289, 3) := by decide +kernel
theorem dX12_tries_106 : decode cX12_tries 106 = .ok (.if_icmp .gt 21, 3) := by decide +kernel
theorem dX12_tries_109 : decode cX12_tries 109 = .ok (.iload 5, 2) := by decide +kernel
theorem dX12_tries_111 : decode cX12_tries 111 = .ok (.aload_n 0, 1) := by decide +kernel
theorem dX12_tries_112 : decode cX12_tries 112 = .ok (.getfield 289, 3) := by decide +kernel
theorem dX12_tries_115 : decode cX12_tries 115 = .ok (.if_icmp .ne 13, 3) := by decide +kernel
theorem dX12_tries_118 : decode cX12_tries 118 = .ok (.iload 4, 2) := by decide +kernel
theorem dX12_tries_120 : decode cX12_tries 120 = .ok (.aload_n 0, 1) := by decide +kernel
theorem dX12_tries_121 : decode cX12_tries 121 = .ok (.getfield 292, 3) := by decide +kernel
theorem dX12_tries_124 : decode cX12_tries 124 = .ok (.if_icmp .gt 4, 3) := by decide +kernel
theorem dX12_tries_127 : decode cX12_tries 127 = .ok (.return_, 1) := by decide +kernel
theorem dX12_tries_128 : decode cX12_tries 128 = .ok (.aload_n 0, 1) := by decide +kernel
theorem dX12_tries_129 : decode cX12_tries 129 = .ok (.iload_n 3, 1) := by decide +kernel
theorem dX12_tries_130 : decode cX12_tries 130 = .ok (.putfield 286, 3) := by decide +kernel
theorem dX12_tries_133 : decode cX12_tries 133 = .ok (.aload_n 0, 1) := by decide +kernel
theorem dX12_tries_134 : decode cX12_tries 134 = .ok (.iload 5, 2) := by decide +kernel
theorem dX12_tries_136 : decode cX12_tries 136 = .ok (.putfield 289, 3) := by decide +kernel
theorem dX12_tries_139 : decode cX12_tries 139 = .ok (.aload_n 0, 1) := by decide +kernel
theorem dX12_tries_140 : decode cX12_tries 140 = .ok (.iload 4, 2) := by decide +kernel
theorem dX12_tries_142 : decode cX12_tries 142 = .ok (.putfield 292, 3) := by decide +kernel
theorem dX12_tries_145 : decode cX12_tries 145 = .ok (.return_, 1) := by decide +kernel
theorem dX12_finds_0 : decode cX12_finds 0 = .ok (.aload_n 0, 1) := by decide +kernel
theorem dX12_finds_1 : decode cX12_finds 1 = .ok (.iconst 0, 1) := by decide +kernel
theorem dX12_finds_2 : decode cX12_finds 2 = .ok (.putfield 286, 3) := by decide +kernel
theorem dX12_finds_5 : decode cX12_finds 5 = .ok (.aload_n 0, 1) := by decide +kernel
theorem dX12_finds_6 : decode cX12_finds 6 = .ok (.iconst 0, 1) := by decide +kernel
theorem dX12_finds_7 : decode cX12_finds 7 = .ok (.putfield 283, 3) := by decide +kernel
theorem dX12_finds_10 : decode cX12_finds 10 = .ok (.iconst 0, 1) := by decide +kernel
theorem dX12_finds_11 : decode cX12_finds 11 = .ok (.istore 5, 2) := by decide +kernel
theorem dX12_finds_13 : decode cX12_finds 13 = .ok (.iload 5, 2) := by decide +kernel
theorem dX12_finds_15 : decode cX12_finds 15 = .ok (.iconst 5, 1) := by decide +kernel
theorem dX12_finds_16 : decode cX12_finds 16 = .ok (.if_icmp .ge 62, 3) := by decide +kernel
theorem dX12_finds_19 : decode cX12_finds 19 = .ok (.aload_n 0, 1) := by decide +kernel
theorem dX12_finds_20 : decode cX12_finds 20 = .ok (.getfield 83, 3) := by decide +kernel
theorem dX12_finds_23 : decode cX12_finds 23 = .ok (.iload 5, 2) := by decide +kernel
theorem dX12_finds_25 : decode cX12_finds 25 = .ok (.iload 4, 2) := by decide +kernel
theorem dX12_finds_27 : decode cX12_finds 27 = .ok (.iload 5, 2) := by decide +kernel
theorem dX12_finds_29 : decode cX12_finds 29 = .ok (.ishr, 1) := by decide +kernel
theorem dX12_finds_30 : decode cX12_finds 30 = .ok (.iconst 1, 1) := by decide +kernel
theorem dX12_finds_31 : decode cX12_finds 31 = .ok (.iand, 1) := by decide +kernel
theorem dX12_finds_32 : decode cX12_finds 32 = .ok (.ifCond .ne 7, 3) := by decide +kernel
theorem dX12_finds_35 : decode cX12_finds 35 = .ok (.iconst (-1), 1) := by decide +kernel
theorem dX12_finds_36 : decode cX12_finds 36 = .ok (.goto 12, 3) := by decide +kernel
theorem dX12_finds_39 : decode cX12_finds 39 = .ok (.aload_n 0, 1) := by decide +kernel
theorem dX12_finds_40 : decode cX12_finds 40 = .ok (.iconst 0, 1) := by decide +kernel
theorem dX12_finds_41 : decode cX12_finds 41 = .ok (.iload 5, 2) := by decide +kernel
theorem dX12_finds_43 : decode cX12_finds 43 = .ok (.iload_n 1, 1) := by decide +kernel
theorem dX12_finds_44 : decode cX12_finds 44 = .ok (.iload_n 2, 1) := by decide +kernel
theorem dX12_finds_45 : decode cX12_finds 45 = .ok (.invokevirtual 295, 3) := by decide +kernel
theorem dX12_finds_48 : decode cX12_finds 48 = .ok (.iastore, 1) := by decide +kernel
theorem dX12_finds_49 : decode cX12_finds 49 = .ok (.iload 4, 2) := by decide +kernel
theorem dX12_finds_51 : decode cX12_finds 51 = .ok (.iload 5, 2) := by decide +kernel
theorem dX12_finds_53 : decode cX12_finds 53 = .ok (.ishr, 1) := by decide +kernel
theorem dX12_finds_54 : decode cX12_finds 54 = .ok (.iconst 1, 1) := by decide +kernel
theorem dX12_finds_55 : decode cX12_finds 55 = .ok (.iand, 1) := by decide +kernel
theorem dX12_finds_56 : decode cX12_finds 56 = .ok (.iconst 1, 1) := by decide +kernel
theorem dX12_finds_57 : decode cX12_finds 57 = .ok (.if_icmp .ne 15, 3) := by decide +kernel
theorem dX12_finds_60 : decode cX12_finds 60 = .ok (.aload_n 0, 1) := by decide +kernel
theorem dX12_finds_61 : decode cX12_finds 61 = .ok (.getfield 83, 3) := by decide +kernel
theorem dX12_finds_64 : decode cX12_finds 64 = .ok (.iload 5, 2) := by decide +kernel
theorem dX12_finds_66 : decode cX12_finds 66 = .ok (.iaload, 1) := by decide +kernel
theorem dX12_finds_67 : decode cX12_finds 67 = .ok (.iconst (-1), 1) := by decide +kernel
theorem dX12_finds_68 : decode cX12_finds 68 = .ok (.if_icmp .ne 4, 3) := by decide +kernel
theorem dX12_finds_71 : decode cX12_finds 71 = .ok (.return_, 1) := by decide +kernel
theorem dX12_finds_72 : decode cX12_finds 72 = .ok (.iinc 5 1, 3) := by decide +kernel
theorem dX12_finds_75 : decode cX12_finds 75 = .ok (.goto (-62), 3) := by decide +kernel
theorem dX12_finds_78 : decode cX12_finds 78 = .ok (.iconst 1, 1) := by decide +kernel
theorem dX12_finds_79 : decode cX12_finds 79 = .ok (.istore 5, 2) := by decide +kernel
theorem dX12_finds_81 : decode cX12_finds 81 = .ok (.iload 5, 2) := by decide +kernel
theorem dX12_finds_83 : decode cX12_finds 83 = .ok (.ifCond .eq 125, 3) := by decide +kernel
theorem dX12_finds_86 : decode cX12_finds 86 = .ok (.aload_n 0, 1) := by decide +kernel
theorem dX12_finds_87 : decode cX12_finds 87 = .ok (.iload_n 2, 1) := by decide +kernel
theorem dX12_finds_88 : decode cX12_finds 88 = .ok (.iload_n 3, 1) := by decide +kernel
theorem dX12_finds_89 : decode cX12_finds 89 = .ok (.invokevirtual 298, 3) := by decide +kernel
theorem dX12_finds_92 : decode cX12_finds 92 = .ok (.iconst 4, 1) := by decide +kernel
theorem dX12_finds_93 : decode cX12_finds 93 = .ok (.istore 6, 2) := by decide +kernel
theorem dX12_finds_95 : decode cX12_finds 95 = .ok (.iconst 0, 1) := by decide +kernel
theorem dX12_finds_96 : decode cX12_finds 96 = .ok (.istore 5, 2) := by decide +kernel
theorem dX12_finds_98 : decode cX12_finds 98 = .ok (.iload 6, 2) := by decide +kernel
theorem dX12_finds_100 : decode cX12_finds 100 = .ok (.ifCond .lt 105, 3) := by decide +kernel
theorem dX12_finds_103 : decode cX12_finds 103 = .ok (.iload 5, 2) := by decide +kernel
theorem dX12_finds_105 : decode cX12_finds 105 = .ok (.ifCond .ne 100, 3) := by decide +kernel
theorem dX12_finds_108 : decode cX12_finds 108 = .ok (.aload_n 0, 1) := by decide +kernel
theorem dX12_finds_109 : decode cX12_finds 109 = .ok (.getfield 83, 3) := by decide +kernel
theorem dX12_finds_112 : decode cX12_finds 112 = .ok (.iload 6, 2) := by decide +kernel
theorem dX12_finds_114 : decode cX12_finds 114 = .ok (.iaload, 1) := by decide +kernel
theorem dX12_finds_115 : decode cX12_finds 115 = .ok (.iconst (-1), 1) := by decide +kernel
theorem dX12_finds_116 : decode cX12_finds 116 = .ok (.if_icmp .ne 7, 3) := by decide +kernel
theorem dX12_finds_119 : decode cX12_finds 119 = .ok (.iconst (-1), 1) := by decide +kernel
theorem dX12_finds_120 : decode cX12_finds 120 = .ok (.goto 20, 3) := by decide +kernel
theorem dX12_finds_123 : decode cX12_finds 123 = .ok (.aload_n 0, 1) := by decide +kernel
theorem dX12_finds_124 : decode cX12_finds 124 = .ok (.aload_n 0, 1) := by decide +kernel
theorem dX12_finds_125 : decode cX12_finds 125 = .ok (.getfield 83, 3) := by decide +kernel
theorem dX12_finds_128 : decode cX12_finds 128 = .ok (.iload 6, 2) := by decide +kernel
theorem dX12_finds_130 : decode cX12_finds 130 = .ok (.iaload, 1) := by decide +kernel
theorem dX12_finds_131 : decode cX12_finds 131 = .ok (.iconst 1, 1) := by decide +kernel
theorem dX12_finds_132 : decode cX12_finds 132 = .ok (.iadd, 1) := by decide +kernel
theorem dX12_finds_133 : decode cX12_finds 133 = .ok (.iload 6, 2) := by decide +kernel
theorem dX12_finds_135 : decode cX12_finds 135 = .ok (.iload_n 1, 1) := by decide +kernel
theorem dX12_finds_136 : decode cX12_finds 136 = .ok (.iload_n 2, 1) := by decide +kernel
theorem dX12_finds_137 : decode cX12_finds 137 = .ok (.invokevirtual 295, 3) := by decide +kernel
theorem dX12_finds_140 : decode cX12_finds 140 = .ok (.istore 7, 2) := by decide +kernel
theorem dX12_finds_142 : decode cX12_finds 142 = .ok (.iload 7, 2) := by decide +kernel
theorem dX12_finds_144 : decode cX12_finds 144 = .ok (.iconst (-1), 1) := by decide +kernel
theorem dX12_finds_145 : decode cX12_finds 145 = .ok (.if_icmp .eq 7, 3) := by decide +kernel
theorem dX12_finds_148 : decode cX12_finds 148 = .ok (.iconst 1, 1) := by decide +kernel
theorem dX12_finds_149 : decode cX12_finds 149 = .ok (.goto 4, 3) := by decide +kernel
theorem dX12_finds_152 : decode cX12_finds 152 = .ok (.iconst 0, 1) := by decide +kernel
theorem dX12_finds_153 : decode cX12_finds 153 = .ok (.istore 5, 2) := by decide +kernel
theorem dX12_finds_155 : decode cX12_finds 155 = .ok (.iload 5, 2) := by decide +kernel
theorem dX12_finds_157 : decode cX12_finds 157 = .ok (.ifCond .eq 15, 3) := by decide +kernel
theorem dX12_finds_160 : decode cX12_finds 160 = .ok (.aload_n 0, 1) := by decide +kernel
theorem dX12_finds_161 : decode cX12_finds 161 = .ok (.getfield 83, 3) := by decide +kernel
theorem dX12_finds_164 : decode cX12_finds 164 = .ok (.iload 6, 2) := by decide +kernel
theorem dX12_finds_166 : decode cX12_finds 166 = .ok (.iload 7, 2) := by decide +kernel
theorem dX12_finds_168 : decode cX12_finds 168 = .ok (.iastore, 1) := by decide +kernel
theorem dX12_finds_169 : decode cX12_finds 169 = .ok (.goto 30, 3) := by decide +kernel
theorem dX12_finds_172 : decode cX12_finds 172 = .ok (.aload_n 0, 1) := by decide +kernel
theorem dX12_finds_173 : decode cX12_finds 173 = .ok (.getfield 83, 3) := by decide +kernel
theorem dX12_finds_176 : decode cX12_finds 176 = .ok (.iload 6, 2) := by decide +kernel
theorem dX12_finds_178 : decode cX12_finds 178 = .ok (.iaload, 1) := by decide +kernel
theorem dX12_finds_179 : decode cX12_finds 179 = .ok (.iconst (-1), 1) := by decide +kernel
theorem dX12_finds_180 : decode cX12_finds 180 = .ok (.if_icmp .eq 19, 3) := by decide +kernel
theorem dX12_finds_183 : decode cX12_finds 183 = .ok (.aload_n 0, 1) := by decide +kernel
theorem dX12_finds_184 : decode cX12_finds 184 = .ok (.getfield 83, 3) := by decide +kernel
theorem dX12_finds_187 : decode cX12_finds 187 = .ok (.iload 6, 2) := by decide +kernel
theorem dX12_finds_189 : decode cX12_finds 189 = .ok (.aload_n 0, 1) := by decide +kernel
theorem dX12_finds_190 : decode cX12_finds 190 = .ok (.iconst 0, 1) := by decide +kernel
theorem dX12_finds_191 : decode cX12_finds 191 = .ok (.iload 6, 2) := by decide +kernel
theorem dX12_finds_193 : decode cX12_finds 193 = .ok (.iload_n 1, 1) := by decide +kernel
theorem dX12_finds_194 : decode cX12_finds 194 = .ok (.iload_n 2, 1) := by decide +kernel
theorem dX12_finds_195 : decode cX12_finds 195 = .ok (.invokevirtual 295, 3) := by decide +kernel
theorem dX12_finds_198 : decode cX12_finds 198 = .ok (.iastore, 1) := by decide +kernel
theorem dX12_finds_199 : decode cX12_finds 199 = .ok (.iinc 6 (-1), 3) := by decide +kernel
theorem dX12_finds_202 : decode cX12_finds 202 = .ok (.goto (-104), 3) := by decide +kernel
theorem dX12_finds_205 : decode cX12_finds 205 = .ok (.goto (-124), 3) := by decide +kernel
theorem dX12_finds_208 : decode cX12_finds 208 = .ok (.return_, 1) := by decide +kernel
theorem dX12_best_0 : decode cX12_best 0 = .ok (.iload_n 1, 1) := by decide +kernel
theorem dX12_best_1 : decode cX12_best 1 = .ok (.invokestatic 100, 3) := by decide +kernel
theorem dX12_best_4 : decode cX12_best 4 = .ok (.ifCond .eq 38, 3) := by decide +kernel
theorem dX12_best_7 : decode cX12_best 7 = .ok (.iload_n 2, 1) := by decide +kernel
theorem dX12_best_8 : decode cX12_best 8 = .ok (.invokestatic 139, 3) := by decide +kernel
theorem dX12_best_11 : decode cX12_best 11 = .ok (.ifCond .eq 31, 3) := by decide +kernel
theorem dX12_best_14 : decode cX12_best 14 = .ok (.iload_n 3, 1) := by decide +kernel
theorem dX12_best_15 : decode cX12_best 15 = .ok (.invokestatic 142, 3) := by decide +kernel
theorem dX12_best_18 : decode cX12_best 18 = .ok (.ifCond .eq 24, 3) := by decide +kernel
theorem dX12_best_21 : decode cX12_best 21 = .ok (.iload 4, 2) := by decide +kernel
theorem dX12_best_23 : decode cX12_best 23 = .ok (.iconst 1, 1) := by decide +kernel
theorem dX12_best_24 : decode cX12_best 24 = .ok (.bipush 31, 2) := by decide +kernel
theorem dX12_best_26 : decode cX12_best 26 = .ok (.invokestatic 86, 3) := by decide +kernel
theorem dX12_best_29 : decode cX12_best 29 = .ok (.ifCond .eq 13, 3) := by decide +kernel
theorem dX12_best_32 : decode cX12_best 32 = .ok (.iload 5, 2) := by decide +kernel
theorem dX12_best_34 : decode cX12_best 34 = .ok (.iconst 0, 1) := by decide +kernel
theorem dX12_best_35 : decode cX12_best 35 = .ok (.iconst 3, 1) := by decide +kernel
theorem dX12_best_36 : decode cX12_best 36 = .ok (.invokestatic 86, 3) := by decide +kernel
theorem dX12_best_39 : decode cX12_best 39 = .ok (.ifCond .ne 5, 3) := by decide +kernel
theorem dX12_best_42 : decode cX12_best 42 = .ok (.iconst (-1), 1) := by decide +kernel
theorem dX12_best_43 : decode cX12_best 43 = .ok (.ireturn, 1) := by decide +kernel
theorem dX12_best_44 : decode cX12_best 44 = .ok (.aload_n 0, 1) := by decide +kernel
theorem dX12_best_45 : decode cX12_best 45 = .ok (.iload_n 1, 1) := by decide +kernel
theorem dX12_best_46 : decode cX12_best 46 = .ok (.iload_n 2, 1) := by decide +kernel
theorem dX12_best_47 : decode cX12_best 47 = .ok (.iload_n 3, 1) := by decide +kernel
theorem dX12_best_48 : decode cX12_best 48 = .ok (.iload 4, 2) := by decide +kernel
theorem dX12_best_50 : decode cX12_best 50 = .ok (.invokevirtual 302, 3) := by decide +kernel
theorem dX12_best_53 : decode cX12_best 53 = .ok (.aload_n 0, 1) := by decide +kernel
theorem dX12_best_54 : decode cX12_best 54 = .ok (.getfield 286, 3) := by decide +kernel
theorem dX12_best_57 : decode cX12_best 57 = .ok (.ifCond .ne 5, 3) := by decide +kernel
theorem dX12_best_60 : decode cX12_best 60 = .ok (.iconst (-1), 1) := by decide +kernel
theorem dX12_best_61 : decode cX12_best 61 = .ok (.ireturn, 1) := by decide +kernel
theorem dX12_best_62 : decode cX12_best 62 = .ok (.iload 5, 2) := by decide +kernel
theorem dX12_best_64 : decode cX12_best 64 = .ok (.ifCond .ne 10, 3) := by decide +kernel
theorem dX12_best_67 : decode cX12_best 67 = .ok (.aload_n 0, 1) := by decide +kernel
theorem dX12_best_68 : decode cX12_best 68 = .ok (.getfield 286, 3) := by decide +kernel
theorem dX12_best_71 : decode cX12_best 71 = .ok (.goto 33, 3) := by decide +kernel
theorem dX12_best_74 : decode cX12_best 74 = .ok (.iload 5, 2) := by decide +kernel
theorem dX12_best_76 : decode cX12_best 76 = .ok (.iconst 1, 1) := by decide +kernel
theorem dX12_best_77 : decode cX12_best 77 = .ok (.if_icmp .ne 10, 3) := by decide +kernel
theorem dX12_best_80 : decode cX12_best 80 = .ok (.aload_n 0, 1) := by decide +kernel
theorem dX12_best_81 : decode cX12_best 81 = .ok (.getfield 289, 3) := by decide +kernel
theorem dX12_best_84 : decode cX12_best 84 = .ok (.goto 20, 3) := by decide +kernel
theorem dX12_best_87 : decode cX12_best 87 = .ok (.iload 5, 2) := by decide +kernel
theorem dX12_best_89 : decode cX12_best 89 = .ok (.iconst 2, 1) := by decide +kernel
theorem dX12_best_90 : decode cX12_best 90 = .ok (.if_icmp .ne 10, 3) := by decide +kernel
theorem dX12_best_93 : decode cX12_best 93 = .ok (.aload_n 0, 1) := by decide +kernel
theorem dX12_best_94 : decode cX12_best 94 = .ok (.getfield 292, 3) := by decide +kernel
theorem dX12_best_97 : decode cX12_best 97 = .ok (.goto 7, 3) := by decide +kernel
theorem dX12_best_100 : decode cX12_best 100 = .ok (.aload_n 0, 1) := by decide +kernel
theorem dX12_best_101 : decode cX12_best 101 = .ok (.getfield 283, 3) := by decide +kernel
theorem dX12_best_104 : decode cX12_best 104 = .ok (.ireturn, 1) := by decide +kernel
