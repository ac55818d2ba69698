theorem dX7_init_0 : decode cX7_init 0 = .ok (.aload_n 0, 1) := by decide +kernel
theorem dX7_init_1 : decode cX7_init 1 = .ok (.invokespecial 1, 3) := by decide +kernel
theorem dX7_init_4 : decode cX7_init 4 = .ok (.aload_n 0, 1) := by decide +kernel
theorem dX7_init_5 : decode cX7_init 5 = .ok (.bipush 6, 2) := by decide +kernel
theorem dX7_init_7 : decode cX7_init 7 = .ok (.anewarray 9, 3) := by decide +kernel
theorem dX7_init_10 : decode cX7_init 10 = .ok (.putfield 11, 3) := by decide +kernel
theorem dX7_init_13 : decode cX7_init 13 = .ok (.aload_n 0, 1) := by decide +kernel
theorem dX7_init_14 : decode cX7_init 14 = .ok (.bipush 24, 2) := by decide +kernel
theorem dX7_init_16 : decode cX7_init 16 = .ok (.anewarray 15, 3) := by decide +kernel
theorem dX7_init_19 : decode cX7_init 19 = .ok (.putfield 17, 3) := by decide +kernel
theorem dX7_init_22 : decode cX7_init 22 = .ok (.aload_n 0, 1) := by decide +kernel
theorem dX7_init_23 : decode cX7_init 23 = .ok (.iconst 2, 1) := by decide +kernel
theorem dX7_init_24 : decode cX7_init 24 = .ok (.anewarray 21, 3) := by decide +kernel
theorem dX7_init_27 : decode cX7_init 27 = .ok (.putfield 23, 3) := by decide +kernel
theorem dX7_init_30 : decode cX7_init 30 = .ok (.aload_n 0, 1) := by decide +kernel
theorem dX7_init_31 : decode cX7_init 31 = .ok (.new 27, 3) := by decide +kernel
theorem dX7_init_34 : decode cX7_init 34 = .ok (.dup, 1) := by decide +kernel
theorem dX7_init_35 : decode cX7_init 35 = .ok (.invokespecial 29, 3) := by decide +kernel
theorem dX7_init_38 : decode cX7_init 38 = .ok (.putfield 30, 3) := by decide +kernel
theorem dX7_init_41 : decode cX7_init 41 = .ok (.aload_n 0, 1) := by decide +kernel
theorem dX7_init_42 : decode cX7_init 42 = .ok (.bipush 24, 2) := by decide +kernel
theorem dX7_init_44 : decode cX7_init 44 = .ok (.newarray .int, 2) := by decide +kernel
theorem dX7_init_46 : decode cX7_init 46 = .ok (.putfield 34, 3) := by decide +kernel
theorem dX7_init_49 : decode cX7_init 49 = .ok (.aload_n 0, 1) := by decide +kernel
theorem dX7_init_50 : decode cX7_init 50 = .ok (.bipush 24, 2) := by decide +kernel
theorem dX7_init_52 : decode cX7_init 52 = .ok (.newarray .int, 2) := by decide +kernel
theorem dX7_init_54 : decode cX7_init 54 = .ok (.putfield 38, 3) := by decide +kernel
theorem dX7_init_57 : decode cX7_init 57 = .ok (.aload_n 0, 1) := by decide +kernel
theorem dX7_init_58 : decode cX7_init 58 = .ok (.bipush 48, 2) := by decide +kernel
theorem dX7_init_60 : decode cX7_init 60 = .ok (.newarray .boolean, 2) := by decide +kernel
theorem dX7_init_62 : decode cX7_init 62 = .ok (.putfield 41, 3) := by decide +kernel
theorem dX7_init_65 : decode cX7_init 65 = .ok (.aload_n 0, 1) := by decide +kernel
theorem dX7_init_66 : decode cX7_init 66 = .ok (.iconst 3, 1) := by decide +kernel
theorem dX7_init_67 : decode cX7_init 67 = .ok (.newarray .int, 2) := by decide +kernel
theorem dX7_init_69 : decode cX7_init 69 = .ok (.putfield 45, 3) := by decide +kernel
theorem dX7_init_72 : decode cX7_init 72 = .ok (.aload_n 0, 1) := by decide +kernel
theorem dX7_init_73 : decode cX7_init 73 = .ok (.bipush 8, 2) := by decide +kernel
theorem dX7_init_75 : decode cX7_init 75 = .ok (.newarray .int, 2) := by decide +kernel
theorem dX7_init_77 : decode cX7_init 77 = .ok (.putfield 48, 3) := by decide +kernel
theorem dX7_init_80 : decode cX7_init 80 = .ok (.iconst 0, 1) := by decide +kernel
theorem dX7_init_81 : decode cX7_init 81 = .ok (.istore_n 1, 1) := by decide +kernel
theorem dX7_init_82 : decode cX7_init 82 = .ok (.iload_n 1, 1) := by decide +kernel
theorem dX7_init_83 : decode cX7_init 83 = .ok (.bipush 6, 2) := by decide +kernel
theorem dX7_init_85 : decode cX7_init 85 = .ok (.if_icmp .ge 23, 3) := by decide +kernel
theorem dX7_init_88 : decode cX7_init 88 = .ok (.aload_n 0, 1) := by decide +kernel
theorem dX7_init_89 : decode cX7_init 89 = .ok (.getfield 11, 3) := by decide +kernel
theorem dX7_init_92 : decode cX7_init 92 = .ok (.iload_n 1, 1) := by decide +kernel
theorem dX7_init_93 : decode cX7_init 93 = .ok (.new 9, 3) := by decide +kernel
theorem dX7_init_96 : decode cX7_init 96 = .ok (.dup, 1) := by decide +kernel
theorem dX7_init_97 : decode cX7_init 97 = .ok (.iload_n 1, 1) := by decide +kernel
theorem dX7_init_98 : decode cX7_init 98 = .ok (.invokespecial 51, 3) := by decide +kernel
theorem dX7_init_101 : decode cX7_init 101 = .ok (.aastore, 1) := by decide +kernel
theorem dX7_init_102 : decode cX7_init 102 = .ok (.iinc 1 1, 3) := by decide +kernel
theorem dX7_init_105 : decode cX7_init 105 = .ok (.goto (-23), 3) := by decide +kernel
theorem dX7_init_108 : decode cX7_init 108 = .ok (.iconst 0, 1) := by decide +kernel
theorem dX7_init_109 : decode cX7_init 109 = .ok (.istore_n 1, 1) := by decide +kernel
theorem dX7_init_110 : decode cX7_init 110 = .ok (.iload_n 1, 1) := by decide +kernel
theorem dX7_init_111 : decode cX7_init 111 = .ok (.bipush 24, 2) := by decide +kernel
theorem dX7_init_113 : decode cX7_init 113 = .ok (.if_icmp .ge 23, 3) := by decide +kernel
theorem dX7_init_116 : decode cX7_init 116 = .ok (.aload_n 0, 1) := by decide +kernel
theorem dX7_init_117 : decode cX7_init 117 = .ok (.getfield 17, 3) := by decide +kernel
theorem dX7_init_120 : decode cX7_init 120 = .ok (.iload_n 1, 1) := by decide +kernel
theorem dX7_init_121 : decode cX7_init 121 = .ok (.new 15, 3) := by decide +kernel
theorem dX7_init_124 : decode cX7_init 124 = .ok (.dup, 1) := by decide +kernel
theorem dX7_init_125 : decode cX7_init 125 = .ok (.iload_n 1, 1) := by decide +kernel
theorem dX7_init_126 : decode cX7_init 126 = .ok (.invokespecial 54, 3) := by decide +kernel
theorem dX7_init_129 : decode cX7_init 129 = .ok (.aastore, 1) := by decide +kernel
theorem dX7_init_130 : decode cX7_init 130 = .ok (.iinc 1 1, 3) := by decide +kernel
theorem dX7_init_133 : decode cX7_init 133 = .ok (.goto (-23), 3) := by decide +kernel
theorem dX7_init_136 : decode cX7_init 136 = .ok (.iconst 0, 1) := by decide +kernel
theorem dX7_init_137 : decode cX7_init 137 = .ok (.istore_n 1, 1) := by decide +kernel
theorem dX7_init_138 : decode cX7_init 138 = .ok (.iload_n 1, 1) := by decide +kernel
theorem dX7_init_139 : decode cX7_init 139 = .ok (.iconst 2, 1) := by decide +kernel
theorem dX7_init_140 : decode cX7_init 140 = .ok (.if_icmp .ge 25, 3) := by decide +kernel
theorem dX7_init_143 : decode cX7_init 143 = .ok (.aload_n 0, 1) := by decide +kernel
theorem dX7_init_144 : decode cX7_init 144 = .ok (.getfield 23, 3) := by decide +kernel
theorem dX7_init_147 : decode cX7_init 147 = .ok (.iload_n 1, 1) := by decide +kernel
theorem dX7_init_148 : decode cX7_init 148 = .ok (.new 21, 3) := by decide +kernel
theorem dX7_init_151 : decode cX7_init 151 = .ok (.dup, 1) := by decide +kernel
theorem dX7_init_152 : decode cX7_init 152 = .ok (.iconst 1, 1) := by decide +kernel
theorem dX7_init_153 : decode cX7_init 153 = .ok (.iload_n 1, 1) := by decide +kernel
theorem dX7_init_154 : decode cX7_init 154 = .ok (.ishl, 1) := by decide +kernel
theorem dX7_init_155 : decode cX7_init 155 = .ok (.invokespecial 55, 3) := by decide +kernel
theorem dX7_init_158 : decode cX7_init 158 = .ok (.aastore, 1) := by decide +kernel
theorem dX7_init_159 : decode cX7_init 159 = .ok (.iinc 1 1, 3) := by decide +kernel
theorem dX7_init_162 : decode cX7_init 162 = .ok (.goto (-24), 3) := by decide +kernel
theorem dX7_init_165 : decode cX7_init 165 = .ok (.iconst 0, 1) := by decide +kernel
theorem dX7_init_166 : decode cX7_init 166 = .ok (.istore_n 1, 1) := by decide +kernel
theorem dX7_init_167 : decode cX7_init 167 = .ok (.iload_n 1, 1) := by decide +kernel
theorem dX7_init_168 : decode cX7_init 168 = .ok (.bipush 24, 2) := by decide +kernel
theorem dX7_init_170 : decode cX7_init 170 = .ok (.if_icmp .ge 16, 3) := by decide +kernel
theorem dX7_init_173 : decode cX7_init 173 = .ok (.aload_n 0, 1) := by decide +kernel
theorem dX7_init_174 : decode cX7_init 174 = .ok (.getfield 38, 3) := by decide +kernel
theorem dX7_init_177 : decode cX7_init 177 = .ok (.iload_n 1, 1) := by decide +kernel
theorem dX7_init_178 : decode cX7_init 178 = .ok (.iconst (-1), 1) := by decide +kernel
theorem dX7_init_179 : decode cX7_init 179 = .ok (.iastore, 1) := by decide +kernel
theorem dX7_init_180 : decode cX7_init 180 = .ok (.iinc 1 1, 3) := by decide +kernel
theorem dX7_init_183 : decode cX7_init 183 = .ok (.goto (-16), 3) := by decide +kernel
theorem dX7_init_186 : decode cX7_init 186 = .ok (.iconst 0, 1) := by decide +kernel
theorem dX7_init_187 : decode cX7_init 187 = .ok (.istore_n 1, 1) := by decide +kernel
theorem dX7_init_188 : decode cX7_init 188 = .ok (.iload_n 1, 1) := by decide +kernel
theorem dX7_init_189 : decode cX7_init 189 = .ok (.iconst 3, 1) := by decide +kernel
theorem dX7_init_190 : decode cX7_init 190 = .ok (.if_icmp .ge 16, 3) := by decide +kernel
theorem dX7_init_193 : decode cX7_init 193 = .ok (.aload_n 0, 1) := by decide +kernel
theorem dX7_init_194 : decode cX7_init 194 = .ok (.getfield 45, 3) := by decide +kernel
theorem dX7_init_197 : decode cX7_init 197 = .ok (.iload_n 1, 1) := by decide +kernel
theorem dX7_init_198 : decode cX7_init 198 = .ok (.iconst (-1), 1) := by decide +kernel
theorem dX7_init_199 : decode cX7_init 199 = .ok (.iastore, 1) := by decide +kernel
theorem dX7_init_200 : decode cX7_init 200 = .ok (.iinc 1 1, 3) := by decide +kernel
theorem dX7_init_203 : decode cX7_init 203 = .ok (.goto (-15), 3) := by decide +kernel
theorem dX7_init_206 : decode cX7_init 206 = .ok (.return_, 1) := by decide +kernel
theorem dX7_space_0 : decode cX7_space 0 = .ok (.iload_n 1, 1) := by decide +kernel
theorem dX7_space_1 : decode cX7_space 1 = .ok (.iconst 0, 1) := by decide +kernel
theorem dX7_space_2 : decode cX7_space 2 = .ok (.iconst 2, 1) := by decide +kernel
theorem dX7_space_3 : decode cX7_space 3 = .ok (.invokestatic 56, 3) := by decide +kernel
theorem dX7_space_6 : decode cX7_space 6 = .ok (.invokestatic 60, 3) := by decide +kernel
theorem dX7_space_9 : decode cX7_space 9 = .ok (.aload_n 0, 1) := by decide +kernel
theorem dX7_space_10 : decode cX7_space 10 = .ok (.getfield 64, 3) := by decide +kernel
theorem dX7_space_13 : decode cX7_space 13 = .ok (.bipush 6, 2) := by decide +kernel
theorem dX7_space_15 : decode cX7_space 15 = .ok (.if_icmp .ge 7, 3) := by decide +kernel
theorem dX7_space_18 : decode cX7_space 18 = .ok (.iconst 1, 1) := by decide +kernel
theorem dX7_space_19 : decode cX7_space 19 = .ok (.goto 4, 3) := by decide +kernel
theorem dX7_space_22 : decode cX7_space 22 = .ok (.iconst 0, 1) := by decide +kernel
theorem dX7_space_23 : decode cX7_space 23 = .ok (.invokestatic 68, 3) := by decide +kernel
theorem dX7_space_26 : decode cX7_space 26 = .ok (.aload_n 0, 1) := by decide +kernel
theorem dX7_space_27 : decode cX7_space 27 = .ok (.iload_n 1, 1) := by decide +kernel
theorem dX7_space_28 : decode cX7_space 28 = .ok (.invokevirtual 71, 3) := by decide +kernel
theorem dX7_space_31 : decode cX7_space 31 = .ok (.getfield 75, 3) := by decide +kernel
theorem dX7_space_34 : decode cX7_space 34 = .ok (.ireturn, 1) := by decide +kernel
theorem dX7_map_0 : decode cX7_map 0 = .ok (.aload_n 0, 1) := by decide +kernel
theorem dX7_map_1 : decode cX7_map 1 = .ok (.iload_n 1, 1) := by decide +kernel
theorem dX7_map_2 : decode cX7_map 2 = .ok (.invokevirtual 78, 3) := by decide +kernel
theorem dX7_map_5 : decode cX7_map 5 = .ok (.astore 9, 2) := by decide +kernel
theorem dX7_map_7 : decode cX7_map 7 = .ok (.iload_n 2, 1) := by decide +kernel
theorem dX7_map_8 : decode cX7_map 8 = .ok (.iload_n 3, 1) := by decide +kernel
theorem dX7_map_9 : decode cX7_map 9 = .ok (.invokestatic 81, 3) := by decide +kernel
theorem dX7_map_12 : decode cX7_map 12 = .ok (.ifCond .eq 27, 3) := by decide +kernel
theorem dX7_map_15 : decode cX7_map 15 = .ok (.iload 4, 2) := by decide +kernel
theorem dX7_map_17 : decode cX7_map 17 = .ok (.iconst 1, 1) := by decide +kernel
theorem dX7_map_18 : decode cX7_map 18 = .ok (.iconst 3, 1) := by decide +kernel
theorem dX7_map_19 : decode cX7_map 19 = .ok (.invokestatic 56, 3) := by decide +kernel
theorem dX7_map_22 : decode cX7_map 22 = .ok (.ifCond .eq 17, 3) := by decide +kernel
theorem dX7_map_25 : decode cX7_map 25 = .ok (.iload 5, 2) := by decide +kernel
theorem dX7_map_27 : decode cX7_map 27 = .ok (.iconst (-1), 1) := by decide +kernel
theorem dX7_map_28 : decode cX7_map 28 = .ok (.iconst 2, 1) := by decide +kernel
theorem dX7_map_29 : decode cX7_map 29 = .ok (.invokestatic 56, 3) := by decide +kernel
theorem dX7_map_32 : decode cX7_map 32 = .ok (.ifCond .eq 7, 3) := by decide +kernel
theorem dX7_map_35 : decode cX7_map 35 = .ok (.iconst 1, 1) := by decide +kernel
theorem dX7_map_36 : decode cX7_map 36 = .ok (.goto 4, 3) := by decide +kernel
theorem dX7_map_39 : decode cX7_map 39 = .ok (.iconst 0, 1) := by decide +kernel
theorem dX7_map_40 : decode cX7_map 40 = .ok (.invokestatic 60, 3) := by decide +kernel
theorem dX7_map_43 : decode cX7_map 43 = .ok (.iload 5, 2) := by decide +kernel
theorem dX7_map_45 : decode cX7_map 45 = .ok (.iconst (-1), 1) := by decide +kernel
theorem dX7_map_46 : decode cX7_map 46 = .ok (.if_icmp .eq 16, 3) := by decide +kernel
theorem dX7_map_49 : decode cX7_map 49 = .ok (.iload 6, 2) := by decide +kernel
theorem dX7_map_51 : decode cX7_map 51 = .ok (.iconst 0, 1) := by decide +kernel
theorem dX7_map_52 : decode cX7_map 52 = .ok (.bipush 8, 2) := by decide +kernel
theorem dX7_map_54 : decode cX7_map 54 = .ok (.iload_n 3, 1) := by decide +kernel
theorem dX7_map_55 : decode cX7_map 55 = .ok (.isub, 1) := by decide +kernel
theorem dX7_map_56 : decode cX7_map 56 = .ok (.invokestatic 56, 3) := by decide +kernel
theorem dX7_map_59 : decode cX7_map 59 = .ok (.ifCond .eq 7, 3) := by decide +kernel
theorem dX7_map_62 : decode cX7_map 62 = .ok (.iconst 1, 1) := by decide +kernel
theorem dX7_map_63 : decode cX7_map 63 = .ok (.goto 4, 3) := by decide +kernel
theorem dX7_map_66 : decode cX7_map 66 = .ok (.iconst 0, 1) := by decide +kernel
theorem dX7_map_67 : decode cX7_map 67 = .ok (.invokestatic 60, 3) := by decide +kernel
theorem dX7_map_70 : decode cX7_map 70 = .ok (.aload 9, 2) := by decide +kernel
theorem dX7_map_72 : decode cX7_map 72 = .ok (.getfield 85, 3) := by decide +kernel
theorem dX7_map_75 : decode cX7_map 75 = .ok (.ifCond .eq 17, 3) := by decide +kernel
theorem dX7_map_78 : decode cX7_map 78 = .ok (.aload 9, 2) := by decide +kernel
theorem dX7_map_80 : decode cX7_map 80 = .ok (.iload_n 2, 1) := by decide +kernel
theorem dX7_map_81 : decode cX7_map 81 = .ok (.iload_n 3, 1) := by decide +kernel
theorem dX7_map_82 : decode cX7_map 82 = .ok (.invokevirtual 89, 3) := by decide +kernel
theorem dX7_map_85 : decode cX7_map 85 = .ok (.ifCond .ne 7, 3) := by decide +kernel
theorem dX7_map_88 : decode cX7_map 88 = .ok (.iconst 1, 1) := by decide +kernel
theorem dX7_map_89 : decode cX7_map 89 = .ok (.goto 4, 3) := by decide +kernel
theorem dX7_map_92 : decode cX7_map 92 = .ok (.iconst 0, 1) := by decide +kernel
theorem dX7_map_93 : decode cX7_map 93 = .ok (.invokestatic 68, 3) := by decide +kernel
theorem dX7_map_96 : decode cX7_map 96 = .ok (.iconst 0, 1) := by decide +kernel
theorem dX7_map_97 : decode cX7_map 97 = .ok (.istore 10, 2) := by decide +kernel
theorem dX7_map_99 : decode cX7_map 99 = .ok (.iload 10, 2) := by decide +kernel
theorem dX7_map_101 : decode cX7_map 101 = .ok (.iload_n 3, 1) := by decide +kernel
theorem dX7_map_102 : decode cX7_map 102 = .ok (.if_icmp .ge 35, 3) := by decide +kernel
theorem dX7_map_105 : decode cX7_map 105 = .ok (.aload 9, 2) := by decide +kernel
theorem dX7_map_107 : decode cX7_map 107 = .ok (.getfield 93, 3) := by decide +kernel
theorem dX7_map_110 : decode cX7_map 110 = .ok (.iload_n 2, 1) := by decide +kernel
theorem dX7_map_111 : decode cX7_map 111 = .ok (.iload 10, 2) := by decide +kernel
theorem dX7_map_113 : decode cX7_map 113 = .ok (.iadd, 1) := by decide +kernel
theorem dX7_map_114 : decode cX7_map 114 = .ok (.aaload, 1) := by decide +kernel
theorem dX7_map_115 : decode cX7_map 115 = .ok (.iload 4, 2) := by decide +kernel
theorem dX7_map_117 : decode cX7_map 117 = .ok (.iload 5, 2) := by decide +kernel
theorem dX7_map_119 : decode cX7_map 119 = .ok (.iload 6, 2) := by decide +kernel
theorem dX7_map_121 : decode cX7_map 121 = .ok (.iload 10, 2) := by decide +kernel
theorem dX7_map_123 : decode cX7_map 123 = .ok (.iadd, 1) := by decide +kernel
theorem dX7_map_124 : decode cX7_map 124 = .ok (.iload 7, 2) := by decide +kernel
theorem dX7_map_126 : decode cX7_map 126 = .ok (.iload 8, 2) := by decide +kernel
theorem dX7_map_128 : decode cX7_map 128 = .ok (.invokevirtual 97, 3) := by decide +kernel
theorem dX7_map_131 : decode cX7_map 131 = .ok (.iinc 10 1, 3) := by decide +kernel
theorem dX7_map_134 : decode cX7_map 134 = .ok (.goto (-35), 3) := by decide +kernel
theorem dX7_map_137 : decode cX7_map 137 = .ok (.aload 9, 2) := by decide +kernel
theorem dX7_map_139 : decode cX7_map 139 = .ok (.invokevirtual 103, 3) := by decide +kernel
theorem dX7_map_142 : decode cX7_map 142 = .ok (.ireturn, 1) := by decide +kernel
theorem dX7_unmap_0 : decode cX7_unmap 0 = .ok (.aload_n 0, 1) := by decide +kernel
theorem dX7_unmap_1 : decode cX7_unmap 1 = .ok (.iload_n 1, 1) := by decide +kernel
theorem dX7_unmap_2 : decode cX7_unmap 2 = .ok (.invokevirtual 78, 3) := by decide +kernel
theorem dX7_unmap_5 : decode cX7_unmap 5 = .ok (.astore 4, 2) := by decide +kernel
theorem dX7_unmap_7 : decode cX7_unmap 7 = .ok (.iload_n 2, 1) := by decide +kernel
theorem dX7_unmap_8 : decode cX7_unmap 8 = .ok (.iload_n 3, 1) := by decide +kernel
theorem dX7_unmap_9 : decode cX7_unmap 9 = .ok (.invokestatic 81, 3) := by decide +kernel
theorem dX7_unmap_12 : decode cX7_unmap 12 = .ok (.invokestatic 60, 3) := by decide +kernel
theorem dX7_unmap_15 : decode cX7_unmap 15 = .ok (.aload 4, 2) := by decide +kernel
theorem dX7_unmap_17 : decode cX7_unmap 17 = .ok (.getfield 85, 3) := by decide +kernel
theorem dX7_unmap_20 : decode cX7_unmap 20 = .ok (.invokestatic 68, 3) := by decide +kernel
theorem dX7_unmap_23 : decode cX7_unmap 23 = .ok (.aload 4, 2) := by decide +kernel
theorem dX7_unmap_25 : decode cX7_unmap 25 = .ok (.iload_n 2, 1) := by decide +kernel
theorem dX7_unmap_26 : decode cX7_unmap 26 = .ok (.iload_n 3, 1) := by decide +kernel
theorem dX7_unmap_27 : decode cX7_unmap 27 = .ok (.invokevirtual 89, 3) := by decide +kernel
theorem dX7_unmap_30 : decode cX7_unmap 30 = .ok (.istore 5, 2) := by decide +kernel
theorem dX7_unmap_32 : decode cX7_unmap 32 = .ok (.iload_n 2, 1) := by decide +kernel
theorem dX7_unmap_33 : decode cX7_unmap 33 = .ok (.istore 6, 2) := by decide +kernel
theorem dX7_unmap_35 : decode cX7_unmap 35 = .ok (.iload 6, 2) := by decide +kernel
theorem dX7_unmap_37 : decode cX7_unmap 37 = .ok (.iload_n 2, 1) := by decide +kernel
theorem dX7_unmap_38 : decode cX7_unmap 38 = .ok (.iload_n 3, 1) := by decide +kernel
theorem dX7_unmap_39 : decode cX7_unmap 39 = .ok (.iadd, 1) := by decide +kernel
theorem dX7_unmap_40 : decode cX7_unmap 40 = .ok (.if_icmp .ge 21, 3) := by decide +kernel
theorem dX7_unmap_43 : decode cX7_unmap 43 = .ok (.aload_n 0, 1) := by decide +kernel
theorem dX7_unmap_44 : decode cX7_unmap 44 = .ok (.aload 4, 2) := by decide +kernel
theorem dX7_unmap_46 : decode cX7_unmap 46 = .ok (.getfield 93, 3) := by decide +kernel
theorem dX7_unmap_49 : decode cX7_unmap 49 = .ok (.iload 6, 2) := by decide +kernel
theorem dX7_unmap_51 : decode cX7_unmap 51 = .ok (.aaload, 1) := by decide +kernel
theorem dX7_unmap_52 : decode cX7_unmap 52 = .ok (.invokevirtual 107, 3) := by decide +kernel
theorem dX7_unmap_55 : decode cX7_unmap 55 = .ok (.iinc 6 1, 3) := by decide +kernel
theorem dX7_unmap_58 : decode cX7_unmap 58 = .ok (.goto (-23), 3) := by decide +kernel
theorem dX7_unmap_61 : decode cX7_unmap 61 = .ok (.iload 5, 2) := by decide +kernel
theorem dX7_unmap_63 : decode cX7_unmap 63 = .ok (.ireturn, 1) := by decide +kernel
theorem dX7_protect_0 : decode cX7_protect 0 = .ok (.aload_n 0, 1) := by decide +kernel
theorem dX7_protect_1 : decode cX7_protect 1 = .ok (.iload_n 1, 1) := by decide +kernel
theorem dX7_protect_2 : decode cX7_protect 2 = .ok (.invokevirtual 78, 3) := by decide +kernel
theorem dX7_protect_5 : decode cX7_protect 5 = .ok (.astore 5, 2) := by decide +kernel
theorem dX7_protect_7 : decode cX7_protect 7 = .ok (.iload_n 2, 1) := by decide +kernel
theorem dX7_protect_8 : decode cX7_protect 8 = .ok (.iload_n 3, 1) := by decide +kernel
theorem dX7_protect_9 : decode cX7_protect 9 = .ok (.invokestatic 81, 3) := by decide +kernel
theorem dX7_protect_12 : decode cX7_protect 12 = .ok (.ifCond .eq 17, 3) := by decide +kernel
theorem dX7_protect_15 : decode cX7_protect 15 = .ok (.iload 4, 2) := by decide +kernel
theorem dX7_protect_17 : decode cX7_protect 17 = .ok (.iconst 1, 1) := by decide +kernel
theorem dX7_protect_18 : decode cX7_protect 18 = .ok (.iconst 3, 1) := by decide +kernel
theorem dX7_protect_19 : decode cX7_protect 19 = .ok (.invokestatic 56, 3) := by decide +kernel
theorem dX7_protect_22 : decode cX7_protect 22 = .ok (.ifCond .eq 7, 3) := by decide +kernel
theorem dX7_protect_25 : decode cX7_protect 25 = .ok (.iconst 1, 1) := by decide +kernel
theorem dX7_protect_26 : decode cX7_protect 26 = .ok (.goto 4, 3) := by decide +kernel
theorem dX7_protect_29 : decode cX7_protect 29 = .ok (.iconst 0, 1) := by decide +kernel
theorem dX7_protect_30 : decode cX7_protect 30 = .ok (.invokestatic 60, 3) := by decide +kernel
theorem dX7_protect_33 : decode cX7_protect 33 = .ok (.aload 5, 2) := by decide +kernel
theorem dX7_protect_35 : decode cX7_protect 35 = .ok (.getfield 85, 3) := by decide +kernel
theorem dX7_protect_38 : decode cX7_protect 38 = .ok (.invokestatic 68, 3) := by decide +kernel
theorem dX7_protect_41 : decode cX7_protect 41 = .ok (.iload_n 2, 1) := by decide +kernel
theorem dX7_protect_42 : decode cX7_protect 42 = .ok (.istore 6, 2) := by decide +kernel
theorem dX7_protect_44 : decode cX7_protect 44 = .ok (.iload 6, 2) := by decide +kernel
theorem dX7_protect_46 : decode cX7_protect 46 = .ok (.iload_n 2, 1) := by decide +kernel
theorem dX7_protect_47 : decode cX7_protect 47 = .ok (.iload_n 3, 1) := by decide +kernel
theorem dX7_protect_48 : decode cX7_protect 48 = .ok (.iadd, 1) := by decide +kernel
theorem dX7_protect_49 : decode cX7_protect 49 = .ok (.if_icmp .ge 49, 3) := by decide +kernel
theorem dX7_protect_52 : decode cX7_protect 52 = .ok (.aload 5, 2) := by decide +kernel
theorem dX7_protect_54 : decode cX7_protect 54 = .ok (.getfield 93, 3) := by decide +kernel
theorem dX7_protect_57 : decode cX7_protect 57 = .ok (.iload 6, 2) := by decide +kernel
theorem dX7_protect_59 : decode cX7_protect 59 = .ok (.aaload, 1) := by decide +kernel
theorem dX7_protect_60 : decode cX7_protect 60 = .ok (.astore 7, 2) := by decide +kernel
theorem dX7_protect_62 : decode cX7_protect 62 = .ok (.aload 7, 2) := by decide +kernel
theorem dX7_protect_64 : decode cX7_protect 64 = .ok (.getfield 111, 3) := by decide +kernel
theorem dX7_protect_67 : decode cX7_protect 67 = .ok (.ifCond .eq 25, 3) := by decide +kernel
theorem dX7_protect_70 : decode cX7_protect 70 = .ok (.aload 7, 2) := by decide +kernel
theorem dX7_protect_72 : decode cX7_protect 72 = .ok (.iload 4, 2) := by decide +kernel
theorem dX7_protect_74 : decode cX7_protect 74 = .ok (.putfield 113, 3) := by decide +kernel
theorem dX7_protect_77 : decode cX7_protect 77 = .ok (.aload 7, 2) := by decide +kernel
theorem dX7_protect_79 : decode cX7_protect 79 = .ok (.invokevirtual 116, 3) := by decide +kernel
theorem dX7_protect_82 : decode cX7_protect 82 = .ok (.aload_n 0, 1) := by decide +kernel
theorem dX7_protect_83 : decode cX7_protect 83 = .ok (.aload 7, 2) := by decide +kernel
theorem dX7_protect_85 : decode cX7_protect 85 = .ok (.getfield 119, 3) := by decide +kernel
theorem dX7_protect_88 : decode cX7_protect 88 = .ok (.iconst 0, 1) := by decide +kernel
theorem dX7_protect_89 : decode cX7_protect 89 = .ok (.invokevirtual 122, 3) := by decide +kernel
theorem dX7_protect_92 : decode cX7_protect 92 = .ok (.iinc 6 1, 3) := by decide +kernel
theorem dX7_protect_95 : decode cX7_protect 95 = .ok (.goto (-51), 3) := by decide +kernel
theorem dX7_protect_98 : decode cX7_protect 98 = .ok (.aload 5, 2) := by decide +kernel
theorem dX7_protect_100 : decode cX7_protect 100 = .ok (.invokevirtual 103, 3) := by decide +kernel
theorem dX7_protect_103 : decode cX7_protect 103 = .ok (.ireturn, 1) := by decide +kernel
theorem dX7_move_0 : decode cX7_move 0 = .ok (.aload_n 0, 1) := by decide +kernel
theorem dX7_move_1 : decode cX7_move 1 = .ok (.iload_n 1, 1) := by decide +kernel
theorem dX7_move_2 : decode cX7_move 2 = .ok (.invokevirtual 78, 3) := by decide +kernel
theorem dX7_move_5 : decode cX7_move 5 = .ok (.astore 5, 2) := by decide +kernel
theorem dX7_move_7 : decode cX7_move 7 = .ok (.iload_n 2, 1) := by decide +kernel
theorem dX7_move_8 : decode cX7_move 8 = .ok (.iload_n 3, 1) := by decide +kernel
theorem dX7_move_9 : decode cX7_move 9 = .ok (.invokestatic 81, 3) := by decide +kernel
theorem dX7_move_12 : decode cX7_move 12 = .ok (.ifCond .eq 16, 3) := by decide +kernel
theorem dX7_move_15 : decode cX7_move 15 = .ok (.iload 4, 2) := by decide +kernel
theorem dX7_move_17 : decode cX7_move 17 = .ok (.iload_n 3, 1) := by decide +kernel
theorem dX7_move_18 : decode cX7_move 18 = .ok (.invokestatic 81, 3) := by decide +kernel
theorem dX7_move_21 : decode cX7_move 21 = .ok (.ifCond .eq 7, 3) := by decide +kernel
theorem dX7_move_24 : decode cX7_move 24 = .ok (.iconst 1, 1) := by decide +kernel
theorem dX7_move_25 : decode cX7_move 25 = .ok (.goto 4, 3) := by decide +kernel
theorem dX7_move_28 : decode cX7_move 28 = .ok (.iconst 0, 1) := by decide +kernel
theorem dX7_move_29 : decode cX7_move 29 = .ok (.invokestatic 60, 3) := by decide +kernel
theorem dX7_move_32 : decode cX7_move 32 = .ok (.aload 5, 2) := by decide +kernel
theorem dX7_move_34 : decode cX7_move 34 = .ok (.getfield 85, 3) := by decide +kernel
theorem dX7_move_37 : decode cX7_move 37 = .ok (.ifCond .eq 29, 3) := by decide +kernel
theorem dX7_move_40 : decode cX7_move 40 = .ok (.aload 5, 2) := by decide +kernel
theorem dX7_move_42 : decode cX7_move 42 = .ok (.iload_n 2, 1) := by decide +kernel
theorem dX7_move_43 : decode cX7_move 43 = .ok (.iload_n 3, 1) := by decide +kernel
theorem dX7_move_44 : decode cX7_move 44 = .ok (.invokevirtual 89, 3) := by decide +kernel
theorem dX7_move_47 : decode cX7_move 47 = .ok (.iload_n 3, 1) := by decide +kernel
theorem dX7_move_48 : decode cX7_move 48 = .ok (.if_icmp .ne 18, 3) := by decide +kernel
theorem dX7_move_51 : decode cX7_move 51 = .ok (.aload 5, 2) := by decide +kernel
theorem dX7_move_53 : decode cX7_move 53 = .ok (.iload 4, 2) := by decide +kernel
theorem dX7_move_55 : decode cX7_move 55 = .ok (.iload_n 3, 1) := by decide +kernel
theorem dX7_move_56 : decode cX7_move 56 = .ok (.invokevirtual 89, 3) := by decide +kernel
theorem dX7_move_59 : decode cX7_move 59 = .ok (.ifCond .ne 7, 3) := by decide +kernel
theorem dX7_move_62 : decode cX7_move 62 = .ok (.iconst 1, 1) := by decide +kernel
theorem dX7_move_63 : decode cX7_move 63 = .ok (.goto 4, 3) := by decide +kernel
theorem dX7_move_66 : decode cX7_move 66 = .ok (.iconst 0, 1) := by decide +kernel
theorem dX7_move_67 : decode cX7_move 67 = .ok (.invokestatic 68, 3) := by decide +kernel
theorem dX7_move_70 : decode cX7_move 70 = .ok (.iconst 0, 1) := by decide +kernel
theorem dX7_move_71 : decode cX7_move 71 = .ok (.istore 6, 2) := by decide +kernel
theorem dX7_move_73 : decode cX7_move 73 = .ok (.iload 6, 2) := by decide +kernel
theorem dX7_move_75 : decode cX7_move 75 = .ok (.iload_n 3, 1) := by decide +kernel
theorem dX7_move_76 : decode cX7_move 76 = .ok (.if_icmp .ge 52, 3) := by decide +kernel
theorem dX7_move_79 : decode cX7_move 79 = .ok (.aload 5, 2) := by decide +kernel
theorem dX7_move_81 : decode cX7_move 81 = .ok (.getfield 93, 3) := by decide +kernel
theorem dX7_move_84 : decode cX7_move 84 = .ok (.iload_n 2, 1) := by decide +kernel
theorem dX7_move_85 : decode cX7_move 85 = .ok (.iload 6, 2) := by decide +kernel
theorem dX7_move_87 : decode cX7_move 87 = .ok (.iadd, 1) := by decide +kernel
theorem dX7_move_88 : decode cX7_move 88 = .ok (.aaload, 1) := by decide +kernel
theorem dX7_move_89 : decode cX7_move 89 = .ok (.astore 7, 2) := by decide +kernel
theorem dX7_move_91 : decode cX7_move 91 = .ok (.aload 7, 2) := by decide +kernel
theorem dX7_move_93 : decode cX7_move 93 = .ok (.invokevirtual 126, 3) := by decide +kernel
theorem dX7_move_96 : decode cX7_move 96 = .ok (.aload_n 0, 1) := by decide +kernel
theorem dX7_move_97 : decode cX7_move 97 = .ok (.aload 7, 2) := by decide +kernel
theorem dX7_move_99 : decode cX7_move 99 = .ok (.getfield 119, 3) := by decide +kernel
theorem dX7_move_102 : decode cX7_move 102 = .ok (.iconst 0, 1) := by decide +kernel
theorem dX7_move_103 : decode cX7_move 103 = .ok (.invokevirtual 122, 3) := by decide +kernel
theorem dX7_move_106 : decode cX7_move 106 = .ok (.aload 5, 2) := by decide +kernel
theorem dX7_move_108 : decode cX7_move 108 = .ok (.getfield 93, 3) := by decide +kernel
theorem dX7_move_111 : decode cX7_move 111 = .ok (.iload 4, 2) := by decide +kernel
theorem dX7_move_113 : decode cX7_move 113 = .ok (.iload 6, 2) := by decide +kernel
theorem dX7_move_115 : decode cX7_move 115 = .ok (.iadd, 1) := by decide +kernel
theorem dX7_move_116 : decode cX7_move 116 = .ok (.aaload, 1) := by decide +kernel
theorem dX7_move_117 : decode cX7_move 117 = .ok (.aload 7, 2) := by decide +kernel
theorem dX7_move_119 : decode cX7_move 119 = .ok (.invokevirtual 129, 3) := by decide +kernel
theorem dX7_move_122 : decode cX7_move 122 = .ok (.iinc 6 1, 3) := by decide +kernel
theorem dX7_move_125 : decode cX7_move 125 = .ok (.goto (-52), 3) := by decide +kernel
theorem dX7_move_128 : decode cX7_move 128 = .ok (.aload 5, 2) := by decide +kernel
theorem dX7_move_130 : decode cX7_move 130 = .ok (.invokevirtual 103, 3) := by decide +kernel
theorem dX7_move_133 : decode cX7_move 133 = .ok (.ireturn, 1) := by decide +kernel
theorem dX7_fork_0 : decode cX7_fork 0 = .ok (.aload_n 0, 1) := by decide +kernel
theorem dX7_fork_1 : decode cX7_fork 1 = .ok (.iload_n 1, 1) := by decide +kernel
theorem dX7_fork_2 : decode cX7_fork 2 = .ok (.invokevirtual 78, 3) := by decide +kernel
theorem dX7_fork_5 : decode cX7_fork 5 = .ok (.astore_n 2, 1) := by decide +kernel
theorem dX7_fork_6 : decode cX7_fork 6 = .ok (.aload_n 2, 1) := by decide +kernel
theorem dX7_fork_7 : decode cX7_fork 7 = .ok (.getfield 85, 3) := by decide +kernel
theorem dX7_fork_10 : decode cX7_fork 10 = .ok (.ifCond .eq 16, 3) := by decide +kernel
theorem dX7_fork_13 : decode cX7_fork 13 = .ok (.aload_n 0, 1) := by decide +kernel
theorem dX7_fork_14 : decode cX7_fork 14 = .ok (.getfield 64, 3) := by decide +kernel
theorem dX7_fork_17 : decode cX7_fork 17 = .ok (.bipush 6, 2) := by decide +kernel
theorem dX7_fork_19 : decode cX7_fork 19 = .ok (.if_icmp .ge 7, 3) := by decide +kernel
theorem dX7_fork_22 : decode cX7_fork 22 = .ok (.iconst 1, 1) := by decide +kernel
theorem dX7_fork_23 : decode cX7_fork 23 = .ok (.goto 4, 3) := by decide +kernel
theorem dX7_fork_26 : decode cX7_fork 26 = .ok (.iconst 0, 1) := by decide +kernel
theorem dX7_fork_27 : decode cX7_fork 27 = .ok (.invokestatic 68, 3) := by decide +kernel
theorem dX7_fork_30 : decode cX7_fork 30 = .ok (.aload_n 0, 1) := by decide +kernel
theorem dX7_fork_31 : decode cX7_fork 31 = .ok (.aload_n 2, 1) := by decide +kernel
theorem dX7_fork_32 : decode cX7_fork 32 = .ok (.getfield 132, 3) := by decide +kernel
theorem dX7_fork_35 : decode cX7_fork 35 = .ok (.invokevirtual 71, 3) := by decide +kernel
theorem dX7_fork_38 : decode cX7_fork 38 = .ok (.astore_n 3, 1) := by decide +kernel
theorem dX7_fork_39 : decode cX7_fork 39 = .ok (.aload_n 3, 1) := by decide +kernel
theorem dX7_fork_40 : decode cX7_fork 40 = .ok (.aload_n 2, 1) := by decide +kernel
theorem dX7_fork_41 : decode cX7_fork 41 = .ok (.getfield 135, 3) := by decide +kernel
theorem dX7_fork_44 : decode cX7_fork 44 = .ok (.putfield 135, 3) := by decide +kernel
theorem dX7_fork_47 : decode cX7_fork 47 = .ok (.iconst 0, 1) := by decide +kernel
theorem dX7_fork_48 : decode cX7_fork 48 = .ok (.istore 4, 2) := by decide +kernel
theorem dX7_fork_50 : decode cX7_fork 50 = .ok (.iload 4, 2) := by decide +kernel
theorem dX7_fork_52 : decode cX7_fork 52 = .ok (.bipush 32, 2) := by decide +kernel
theorem dX7_fork_54 : decode cX7_fork 54 = .ok (.if_icmp .ge 45, 3) := by decide +kernel
theorem dX7_fork_57 : decode cX7_fork 57 = .ok (.aload_n 2, 1) := by decide +kernel
theorem dX7_fork_58 : decode cX7_fork 58 = .ok (.getfield 93, 3) := by decide +kernel
theorem dX7_fork_61 : decode cX7_fork 61 = .ok (.iload 4, 2) := by decide +kernel
theorem dX7_fork_63 : decode cX7_fork 63 = .ok (.aaload, 1) := by decide +kernel
theorem dX7_fork_64 : decode cX7_fork 64 = .ok (.astore 5, 2) := by decide +kernel
theorem dX7_fork_66 : decode cX7_fork 66 = .ok (.aload 5, 2) := by decide +kernel
theorem dX7_fork_68 : decode cX7_fork 68 = .ok (.invokevirtual 116, 3) := by decide +kernel
theorem dX7_fork_71 : decode cX7_fork 71 = .ok (.aload_n 0, 1) := by decide +kernel
theorem dX7_fork_72 : decode cX7_fork 72 = .ok (.aload 5, 2) := by decide +kernel
theorem dX7_fork_74 : decode cX7_fork 74 = .ok (.getfield 119, 3) := by decide +kernel
theorem dX7_fork_77 : decode cX7_fork 77 = .ok (.iconst 0, 1) := by decide +kernel
theorem dX7_fork_78 : decode cX7_fork 78 = .ok (.invokevirtual 122, 3) := by decide +kernel
theorem dX7_fork_81 : decode cX7_fork 81 = .ok (.aload_n 3, 1) := by decide +kernel
theorem dX7_fork_82 : decode cX7_fork 82 = .ok (.getfield 93, 3) := by decide +kernel
theorem dX7_fork_85 : decode cX7_fork 85 = .ok (.iload 4, 2) := by decide +kernel
theorem dX7_fork_87 : decode cX7_fork 87 = .ok (.aaload, 1) := by decide +kernel
theorem dX7_fork_88 : decode cX7_fork 88 = .ok (.aload 5, 2) := by decide +kernel
theorem dX7_fork_90 : decode cX7_fork 90 = .ok (.invokevirtual 138, 3) := by decide +kernel
theorem dX7_fork_93 : decode cX7_fork 93 = .ok (.iinc 4 1, 3) := by decide +kernel
theorem dX7_fork_96 : decode cX7_fork 96 = .ok (.goto (-46), 3) := by decide +kernel
theorem dX7_fork_99 : decode cX7_fork 99 = .ok (.aload_n 3, 1) := by decide +kernel
theorem dX7_fork_100 : decode cX7_fork 100 = .ok (.getfield 75, 3) := by decide +kernel
theorem dX7_fork_103 : decode cX7_fork 103 = .ok (.ireturn, 1) := by decide +kernel
theorem dX7_end_0 : decode cX7_end 0 = .ok (.aload_n 0, 1) := by decide +kernel
theorem dX7_end_1 : decode cX7_end 1 = .ok (.iload_n 1, 1) := by decide +kernel
theorem dX7_end_2 : decode cX7_end 2 = .ok (.invokevirtual 78, 3) := by decide +kernel
theorem dX7_end_5 : decode cX7_end 5 = .ok (.astore_n 2, 1) := by decide +kernel
theorem dX7_end_6 : decode cX7_end 6 = .ok (.aload_n 2, 1) := by decide +kernel
theorem dX7_end_7 : decode cX7_end 7 = .ok (.getfield 85, 3) := by decide +kernel
theorem dX7_end_10 : decode cX7_end 10 = .ok (.invokestatic 68, 3) := by decide +kernel
theorem dX7_end_13 : decode cX7_end 13 = .ok (.aload_n 2, 1) := by decide +kernel
theorem dX7_end_14 : decode cX7_end 14 = .ok (.iconst 1, 1) := by decide +kernel
theorem dX7_end_15 : decode cX7_end 15 = .ok (.invokevirtual 141, 3) := by decide +kernel
theorem dX7_end_18 : decode cX7_end 18 = .ok (.aload_n 2, 1) := by decide +kernel
theorem dX7_end_19 : decode cX7_end 19 = .ok (.iconst 2, 1) := by decide +kernel
theorem dX7_end_20 : decode cX7_end 20 = .ok (.invokevirtual 141, 3) := by decide +kernel
theorem dX7_end_23 : decode cX7_end 23 = .ok (.iadd, 1) := by decide +kernel
theorem dX7_end_24 : decode cX7_end 24 = .ok (.istore_n 3, 1) := by decide +kernel
theorem dX7_end_25 : decode cX7_end 25 = .ok (.aload_n 0, 1) := by decide +kernel
theorem dX7_end_26 : decode cX7_end 26 = .ok (.aload_n 2, 1) := by decide +kernel
theorem dX7_end_27 : decode cX7_end 27 = .ok (.invokevirtual 145, 3) := by decide +kernel
theorem dX7_end_30 : decode cX7_end 30 = .ok (.iload_n 3, 1) := by decide +kernel
theorem dX7_end_31 : decode cX7_end 31 = .ok (.ireturn, 1) := by decide +kernel
theorem dX7_adjust_0 : decode cX7_adjust 0 = .ok (.aload_n 0, 1) := by decide +kernel
theorem dX7_adjust_1 : decode cX7_adjust 1 = .ok (.iload_n 1, 1) := by decide +kernel
theorem dX7_adjust_2 : decode cX7_adjust 2 = .ok (.invokevirtual 78, 3) := by decide +kernel
theorem dX7_adjust_5 : decode cX7_adjust 5 = .ok (.astore_n 3, 1) := by decide +kernel
theorem dX7_adjust_6 : decode cX7_adjust 6 = .ok (.iload_n 2, 1) := by decide +kernel
theorem dX7_adjust_7 : decode cX7_adjust 7 = .ok (.bipush (-50), 2) := by decide +kernel
theorem dX7_adjust_9 : decode cX7_adjust 9 = .ok (.bipush 50, 2) := by decide +kernel
theorem dX7_adjust_11 : decode cX7_adjust 11 = .ok (.invokestatic 56, 3) := by decide +kernel
theorem dX7_adjust_14 : decode cX7_adjust 14 = .ok (.invokestatic 60, 3) := by decide +kernel
theorem dX7_adjust_17 : decode cX7_adjust 17 = .ok (.aload_n 3, 1) := by decide +kernel
theorem dX7_adjust_18 : decode cX7_adjust 18 = .ok (.getfield 149, 3) := by decide +kernel
theorem dX7_adjust_21 : decode cX7_adjust 21 = .ok (.istore 4, 2) := by decide +kernel
theorem dX7_adjust_23 : decode cX7_adjust 23 = .ok (.aload_n 3, 1) := by decide +kernel
theorem dX7_adjust_24 : decode cX7_adjust 24 = .ok (.iload_n 2, 1) := by decide +kernel
theorem dX7_adjust_25 : decode cX7_adjust 25 = .ok (.putfield 149, 3) := by decide +kernel
theorem dX7_adjust_28 : decode cX7_adjust 28 = .ok (.iload 4, 2) := by decide +kernel
theorem dX7_adjust_30 : decode cX7_adjust 30 = .ok (.ireturn, 1) := by decide +kernel
theorem dX7_limit_0 : decode cX7_limit 0 = .ok (.iload_n 1, 1) := by decide +kernel
theorem dX7_limit_1 : decode cX7_limit 1 = .ok (.iconst 0, 1) := by decide +kernel
theorem dX7_limit_2 : decode cX7_limit 2 = .ok (.iconst 2, 1) := by decide +kernel
theorem dX7_limit_3 : decode cX7_limit 3 = .ok (.invokestatic 56, 3) := by decide +kernel
theorem dX7_limit_6 : decode cX7_limit 6 = .ok (.ifCond .eq 22, 3) := by decide +kernel
theorem dX7_limit_9 : decode cX7_limit 9 = .ok (.iload_n 2, 1) := by decide +kernel
theorem dX7_limit_10 : decode cX7_limit 10 = .ok (.iconst (-1), 1) := by decide +kernel
theorem dX7_limit_11 : decode cX7_limit 11 = .ok (.if_icmp .eq 13, 3) := by decide +kernel
theorem dX7_limit_14 : decode cX7_limit 14 = .ok (.iload_n 2, 1) := by decide +kernel
theorem dX7_limit_15 : decode cX7_limit 15 = .ok (.iconst 1, 1) := by decide +kernel
theorem dX7_limit_16 : decode cX7_limit 16 = .ok (.bipush 24, 2) := by decide +kernel
theorem dX7_limit_18 : decode cX7_limit 18 = .ok (.invokestatic 56, 3) := by decide +kernel
theorem dX7_limit_21 : decode cX7_limit 21 = .ok (.ifCond .eq 7, 3) := by decide +kernel
theorem dX7_limit_24 : decode cX7_limit 24 = .ok (.iconst 1, 1) := by decide +kernel
theorem dX7_limit_25 : decode cX7_limit 25 = .ok (.goto 4, 3) := by decide +kernel
theorem dX7_limit_28 : decode cX7_limit 28 = .ok (.iconst 0, 1) := by decide +kernel
theorem dX7_limit_29 : decode cX7_limit 29 = .ok (.invokestatic 60, 3) := by decide +kernel
theorem dX7_limit_32 : decode cX7_limit 32 = .ok (.aload_n 0, 1) := by decide +kernel
theorem dX7_limit_33 : decode cX7_limit 33 = .ok (.getfield 45, 3) := by decide +kernel
theorem dX7_limit_36 : decode cX7_limit 36 = .ok (.iload_n 1, 1) := by decide +kernel
theorem dX7_limit_37 : decode cX7_limit 37 = .ok (.iload_n 2, 1) := by decide +kernel
theorem dX7_limit_38 : decode cX7_limit 38 = .ok (.iastore, 1) := by decide +kernel
theorem dX7_limit_39 : decode cX7_limit 39 = .ok (.aload_n 0, 1) := by decide +kernel
theorem dX7_limit_40 : decode cX7_limit 40 = .ok (.iload_n 1, 1) := by decide +kernel
theorem dX7_limit_41 : decode cX7_limit 41 = .ok (.invokevirtual 152, 3) := by decide +kernel
theorem dX7_limit_44 : decode cX7_limit 44 = .ok (.ireturn, 1) := by decide +kernel
theorem dX7_load_0 : decode cX7_load 0 = .ok (.aload_n 0, 1) := by decide +kernel
theorem dX7_load_1 : decode cX7_load 1 = .ok (.iload_n 1, 1) := by decide +kernel
theorem dX7_load_2 : decode cX7_load 2 = .ok (.invokevirtual 155, 3) := by decide +kernel
theorem dX7_load_5 : decode cX7_load 5 = .ok (.astore 4, 2) := by decide +kernel
theorem dX7_load_7 : decode cX7_load 7 = .ok (.aload_n 0, 1) := by decide +kernel
theorem dX7_load_8 : decode cX7_load 8 = .ok (.iload_n 2, 1) := by decide +kernel
theorem dX7_load_9 : decode cX7_load 9 = .ok (.invokevirtual 78, 3) := by decide +kernel
theorem dX7_load_12 : decode cX7_load 12 = .ok (.astore 5, 2) := by decide +kernel
theorem dX7_load_14 : decode cX7_load 14 = .ok (.iload_n 3, 1) := by decide +kernel
theorem dX7_load_15 : decode cX7_load 15 = .ok (.iconst 0, 1) := by decide +kernel
theorem dX7_load_16 : decode cX7_load 16 = .ok (.bipush 31, 2) := by decide +kernel
theorem dX7_load_18 : decode cX7_load 18 = .ok (.invokestatic 56, 3) := by decide +kernel
theorem dX7_load_21 : decode cX7_load 21 = .ok (.invokestatic 60, 3) := by decide +kernel
theorem dX7_load_24 : decode cX7_load 24 = .ok (.aload 5, 2) := by decide +kernel
theorem dX7_load_26 : decode cX7_load 26 = .ok (.getfield 85, 3) := by decide +kernel
theorem dX7_load_29 : decode cX7_load 29 = .ok (.invokestatic 68, 3) := by decide +kernel
theorem dX7_load_32 : decode cX7_load 32 = .ok (.aload_n 0, 1) := by decide +kernel
theorem dX7_load_33 : decode cX7_load 33 = .ok (.aload 4, 2) := by decide +kernel
theorem dX7_load_35 : decode cX7_load 35 = .ok (.aload 5, 2) := by decide +kernel
theorem dX7_load_37 : decode cX7_load 37 = .ok (.iload_n 3, 1) := by decide +kernel
theorem dX7_load_38 : decode cX7_load 38 = .ok (.iconst (-1), 1) := by decide +kernel
theorem dX7_load_39 : decode cX7_load 39 = .ok (.invokevirtual 159, 3) := by decide +kernel
theorem dX7_load_42 : decode cX7_load 42 = .ok (.ireturn, 1) := by decide +kernel
theorem dX7_store_0 : decode cX7_store 0 = .ok (.aload_n 0, 1) := by decide +kernel
theorem dX7_store_1 : decode cX7_store 1 = .ok (.iload_n 1, 1) := by decide +kernel
theorem dX7_store_2 : decode cX7_store 2 = .ok (.invokevirtual 155, 3) := by decide +kernel
theorem dX7_store_5 : decode cX7_store 5 = .ok (.astore 5, 2) := by decide +kernel
theorem dX7_store_7 : decode cX7_store 7 = .ok (.aload_n 0, 1) := by decide +kernel
theorem dX7_store_8 : decode cX7_store 8 = .ok (.iload_n 2, 1) := by decide +kernel
theorem dX7_store_9 : decode cX7_store 9 = .ok (.invokevirtual 78, 3) := by decide +kernel
theorem dX7_store_12 : decode cX7_store 12 = .ok (.astore 6, 2) := by decide +kernel
theorem dX7_store_14 : decode cX7_store 14 = .ok (.iload_n 3, 1) := by decide +kernel
theorem dX7_store_15 : decode cX7_store 15 = .ok (.iconst 0, 1) := by decide +kernel
theorem dX7_store_16 : decode cX7_store 16 = .ok (.bipush 31, 2) := by decide +kernel
theorem dX7_store_18 : decode cX7_store 18 = .ok (.invokestatic 56, 3) := by decide +kernel
theorem dX7_store_21 : decode cX7_store 21 = .ok (.ifCond .eq 18, 3) := by decide +kernel
theorem dX7_store_24 : decode cX7_store 24 = .ok (.iload 4, 2) := by decide +kernel
theorem dX7_store_26 : decode cX7_store 26 = .ok (.iconst 0, 1) := by decide +kernel
theorem dX7_store_27 : decode cX7_store 27 = .ok (.ldc 163, 2) := by decide +kernel
theorem dX7_store_29 : decode cX7_store 29 = .ok (.invokestatic 56, 3) := by decide +kernel
theorem dX7_store_32 : decode cX7_store 32 = .ok (.ifCond .eq 7, 3) := by decide +kernel
theorem dX7_store_35 : decode cX7_store 35 = .ok (.iconst 1, 1) := by decide +kernel
theorem dX7_store_36 : decode cX7_store 36 = .ok (.goto 4, 3) := by decide +kernel
theorem dX7_store_39 : decode cX7_store 39 = .ok (.iconst 0, 1) := by decide +kernel
theorem dX7_store_40 : decode cX7_store 40 = .ok (.invokestatic 60, 3) := by decide +kernel
theorem dX7_store_43 : decode cX7_store 43 = .ok (.aload 6, 2) := by decide +kernel
theorem dX7_store_45 : decode cX7_store 45 = .ok (.getfield 85, 3) := by decide +kernel
theorem dX7_store_48 : decode cX7_store 48 = .ok (.invokestatic 68, 3) := by decide +kernel
theorem dX7_store_51 : decode cX7_store 51 = .ok (.aload_n 0, 1) := by decide +kernel
theorem dX7_store_52 : decode cX7_store 52 = .ok (.aload 5, 2) := by decide +kernel
theorem dX7_store_54 : decode cX7_store 54 = .ok (.aload 6, 2) := by decide +kernel
theorem dX7_store_56 : decode cX7_store 56 = .ok (.iload_n 3, 1) := by decide +kernel
theorem dX7_store_57 : decode cX7_store 57 = .ok (.iload 4, 2) := by decide +kernel
theorem dX7_store_59 : decode cX7_store 59 = .ok (.invokevirtual 159, 3) := by decide +kernel
theorem dX7_store_62 : decode cX7_store 62 = .ok (.ireturn, 1) := by decide +kernel
theorem dX7_read_0 : decode cX7_read 0 = .ok (.iload_n 1, 1) := by decide +kernel
theorem dX7_read_1 : decode cX7_read 1 = .ok (.iload_n 2, 1) := by decide +kernel
theorem dX7_read_2 : decode cX7_read 2 = .ok (.invokestatic 164, 3) := by decide +kernel
theorem dX7_read_5 : decode cX7_read 5 = .ok (.invokestatic 60, 3) := by decide +kernel
theorem dX7_read_8 : decode cX7_read 8 = .ok (.aload_n 0, 1) := by decide +kernel
theorem dX7_read_9 : decode cX7_read 9 = .ok (.iload_n 1, 1) := by decide +kernel
theorem dX7_read_10 : decode cX7_read 10 = .ok (.iload_n 2, 1) := by decide +kernel
theorem dX7_read_11 : decode cX7_read 11 = .ok (.iconst (-1), 1) := by decide +kernel
theorem dX7_read_12 : decode cX7_read 12 = .ok (.invokevirtual 167, 3) := by decide +kernel
theorem dX7_read_15 : decode cX7_read 15 = .ok (.ireturn, 1) := by decide +kernel
theorem dX7_write_0 : decode cX7_write 0 = .ok (.iload_n 1, 1) := by decide +kernel
theorem dX7_write_1 : decode cX7_write 1 = .ok (.iload_n 2, 1) := by decide +kernel
theorem dX7_write_2 : decode cX7_write 2 = .ok (.invokestatic 164, 3) := by decide +kernel
theorem dX7_write_5 : decode cX7_write 5 = .ok (.ifCond .eq 17, 3) := by decide +kernel
theorem dX7_write_8 : decode cX7_write 8 = .ok (.iload_n 3, 1) := by decide +kernel
theorem dX7_write_9 : decode cX7_write 9 = .ok (.iconst 0, 1) := by decide +kernel
theorem dX7_write_10 : decode cX7_write 10 = .ok (.ldc 163, 2) := by decide +kernel
theorem dX7_write_12 : decode cX7_write 12 = .ok (.invokestatic 56, 3) := by decide +kernel
theorem dX7_write_15 : decode cX7_write 15 = .ok (.ifCond .eq 7, 3) := by decide +kernel
theorem dX7_write_18 : decode cX7_write 18 = .ok (.iconst 1, 1) := by decide +kernel
theorem dX7_write_19 : decode cX7_write 19 = .ok (.goto 4, 3) := by decide +kernel
theorem dX7_write_22 : decode cX7_write 22 = .ok (.iconst 0, 1) := by decide +kernel
theorem dX7_write_23 : decode cX7_write 23 = .ok (.invokestatic 60, 3) := by decide +kernel
theorem dX7_write_26 : decode cX7_write 26 = .ok (.aload_n 0, 1) := by decide +kernel
theorem dX7_write_27 : decode cX7_write 27 = .ok (.iload_n 1, 1) := by decide +kernel
theorem dX7_write_28 : decode cX7_write 28 = .ok (.iload_n 2, 1) := by decide +kernel
theorem dX7_write_29 : decode cX7_write 29 = .ok (.iload_n 3, 1) := by decide +kernel
theorem dX7_write_30 : decode cX7_write 30 = .ok (.invokevirtual 167, 3) := by decide +kernel
theorem dX7_write_33 : decode cX7_write 33 = .ok (.ireturn, 1) := by decide +kernel
theorem dX7_sync_0 : decode cX7_sync 0 = .ok (.iload_n 1, 1) := by decide +kernel
theorem dX7_sync_1 : decode cX7_sync 1 = .ok (.iconst 0, 1) := by decide +kernel
theorem dX7_sync_2 : decode cX7_sync 2 = .ok (.iconst 2, 1) := by decide +kernel
theorem dX7_sync_3 : decode cX7_sync 3 = .ok (.invokestatic 56, 3) := by decide +kernel
theorem dX7_sync_6 : decode cX7_sync 6 = .ok (.invokestatic 60, 3) := by decide +kernel
theorem dX7_sync_9 : decode cX7_sync 9 = .ok (.iconst 0, 1) := by decide +kernel
theorem dX7_sync_10 : decode cX7_sync 10 = .ok (.istore_n 2, 1) := by decide +kernel
theorem dX7_sync_11 : decode cX7_sync 11 = .ok (.aload_n 0, 1) := by decide +kernel
theorem dX7_sync_12 : decode cX7_sync 12 = .ok (.getfield 17, 3) := by decide +kernel
theorem dX7_sync_15 : decode cX7_sync 15 = .ok (.astore_n 3, 1) := by decide +kernel
theorem dX7_sync_16 : decode cX7_sync 16 = .ok (.aload_n 3, 1) := by decide +kernel
theorem dX7_sync_17 : decode cX7_sync 17 = .ok (.arraylength, 1) := by decide +kernel
theorem dX7_sync_18 : decode cX7_sync 18 = .ok (.istore 4, 2) := by decide +kernel
theorem dX7_sync_20 : decode cX7_sync 20 = .ok (.iconst 0, 1) := by decide +kernel
theorem dX7_sync_21 : decode cX7_sync 21 = .ok (.istore 5, 2) := by decide +kernel
theorem dX7_sync_23 : decode cX7_sync 23 = .ok (.iload 5, 2) := by decide +kernel
theorem dX7_sync_25 : decode cX7_sync 25 = .ok (.iload 4, 2) := by decide +kernel
theorem dX7_sync_27 : decode cX7_sync 27 = .ok (.if_icmp .ge 56, 3) := by decide +kernel
theorem dX7_sync_30 : decode cX7_sync 30 = .ok (.aload_n 3, 1) := by decide +kernel
theorem dX7_sync_31 : decode cX7_sync 31 = .ok (.iload 5, 2) := by decide +kernel
theorem dX7_sync_33 : decode cX7_sync 33 = .ok (.aaload, 1) := by decide +kernel
theorem dX7_sync_34 : decode cX7_sync 34 = .ok (.astore 6, 2) := by decide +kernel
theorem dX7_sync_36 : decode cX7_sync 36 = .ok (.aload 6, 2) := by decide +kernel
theorem dX7_sync_38 : decode cX7_sync 38 = .ok (.getfield 171, 3) := by decide +kernel
theorem dX7_sync_41 : decode cX7_sync 41 = .ok (.iconst 2, 1) := by decide +kernel
theorem dX7_sync_42 : decode cX7_sync 42 = .ok (.if_icmp .ne 35, 3) := by decide +kernel
theorem dX7_sync_45 : decode cX7_sync 45 = .ok (.aload 6, 2) := by decide +kernel
theorem dX7_sync_47 : decode cX7_sync 47 = .ok (.getfield 174, 3) := by decide +kernel
theorem dX7_sync_50 : decode cX7_sync 50 = .ok (.iload_n 1, 1) := by decide +kernel
theorem dX7_sync_51 : decode cX7_sync 51 = .ok (.if_icmp .ne 26, 3) := by decide +kernel
theorem dX7_sync_54 : decode cX7_sync 54 = .ok (.aload 6, 2) := by decide +kernel
theorem dX7_sync_56 : decode cX7_sync 56 = .ok (.getfield 177, 3) := by decide +kernel
theorem dX7_sync_59 : decode cX7_sync 59 = .ok (.ifCond .eq 18, 3) := by decide +kernel
theorem dX7_sync_62 : decode cX7_sync 62 = .ok (.iinc 2 1, 3) := by decide +kernel
theorem dX7_sync_65 : decode cX7_sync 65 = .ok (.aload_n 0, 1) := by decide +kernel
theorem dX7_sync_66 : decode cX7_sync 66 = .ok (.aload 6, 2) := by decide +kernel
theorem dX7_sync_68 : decode cX7_sync 68 = .ok (.invokevirtual 180, 3) := by decide +kernel
theorem dX7_sync_71 : decode cX7_sync 71 = .ok (.aload_n 0, 1) := by decide +kernel
theorem dX7_sync_72 : decode cX7_sync 72 = .ok (.aload 6, 2) := by decide +kernel
theorem dX7_sync_74 : decode cX7_sync 74 = .ok (.invokevirtual 184, 3) := by decide +kernel
theorem dX7_sync_77 : decode cX7_sync 77 = .ok (.iinc 5 1, 3) := by decide +kernel
theorem dX7_sync_80 : decode cX7_sync 80 = .ok (.goto (-57), 3) := by decide +kernel
theorem dX7_sync_83 : decode cX7_sync 83 = .ok (.iload_n 2, 1) := by decide +kernel
theorem dX7_sync_84 : decode cX7_sync 84 = .ok (.ireturn, 1) := by decide +kernel
theorem dX7_disk_0 : decode cX7_disk 0 = .ok (.iload_n 1, 1) := by decide +kernel
theorem dX7_disk_1 : decode cX7_disk 1 = .ok (.iload_n 2, 1) := by decide +kernel
theorem dX7_disk_2 : decode cX7_disk 2 = .ok (.invokestatic 164, 3) := by decide +kernel
theorem dX7_disk_5 : decode cX7_disk 5 = .ok (.invokestatic 60, 3) := by decide +kernel
theorem dX7_disk_8 : decode cX7_disk 8 = .ok (.aload_n 0, 1) := by decide +kernel
theorem dX7_disk_9 : decode cX7_disk 9 = .ok (.getfield 34, 3) := by decide +kernel
theorem dX7_disk_12 : decode cX7_disk 12 = .ok (.iload_n 1, 1) := by decide +kernel
theorem dX7_disk_13 : decode cX7_disk 13 = .ok (.bipush 8, 2) := by decide +kernel
theorem dX7_disk_15 : decode cX7_disk 15 = .ok (.imul, 1) := by decide +kernel
theorem dX7_disk_16 : decode cX7_disk 16 = .ok (.iload_n 2, 1) := by decide +kernel
theorem dX7_disk_17 : decode cX7_disk 17 = .ok (.iadd, 1) := by decide +kernel
theorem dX7_disk_18 : decode cX7_disk 18 = .ok (.iaload, 1) := by decide +kernel
theorem dX7_disk_19 : decode cX7_disk 19 = .ok (.ireturn, 1) := by decide +kernel
theorem dX7_reclaim_0 : decode cX7_reclaim 0 = .ok (.iload_n 1, 1) := by decide +kernel
theorem dX7_reclaim_1 : decode cX7_reclaim 1 = .ok (.iconst 1, 1) := by decide +kernel
theorem dX7_reclaim_2 : decode cX7_reclaim 2 = .ok (.bipush 24, 2) := by decide +kernel
theorem dX7_reclaim_4 : decode cX7_reclaim 4 = .ok (.invokestatic 56, 3) := by decide +kernel
theorem dX7_reclaim_7 : decode cX7_reclaim 7 = .ok (.invokestatic 60, 3) := by decide +kernel
theorem dX7_reclaim_10 : decode cX7_reclaim 10 = .ok (.iconst 0, 1) := by decide +kernel
theorem dX7_reclaim_11 : decode cX7_reclaim 11 = .ok (.istore_n 2, 1) := by decide +kernel
theorem dX7_reclaim_12 : decode cX7_reclaim 12 = .ok (.iload_n 2, 1) := by decide +kernel
theorem dX7_reclaim_13 : decode cX7_reclaim 13 = .ok (.iload_n 1, 1) := by decide +kernel
theorem dX7_reclaim_14 : decode cX7_reclaim 14 = .ok (.if_icmp .ge 17, 3) := by decide +kernel
theorem dX7_reclaim_17 : decode cX7_reclaim 17 = .ok (.aload_n 0, 1) := by decide +kernel
theorem dX7_reclaim_18 : decode cX7_reclaim 18 = .ok (.iconst (-1), 1) := by decide +kernel
theorem dX7_reclaim_19 : decode cX7_reclaim 19 = .ok (.invokevirtual 187, 3) := by decide +kernel
theorem dX7_reclaim_22 : decode cX7_reclaim 22 = .ok (.ifCond .eq 9, 3) := by decide +kernel
theorem dX7_reclaim_25 : decode cX7_reclaim 25 = .ok (.iinc 2 1, 3) := by decide +kernel
theorem dX7_reclaim_28 : decode cX7_reclaim 28 = .ok (.goto (-16), 3) := by decide +kernel
theorem dX7_reclaim_31 : decode cX7_reclaim 31 = .ok (.iload_n 2, 1) := by decide +kernel
theorem dX7_reclaim_32 : decode cX7_reclaim 32 = .ok (.ireturn, 1) := by decide +kernel
theorem dX7_handle_0 : decode cX7_handle 0 = .ok (.aload_n 0, 1) := by decide +kernel
theorem dX7_handle_1 : decode cX7_handle 1 = .ok (.iload_n 1, 1) := by decide +kernel
theorem dX7_handle_2 : decode cX7_handle 2 = .ok (.invokevirtual 155, 3) := by decide +kernel
theorem dX7_handle_5 : decode cX7_handle 5 = .ok (.invokevirtual 191, 3) := by decide +kernel
theorem dX7_handle_8 : decode cX7_handle 8 = .ok (.ireturn, 1) := by decide +kernel
theorem dX7_join_0 : decode cX7_join 0 = .ok (.aload_n 0, 1) := by decide +kernel
theorem dX7_join_1 : decode cX7_join 1 = .ok (.iload_n 1, 1) := by decide +kernel
theorem dX7_join_2 : decode cX7_join 2 = .ok (.invokevirtual 78, 3) := by decide +kernel
theorem dX7_join_5 : decode cX7_join 5 = .ok (.astore_n 3, 1) := by decide +kernel
theorem dX7_join_6 : decode cX7_join 6 = .ok (.iload_n 2, 1) := by decide +kernel
theorem dX7_join_7 : decode cX7_join 7 = .ok (.iconst 0, 1) := by decide +kernel
theorem dX7_join_8 : decode cX7_join 8 = .ok (.bipush 28, 2) := by decide +kernel
theorem dX7_join_10 : decode cX7_join 10 = .ok (.invokestatic 56, 3) := by decide +kernel
theorem dX7_join_13 : decode cX7_join 13 = .ok (.ifCond .eq 13, 3) := by decide +kernel
theorem dX7_join_16 : decode cX7_join 16 = .ok (.iload_n 2, 1) := by decide +kernel
theorem dX7_join_17 : decode cX7_join 17 = .ok (.iconst 4, 1) := by decide +kernel
theorem dX7_join_18 : decode cX7_join 18 = .ok (.irem, 1) := by decide +kernel
theorem dX7_join_19 : decode cX7_join 19 = .ok (.ifCond .ne 7, 3) := by decide +kernel
theorem dX7_join_22 : decode cX7_join 22 = .ok (.iconst 1, 1) := by decide +kernel
theorem dX7_join_23 : decode cX7_join 23 = .ok (.goto 4, 3) := by decide +kernel
theorem dX7_join_26 : decode cX7_join 26 = .ok (.iconst 0, 1) := by decide +kernel
theorem dX7_join_27 : decode cX7_join 27 = .ok (.invokestatic 60, 3) := by decide +kernel
theorem dX7_join_30 : decode cX7_join 30 = .ok (.aload_n 3, 1) := by decide +kernel
theorem dX7_join_31 : decode cX7_join 31 = .ok (.getfield 93, 3) := by decide +kernel
theorem dX7_join_34 : decode cX7_join 34 = .ok (.iload_n 2, 1) := by decide +kernel
theorem dX7_join_35 : decode cX7_join 35 = .ok (.aaload, 1) := by decide +kernel
theorem dX7_join_36 : decode cX7_join 36 = .ok (.getfield 119, 3) := by decide +kernel
theorem dX7_join_39 : decode cX7_join 39 = .ok (.istore 4, 2) := by decide +kernel
theorem dX7_join_41 : decode cX7_join 41 = .ok (.aload_n 0, 1) := by decide +kernel
theorem dX7_join_42 : decode cX7_join 42 = .ok (.iload 4, 2) := by decide +kernel
theorem dX7_join_44 : decode cX7_join 44 = .ok (.invokevirtual 194, 3) := by decide +kernel
theorem dX7_join_47 : decode cX7_join 47 = .ok (.ifCond .ne 15, 3) := by decide +kernel
theorem dX7_join_50 : decode cX7_join 50 = .ok (.aload_n 3, 1) := by decide +kernel
theorem dX7_join_51 : decode cX7_join 51 = .ok (.iload_n 2, 1) := by decide +kernel
theorem dX7_join_52 : decode cX7_join 52 = .ok (.invokestatic 197, 3) := by decide +kernel
theorem dX7_join_55 : decode cX7_join 55 = .ok (.ifCond .eq 7, 3) := by decide +kernel
theorem dX7_join_58 : decode cX7_join 58 = .ok (.iconst 1, 1) := by decide +kernel
theorem dX7_join_59 : decode cX7_join 59 = .ok (.goto 4, 3) := by decide +kernel
theorem dX7_join_62 : decode cX7_join 62 = .ok (.iconst 0, 1) := by decide +kernel
theorem dX7_join_63 : decode cX7_join 63 = .ok (.invokestatic 68, 3) := by decide +kernel
theorem dX7_join_66 : decode cX7_join 66 = .ok (.aload_n 0, 1) := by decide +kernel
theorem dX7_join_67 : decode cX7_join 67 = .ok (.iload 4, 2) := by decide +kernel
theorem dX7_join_69 : decode cX7_join 69 = .ok (.iconst 1, 1) := by decide +kernel
theorem dX7_join_70 : decode cX7_join 70 = .ok (.invokevirtual 122, 3) := by decide +kernel
theorem dX7_join_73 : decode cX7_join 73 = .ok (.aload_n 0, 1) := by decide +kernel
theorem dX7_join_74 : decode cX7_join 74 = .ok (.aload_n 3, 1) := by decide +kernel
theorem dX7_join_75 : decode cX7_join 75 = .ok (.invokevirtual 201, 3) := by decide +kernel
theorem dX7_join_78 : decode cX7_join 78 = .ok (.ireturn, 1) := by decide +kernel
theorem dX7_merge_0 : decode cX7_merge 0 = .ok (.aload_n 0, 1) := by decide +kernel
theorem dX7_merge_1 : decode cX7_merge 1 = .ok (.iload_n 1, 1) := by decide +kernel
theorem dX7_merge_2 : decode cX7_merge 2 = .ok (.invokevirtual 78, 3) := by decide +kernel
theorem dX7_merge_5 : decode cX7_merge 5 = .ok (.iload_n 2, 1) := by decide +kernel
theorem dX7_merge_6 : decode cX7_merge 6 = .ok (.putfield 135, 3) := by decide +kernel
theorem dX7_merge_9 : decode cX7_merge 9 = .ok (.return_, 1) := by decide +kernel
theorem dX7_scan_0 : decode cX7_scan 0 = .ok (.iload_n 1, 1) := by decide +kernel
theorem dX7_scan_1 : decode cX7_scan 1 = .ok (.iconst 1, 1) := by decide +kernel
theorem dX7_scan_2 : decode cX7_scan 2 = .ok (.sipush 192, 3) := by decide +kernel
theorem dX7_scan_5 : decode cX7_scan 5 = .ok (.invokestatic 56, 3) := by decide +kernel
theorem dX7_scan_8 : decode cX7_scan 8 = .ok (.invokestatic 60, 3) := by decide +kernel
theorem dX7_scan_11 : decode cX7_scan 11 = .ok (.iconst 0, 1) := by decide +kernel
theorem dX7_scan_12 : decode cX7_scan 12 = .ok (.istore_n 2, 1) := by decide +kernel
theorem dX7_scan_13 : decode cX7_scan 13 = .ok (.iconst 0, 1) := by decide +kernel
theorem dX7_scan_14 : decode cX7_scan 14 = .ok (.istore_n 3, 1) := by decide +kernel
theorem dX7_scan_15 : decode cX7_scan 15 = .ok (.aload_n 0, 1) := by decide +kernel
theorem dX7_scan_16 : decode cX7_scan 16 = .ok (.invokevirtual 205, 3) := by decide +kernel
theorem dX7_scan_19 : decode cX7_scan 19 = .ok (.istore 4, 2) := by decide +kernel
theorem dX7_scan_21 : decode cX7_scan 21 = .ok (.iconst 0, 1) := by decide +kernel
theorem dX7_scan_22 : decode cX7_scan 22 = .ok (.istore 5, 2) := by decide +kernel
theorem dX7_scan_24 : decode cX7_scan 24 = .ok (.iload 4, 2) := by decide +kernel
theorem dX7_scan_26 : decode cX7_scan 26 = .ok (.ifCond .eq 121, 3) := by decide +kernel
theorem dX7_scan_29 : decode cX7_scan 29 = .ok (.iload_n 3, 1) := by decide +kernel
theorem dX7_scan_30 : decode cX7_scan 30 = .ok (.iload_n 1, 1) := by decide +kernel
theorem dX7_scan_31 : decode cX7_scan 31 = .ok (.if_icmp .ge 116, 3) := by decide +kernel
theorem dX7_scan_34 : decode cX7_scan 34 = .ok (.iload 5, 2) := by decide +kernel
theorem dX7_scan_36 : decode cX7_scan 36 = .ok (.ldc 209, 2) := by decide +kernel
theorem dX7_scan_38 : decode cX7_scan 38 = .ok (.if_icmp .ge 109, 3) := by decide +kernel
theorem dX7_scan_41 : decode cX7_scan 41 = .ok (.aload_n 0, 1) := by decide +kernel
theorem dX7_scan_42 : decode cX7_scan 42 = .ok (.getfield 210, 3) := by decide +kernel
theorem dX7_scan_45 : decode cX7_scan 45 = .ok (.bipush 6, 2) := by decide +kernel
theorem dX7_scan_47 : decode cX7_scan 47 = .ok (.if_icmp .ge 75, 3) := by decide +kernel
theorem dX7_scan_50 : decode cX7_scan 50 = .ok (.aload_n 0, 1) := by decide +kernel
theorem dX7_scan_51 : decode cX7_scan 51 = .ok (.getfield 213, 3) := by decide +kernel
theorem dX7_scan_54 : decode cX7_scan 54 = .ok (.bipush 32, 2) := by decide +kernel
theorem dX7_scan_56 : decode cX7_scan 56 = .ok (.if_icmp .ge 66, 3) := by decide +kernel
theorem dX7_scan_59 : decode cX7_scan 59 = .ok (.aload_n 0, 1) := by decide +kernel
theorem dX7_scan_60 : decode cX7_scan 60 = .ok (.getfield 11, 3) := by decide +kernel
theorem dX7_scan_63 : decode cX7_scan 63 = .ok (.aload_n 0, 1) := by decide +kernel
theorem dX7_scan_64 : decode cX7_scan 64 = .ok (.getfield 210, 3) := by decide +kernel
theorem dX7_scan_67 : decode cX7_scan 67 = .ok (.aaload, 1) := by decide +kernel
theorem dX7_scan_68 : decode cX7_scan 68 = .ok (.invokevirtual 216, 3) := by decide +kernel
theorem dX7_scan_71 : decode cX7_scan 71 = .ok (.ifCond .eq 51, 3) := by decide +kernel
theorem dX7_scan_74 : decode cX7_scan 74 = .ok (.iload_n 2, 1) := by decide +kernel
theorem dX7_scan_75 : decode cX7_scan 75 = .ok (.aload_n 0, 1) := by decide +kernel
theorem dX7_scan_76 : decode cX7_scan 76 = .ok (.aload_n 0, 1) := by decide +kernel
theorem dX7_scan_77 : decode cX7_scan 77 = .ok (.getfield 11, 3) := by decide +kernel
theorem dX7_scan_80 : decode cX7_scan 80 = .ok (.aload_n 0, 1) := by decide +kernel
theorem dX7_scan_81 : decode cX7_scan 81 = .ok (.getfield 210, 3) := by decide +kernel
theorem dX7_scan_84 : decode cX7_scan 84 = .ok (.aaload, 1) := by decide +kernel
theorem dX7_scan_85 : decode cX7_scan 85 = .ok (.getfield 93, 3) := by decide +kernel
theorem dX7_scan_88 : decode cX7_scan 88 = .ok (.aload_n 0, 1) := by decide +kernel
theorem dX7_scan_89 : decode cX7_scan 89 = .ok (.getfield 213, 3) := by decide +kernel
theorem dX7_scan_92 : decode cX7_scan 92 = .ok (.aaload, 1) := by decide +kernel
theorem dX7_scan_93 : decode cX7_scan 93 = .ok (.invokevirtual 219, 3) := by decide +kernel
theorem dX7_scan_96 : decode cX7_scan 96 = .ok (.ifCond .eq 7, 3) := by decide +kernel
theorem dX7_scan_99 : decode cX7_scan 99 = .ok (.iconst 1, 1) := by decide +kernel
theorem dX7_scan_100 : decode cX7_scan 100 = .ok (.goto 4, 3) := by decide +kernel
theorem dX7_scan_103 : decode cX7_scan 103 = .ok (.iconst 0, 1) := by decide +kernel
theorem dX7_scan_104 : decode cX7_scan 104 = .ok (.iadd, 1) := by decide +kernel
theorem dX7_scan_105 : decode cX7_scan 105 = .ok (.istore_n 2, 1) := by decide +kernel
theorem dX7_scan_106 : decode cX7_scan 106 = .ok (.iinc 3 1, 3) := by decide +kernel
theorem dX7_scan_109 : decode cX7_scan 109 = .ok (.aload_n 0, 1) := by decide +kernel
theorem dX7_scan_110 : decode cX7_scan 110 = .ok (.dup, 1) := by decide +kernel
theorem dX7_scan_111 : decode cX7_scan 111 = .ok (.getfield 213, 3) := by decide +kernel
theorem dX7_scan_114 : decode cX7_scan 114 = .ok (.iconst 1, 1) := by decide +kernel
theorem dX7_scan_115 : decode cX7_scan 115 = .ok (.iadd, 1) := by decide +kernel
theorem dX7_scan_116 : decode cX7_scan 116 = .ok (.putfield 213, 3) := by decide +kernel
theorem dX7_scan_119 : decode cX7_scan 119 = .ok (.goto 9, 3) := by decide +kernel
theorem dX7_scan_122 : decode cX7_scan 122 = .ok (.aload_n 0, 1) := by decide +kernel
theorem dX7_scan_123 : decode cX7_scan 123 = .ok (.bipush 32, 2) := by decide +kernel
theorem dX7_scan_125 : decode cX7_scan 125 = .ok (.putfield 213, 3) := by decide +kernel
theorem dX7_scan_128 : decode cX7_scan 128 = .ok (.aload_n 0, 1) := by decide +kernel
theorem dX7_scan_129 : decode cX7_scan 129 = .ok (.getfield 213, 3) := by decide +kernel
theorem dX7_scan_132 : decode cX7_scan 132 = .ok (.bipush 32, 2) := by decide +kernel
theorem dX7_scan_134 : decode cX7_scan 134 = .ok (.if_icmp .lt 7, 3) := by decide +kernel
theorem dX7_scan_137 : decode cX7_scan 137 = .ok (.aload_n 0, 1) := by decide +kernel
theorem dX7_scan_138 : decode cX7_scan 138 = .ok (.invokevirtual 223, 3) := by decide +kernel
theorem dX7_scan_141 : decode cX7_scan 141 = .ok (.iinc 5 1, 3) := by decide +kernel
theorem dX7_scan_144 : decode cX7_scan 144 = .ok (.goto (-120), 3) := by decide +kernel
theorem dX7_scan_147 : decode cX7_scan 147 = .ok (.iload_n 2, 1) := by decide +kernel
theorem dX7_scan_148 : decode cX7_scan 148 = .ok (.ireturn, 1) := by decide +kernel
theorem dX7_entry_0 : decode cX7_entry 0 = .ok (.aload_n 0, 1) := by decide +kernel
theorem dX7_entry_1 : decode cX7_entry 1 = .ok (.iload_n 1, 1) := by decide +kernel
theorem dX7_entry_2 : decode cX7_entry 2 = .ok (.invokevirtual 78, 3) := by decide +kernel
theorem dX7_entry_5 : decode cX7_entry 5 = .ok (.astore 4, 2) := by decide +kernel
theorem dX7_entry_7 : decode cX7_entry 7 = .ok (.iload_n 2, 1) := by decide +kernel
theorem dX7_entry_8 : decode cX7_entry 8 = .ok (.iconst 0, 1) := by decide +kernel
theorem dX7_entry_9 : decode cX7_entry 9 = .ok (.bipush 31, 2) := by decide +kernel
theorem dX7_entry_11 : decode cX7_entry 11 = .ok (.invokestatic 56, 3) := by decide +kernel
theorem dX7_entry_14 : decode cX7_entry 14 = .ok (.ifCond .eq 16, 3) := by decide +kernel
theorem dX7_entry_17 : decode cX7_entry 17 = .ok (.iload_n 3, 1) := by decide +kernel
theorem dX7_entry_18 : decode cX7_entry 18 = .ok (.iconst 0, 1) := by decide +kernel
theorem dX7_entry_19 : decode cX7_entry 19 = .ok (.iconst 5, 1) := by decide +kernel
theorem dX7_entry_20 : decode cX7_entry 20 = .ok (.invokestatic 56, 3) := by decide +kernel
theorem dX7_entry_23 : decode cX7_entry 23 = .ok (.ifCond .eq 7, 3) := by decide +kernel
theorem dX7_entry_26 : decode cX7_entry 26 = .ok (.iconst 1, 1) := by decide +kernel
theorem dX7_entry_27 : decode cX7_entry 27 = .ok (.goto 4, 3) := by decide +kernel
theorem dX7_entry_30 : decode cX7_entry 30 = .ok (.iconst 0, 1) := by decide +kernel
theorem dX7_entry_31 : decode cX7_entry 31 = .ok (.invokestatic 60, 3) := by decide +kernel
theorem dX7_entry_34 : decode cX7_entry 34 = .ok (.aload 4, 2) := by decide +kernel
theorem dX7_entry_36 : decode cX7_entry 36 = .ok (.getfield 93, 3) := by decide +kernel
theorem dX7_entry_39 : decode cX7_entry 39 = .ok (.iload_n 2, 1) := by decide +kernel
theorem dX7_entry_40 : decode cX7_entry 40 = .ok (.aaload, 1) := by decide +kernel
theorem dX7_entry_41 : decode cX7_entry 41 = .ok (.astore 5, 2) := by decide +kernel
theorem dX7_entry_43 : decode cX7_entry 43 = .ok (.iload_n 3, 1) := by decide +kernel
theorem dX7_entry_44 : decode cX7_entry 44 = .ok (.tableswitch 135 0 4 #[36, 54, 72, 93, 114], 36) := by decide +kernel
theorem dX7_entry_80 : decode cX7_entry 80 = .ok (.aload 5, 2) := by decide +kernel
theorem dX7_entry_82 : decode cX7_entry 82 = .ok (.getfield 111, 3) := by decide +kernel
theorem dX7_entry_85 : decode cX7_entry 85 = .ok (.ifCond .eq 11, 3) := by decide +kernel
theorem dX7_entry_88 : decode cX7_entry 88 = .ok (.aload 5, 2) := by decide +kernel
theorem dX7_entry_90 : decode cX7_entry 90 = .ok (.getfield 113, 3) := by decide +kernel
theorem dX7_entry_93 : decode cX7_entry 93 = .ok (.goto 4, 3) := by decide +kernel
theorem dX7_entry_96 : decode cX7_entry 96 = .ok (.iconst 0, 1) := by decide +kernel
theorem dX7_entry_97 : decode cX7_entry 97 = .ok (.ireturn, 1) := by decide +kernel
theorem dX7_entry_98 : decode cX7_entry 98 = .ok (.aload 5, 2) := by decide +kernel
theorem dX7_entry_100 : decode cX7_entry 100 = .ok (.getfield 111, 3) := by decide +kernel
theorem dX7_entry_103 : decode cX7_entry 103 = .ok (.ifCond .eq 11, 3) := by decide +kernel
theorem dX7_entry_106 : decode cX7_entry 106 = .ok (.aload 5, 2) := by decide +kernel
theorem dX7_entry_108 : decode cX7_entry 108 = .ok (.getfield 226, 3) := by decide +kernel
theorem dX7_entry_111 : decode cX7_entry 111 = .ok (.goto 4, 3) := by decide +kernel
theorem dX7_entry_114 : decode cX7_entry 114 = .ok (.iconst (-1), 1) := by decide +kernel
theorem dX7_entry_115 : decode cX7_entry 115 = .ok (.ireturn, 1) := by decide +kernel
theorem dX7_entry_116 : decode cX7_entry 116 = .ok (.aload 5, 2) := by decide +kernel
theorem dX7_entry_118 : decode cX7_entry 118 = .ok (.getfield 229, 3) := by decide +kernel
theorem dX7_entry_121 : decode cX7_entry 121 = .ok (.ifnonnull 7, 3) := by decide +kernel
theorem dX7_entry_124 : decode cX7_entry 124 = .ok (.iconst (-1), 1) := by decide +kernel
theorem dX7_entry_125 : decode cX7_entry 125 = .ok (.goto 11, 3) := by decide +kernel
theorem dX7_entry_128 : decode cX7_entry 128 = .ok (.aload 5, 2) := by decide +kernel
theorem dX7_entry_130 : decode cX7_entry 130 = .ok (.getfield 229, 3) := by decide +kernel
theorem dX7_entry_133 : decode cX7_entry 133 = .ok (.getfield 233, 3) := by decide +kernel
theorem dX7_entry_136 : decode cX7_entry 136 = .ok (.ireturn, 1) := by decide +kernel
theorem dX7_entry_137 : decode cX7_entry 137 = .ok (.aload 5, 2) := by decide +kernel
theorem dX7_entry_139 : decode cX7_entry 139 = .ok (.getfield 229, 3) := by decide +kernel
theorem dX7_entry_142 : decode cX7_entry 142 = .ok (.ifnonnull 7, 3) := by decide +kernel
theorem dX7_entry_145 : decode cX7_entry 145 = .ok (.iconst (-1), 1) := by decide +kernel
theorem dX7_entry_146 : decode cX7_entry 146 = .ok (.goto 11, 3) := by decide +kernel
theorem dX7_entry_149 : decode cX7_entry 149 = .ok (.aload 5, 2) := by decide +kernel
theorem dX7_entry_151 : decode cX7_entry 151 = .ok (.getfield 236, 3) := by decide +kernel
theorem dX7_entry_154 : decode cX7_entry 154 = .ok (.invokestatic 239, 3) := by decide +kernel
theorem dX7_entry_157 : decode cX7_entry 157 = .ok (.ireturn, 1) := by decide +kernel
theorem dX7_entry_158 : decode cX7_entry 158 = .ok (.aload 5, 2) := by decide +kernel
theorem dX7_entry_160 : decode cX7_entry 160 = .ok (.getfield 243, 3) := by decide +kernel
theorem dX7_entry_163 : decode cX7_entry 163 = .ok (.ifnonnull 7, 3) := by decide +kernel
theorem dX7_entry_166 : decode cX7_entry 166 = .ok (.iconst (-1), 1) := by decide +kernel
theorem dX7_entry_167 : decode cX7_entry 167 = .ok (.goto 11, 3) := by decide +kernel
theorem dX7_entry_170 : decode cX7_entry 170 = .ok (.aload 5, 2) := by decide +kernel
theorem dX7_entry_172 : decode cX7_entry 172 = .ok (.getfield 243, 3) := by decide +kernel
theorem dX7_entry_175 : decode cX7_entry 175 = .ok (.getfield 247, 3) := by decide +kernel
theorem dX7_entry_178 : decode cX7_entry 178 = .ok (.ireturn, 1) := by decide +kernel
theorem dX7_entry_179 : decode cX7_entry 179 = .ok (.aload_n 0, 1) := by decide +kernel
theorem dX7_entry_180 : decode cX7_entry 180 = .ok (.aload 5, 2) := by decide +kernel
theorem dX7_entry_182 : decode cX7_entry 182 = .ok (.getfield 119, 3) := by decide +kernel
theorem dX7_entry_185 : decode cX7_entry 185 = .ok (.invokevirtual 194, 3) := by decide +kernel
theorem dX7_entry_188 : decode cX7_entry 188 = .ok (.invokestatic 239, 3) := by decide +kernel
theorem dX7_entry_191 : decode cX7_entry 191 = .ok (.ireturn, 1) := by decide +kernel
theorem dX7_frame_0 : decode cX7_frame 0 = .ok (.iload_n 1, 1) := by decide +kernel
theorem dX7_frame_1 : decode cX7_frame 1 = .ok (.iconst 0, 1) := by decide +kernel
theorem dX7_frame_2 : decode cX7_frame 2 = .ok (.bipush 23, 2) := by decide +kernel
theorem dX7_frame_4 : decode cX7_frame 4 = .ok (.invokestatic 56, 3) := by decide +kernel
theorem dX7_frame_7 : decode cX7_frame 7 = .ok (.ifCond .eq 17, 3) := by decide +kernel
theorem dX7_frame_10 : decode cX7_frame 10 = .ok (.iload_n 2, 1) := by decide +kernel
theorem dX7_frame_11 : decode cX7_frame 11 = .ok (.iconst 0, 1) := by decide +kernel
theorem dX7_frame_12 : decode cX7_frame 12 = .ok (.bipush 7, 2) := by decide +kernel
theorem dX7_frame_14 : decode cX7_frame 14 = .ok (.invokestatic 56, 3) := by decide +kernel
theorem dX7_frame_17 : decode cX7_frame 17 = .ok (.ifCond .eq 7, 3) := by decide +kernel
theorem dX7_frame_20 : decode cX7_frame 20 = .ok (.iconst 1, 1) := by decide +kernel
theorem dX7_frame_21 : decode cX7_frame 21 = .ok (.goto 4, 3) := by decide +kernel
theorem dX7_frame_24 : decode cX7_frame 24 = .ok (.iconst 0, 1) := by decide +kernel
theorem dX7_frame_25 : decode cX7_frame 25 = .ok (.invokestatic 60, 3) := by decide +kernel
theorem dX7_frame_28 : decode cX7_frame 28 = .ok (.aload_n 0, 1) := by decide +kernel
theorem dX7_frame_29 : decode cX7_frame 29 = .ok (.getfield 17, 3) := by decide +kernel
theorem dX7_frame_32 : decode cX7_frame 32 = .ok (.iload_n 1, 1) := by decide +kernel
theorem dX7_frame_33 : decode cX7_frame 33 = .ok (.aaload, 1) := by decide +kernel
theorem dX7_frame_34 : decode cX7_frame 34 = .ok (.astore_n 3, 1) := by decide +kernel
theorem dX7_frame_35 : decode cX7_frame 35 = .ok (.iload_n 2, 1) := by decide +kernel
theorem dX7_frame_36 : decode cX7_frame 36 = .ok (.ifCond .ne 27, 3) := by decide +kernel
theorem dX7_frame_39 : decode cX7_frame 39 = .ok (.aload_n 3, 1) := by decide +kernel
theorem dX7_frame_40 : decode cX7_frame 40 = .ok (.getfield 171, 3) := by decide +kernel
theorem dX7_frame_43 : decode cX7_frame 43 = .ok (.ifCond .ne 15, 3) := by decide +kernel
theorem dX7_frame_46 : decode cX7_frame 46 = .ok (.aload_n 0, 1) := by decide +kernel
theorem dX7_frame_47 : decode cX7_frame 47 = .ok (.iload_n 1, 1) := by decide +kernel
theorem dX7_frame_48 : decode cX7_frame 48 = .ok (.invokevirtual 252, 3) := by decide +kernel
theorem dX7_frame_51 : decode cX7_frame 51 = .ok (.ifCond .eq 7, 3) := by decide +kernel
theorem dX7_frame_54 : decode cX7_frame 54 = .ok (.iconst 3, 1) := by decide +kernel
theorem dX7_frame_55 : decode cX7_frame 55 = .ok (.goto 7, 3) := by decide +kernel
theorem dX7_frame_58 : decode cX7_frame 58 = .ok (.aload_n 3, 1) := by decide +kernel
theorem dX7_frame_59 : decode cX7_frame 59 = .ok (.getfield 171, 3) := by decide +kernel
theorem dX7_frame_62 : decode cX7_frame 62 = .ok (.ireturn, 1) := by decide +kernel
theorem dX7_frame_63 : decode cX7_frame 63 = .ok (.aload_n 3, 1) := by decide +kernel
theorem dX7_frame_64 : decode cX7_frame 64 = .ok (.getfield 171, 3) := by decide +kernel
theorem dX7_frame_67 : decode cX7_frame 67 = .ok (.ifCond .ne 7, 3) := by decide +kernel
theorem dX7_frame_70 : decode cX7_frame 70 = .ok (.iconst (-1), 1) := by decide +kernel
theorem dX7_frame_71 : decode cX7_frame 71 = .ok (.goto 8, 3) := by decide +kernel
theorem dX7_frame_74 : decode cX7_frame 74 = .ok (.aload_n 3, 1) := by decide +kernel
theorem dX7_frame_75 : decode cX7_frame 75 = .ok (.iload_n 2, 1) := by decide +kernel
theorem dX7_frame_76 : decode cX7_frame 76 = .ok (.invokevirtual 255, 3) := by decide +kernel
theorem dX7_frame_79 : decode cX7_frame 79 = .ok (.ireturn, 1) := by decide +kernel
theorem dX7_list_0 : decode cX7_list 0 = .ok (.iload_n 1, 1) := by decide +kernel
theorem dX7_list_1 : decode cX7_list 1 = .ok (.iconst 0, 1) := by decide +kernel
theorem dX7_list_2 : decode cX7_list 2 = .ok (.iconst 1, 1) := by decide +kernel
theorem dX7_list_3 : decode cX7_list 3 = .ok (.invokestatic 56, 3) := by decide +kernel
theorem dX7_list_6 : decode cX7_list 6 = .ok (.ifCond .eq 11, 3) := by decide +kernel
theorem dX7_list_9 : decode cX7_list 9 = .ok (.iload_n 2, 1) := by decide +kernel
theorem dX7_list_10 : decode cX7_list 10 = .ok (.ifCond .lt 7, 3) := by decide +kernel
theorem dX7_list_13 : decode cX7_list 13 = .ok (.iconst 1, 1) := by decide +kernel
theorem dX7_list_14 : decode cX7_list 14 = .ok (.goto 4, 3) := by decide +kernel
theorem dX7_list_17 : decode cX7_list 17 = .ok (.iconst 0, 1) := by decide +kernel
theorem dX7_list_18 : decode cX7_list 18 = .ok (.invokestatic 60, 3) := by decide +kernel
theorem dX7_list_21 : decode cX7_list 21 = .ok (.aload_n 0, 1) := by decide +kernel
theorem dX7_list_22 : decode cX7_list 22 = .ok (.iload_n 1, 1) := by decide +kernel
theorem dX7_list_23 : decode cX7_list 23 = .ok (.iload_n 2, 1) := by decide +kernel
theorem dX7_list_24 : decode cX7_list 24 = .ok (.invokevirtual 257, 3) := by decide +kernel
theorem dX7_list_27 : decode cX7_list 27 = .ok (.ireturn, 1) := by decide +kernel
theorem dX7_about_0 : decode cX7_about 0 = .ok (.aload_n 0, 1) := by decide +kernel
theorem dX7_about_1 : decode cX7_about 1 = .ok (.iload_n 1, 1) := by decide +kernel
theorem dX7_about_2 : decode cX7_about 2 = .ok (.invokevirtual 78, 3) := by decide +kernel
theorem dX7_about_5 : decode cX7_about 5 = .ok (.astore_n 3, 1) := by decide +kernel
theorem dX7_about_6 : decode cX7_about 6 = .ok (.iload_n 2, 1) := by decide +kernel
theorem dX7_about_7 : decode cX7_about 7 = .ok (.iconst 0, 1) := by decide +kernel
theorem dX7_about_8 : decode cX7_about 8 = .ok (.iconst 5, 1) := by decide +kernel
theorem dX7_about_9 : decode cX7_about 9 = .ok (.invokestatic 56, 3) := by decide +kernel
theorem dX7_about_12 : decode cX7_about 12 = .ok (.invokestatic 60, 3) := by decide +kernel
theorem dX7_about_15 : decode cX7_about 15 = .ok (.iload_n 2, 1) := by decide +kernel
theorem dX7_about_16 : decode cX7_about 16 = .ok (.tableswitch 67 0 4 #[36, 44, 49, 55, 61], 36) := by decide +kernel
theorem dX7_about_52 : decode cX7_about 52 = .ok (.aload_n 3, 1) := by decide +kernel
theorem dX7_about_53 : decode cX7_about 53 = .ok (.getfield 85, 3) := by decide +kernel
theorem dX7_about_56 : decode cX7_about 56 = .ok (.invokestatic 239, 3) := by decide +kernel
theorem dX7_about_59 : decode cX7_about 59 = .ok (.ireturn, 1) := by decide +kernel
theorem dX7_about_60 : decode cX7_about 60 = .ok (.aload_n 3, 1) := by decide +kernel
theorem dX7_about_61 : decode cX7_about 61 = .ok (.invokevirtual 103, 3) := by decide +kernel
theorem dX7_about_64 : decode cX7_about 64 = .ok (.ireturn, 1) := by decide +kernel
theorem dX7_about_65 : decode cX7_about 65 = .ok (.aload_n 3, 1) := by decide +kernel
theorem dX7_about_66 : decode cX7_about 66 = .ok (.iconst 1, 1) := by decide +kernel
theorem dX7_about_67 : decode cX7_about 67 = .ok (.invokevirtual 141, 3) := by decide +kernel
theorem dX7_about_70 : decode cX7_about 70 = .ok (.ireturn, 1) := by decide +kernel
theorem dX7_about_71 : decode cX7_about 71 = .ok (.aload_n 3, 1) := by decide +kernel
theorem dX7_about_72 : decode cX7_about 72 = .ok (.iconst 2, 1) := by decide +kernel
theorem dX7_about_73 : decode cX7_about 73 = .ok (.invokevirtual 141, 3) := by decide +kernel
theorem dX7_about_76 : decode cX7_about 76 = .ok (.ireturn, 1) := by decide +kernel
theorem dX7_about_77 : decode cX7_about 77 = .ok (.aload_n 0, 1) := by decide +kernel
theorem dX7_about_78 : decode cX7_about 78 = .ok (.aload_n 3, 1) := by decide +kernel
theorem dX7_about_79 : decode cX7_about 79 = .ok (.invokevirtual 201, 3) := by decide +kernel
theorem dX7_about_82 : decode cX7_about 82 = .ok (.ireturn, 1) := by decide +kernel
theorem dX7_about_83 : decode cX7_about 83 = .ok (.aload_n 3, 1) := by decide +kernel
theorem dX7_about_84 : decode cX7_about 84 = .ok (.invokevirtual 260, 3) := by decide +kernel
theorem dX7_about_87 : decode cX7_about 87 = .ok (.ireturn, 1) := by decide +kernel
theorem dX7_count_0 : decode cX7_count 0 = .ok (.iload_n 1, 1) := by decide +kernel
theorem dX7_count_1 : decode cX7_count 1 = .ok (.iconst 0, 1) := by decide +kernel
theorem dX7_count_2 : decode cX7_count 2 = .ok (.bipush 10, 2) := by decide +kernel
theorem dX7_count_4 : decode cX7_count 4 = .ok (.invokestatic 56, 3) := by decide +kernel
theorem dX7_count_7 : decode cX7_count 7 = .ok (.invokestatic 60, 3) := by decide +kernel
theorem dX7_count_10 : decode cX7_count 10 = .ok (.iload_n 1, 1) := by decide +kernel
theorem dX7_count_11 : decode cX7_count 11 = .ok (.bipush 8, 2) := by decide +kernel
theorem dX7_count_13 : decode cX7_count 13 = .ok (.if_icmp .ge 10, 3) := by decide +kernel
theorem dX7_count_16 : decode cX7_count 16 = .ok (.aload_n 0, 1) := by decide +kernel
theorem dX7_count_17 : decode cX7_count 17 = .ok (.getfield 48, 3) := by decide +kernel
theorem dX7_count_20 : decode cX7_count 20 = .ok (.iload_n 1, 1) := by decide +kernel
theorem dX7_count_21 : decode cX7_count 21 = .ok (.iaload, 1) := by decide +kernel
theorem dX7_count_22 : decode cX7_count 22 = .ok (.ireturn, 1) := by decide +kernel
theorem dX7_count_23 : decode cX7_count 23 = .ok (.iload_n 1, 1) := by decide +kernel
theorem dX7_count_24 : decode cX7_count 24 = .ok (.bipush 8, 2) := by decide +kernel
theorem dX7_count_26 : decode cX7_count 26 = .ok (.if_icmp .ne 11, 3) := by decide +kernel
theorem dX7_count_29 : decode cX7_count 29 = .ok (.aload_n 0, 1) := by decide +kernel
theorem dX7_count_30 : decode cX7_count 30 = .ok (.getfield 30, 3) := by decide +kernel
theorem dX7_count_33 : decode cX7_count 33 = .ok (.getfield 263, 3) := by decide +kernel
theorem dX7_count_36 : decode cX7_count 36 = .ok (.ireturn, 1) := by decide +kernel
theorem dX7_count_37 : decode cX7_count 37 = .ok (.iload_n 1, 1) := by decide +kernel
theorem dX7_count_38 : decode cX7_count 38 = .ok (.bipush 9, 2) := by decide +kernel
theorem dX7_count_40 : decode cX7_count 40 = .ok (.if_icmp .ne 13, 3) := by decide +kernel
theorem dX7_count_43 : decode cX7_count 43 = .ok (.aload_n 0, 1) := by decide +kernel
theorem dX7_count_44 : decode cX7_count 44 = .ok (.getfield 30, 3) := by decide +kernel
theorem dX7_count_47 : decode cX7_count 47 = .ok (.invokevirtual 266, 3) := by decide +kernel
theorem dX7_count_50 : decode cX7_count 50 = .ok (.goto 7, 3) := by decide +kernel
theorem dX7_count_53 : decode cX7_count 53 = .ok (.aload_n 0, 1) := by decide +kernel
theorem dX7_count_54 : decode cX7_count 54 = .ok (.invokevirtual 269, 3) := by decide +kernel
theorem dX7_count_57 : decode cX7_count 57 = .ok (.ireturn, 1) := by decide +kernel
theorem dX7_demand_0 : decode cX7_demand 0 = .ok (.iload_n 0, 1) := by decide +kernel
theorem dX7_demand_1 : decode cX7_demand 1 = .ok (.ifCond .ne 14, 3) := by decide +kernel
theorem dX7_demand_4 : decode cX7_demand 4 = .ok (.new 272, 3) := by decide +kernel
theorem dX7_demand_7 : decode cX7_demand 7 = .ok (.dup, 1) := by decide +kernel
theorem dX7_demand_8 : decode cX7_demand 8 = .ok (.ldc_w 274, 3) := by decide +kernel
theorem dX7_demand_11 : decode cX7_demand 11 = .ok (.invokespecial 276, 3) := by decide +kernel
theorem dX7_demand_14 : decode cX7_demand 14 = .ok (.athrow, 1) := by decide +kernel
theorem dX7_demand_15 : decode cX7_demand 15 = .ok (.return_, 1) := by decide +kernel
theorem dX7_permit_0 : decode cX7_permit 0 = .ok (.iload_n 0, 1) := by decide +kernel
theorem dX7_permit_1 : decode cX7_permit 1 = .ok (.ifCond .ne 14, 3) := by decide +kernel
theorem dX7_permit_4 : decode cX7_permit 4 = .ok (.new 279, 3) := by decide +kernel
theorem dX7_permit_7 : decode cX7_permit 7 = .ok (.dup, 1) := by decide +kernel
theorem dX7_permit_8 : decode cX7_permit 8 = .ok (.ldc_w 281, 3) := by decide +kernel
theorem dX7_permit_11 : decode cX7_permit 11 = .ok (.invokespecial 283, 3) := by decide +kernel
theorem dX7_permit_14 : decode cX7_permit 14 = .ok (.athrow, 1) := by decide +kernel
theorem dX7_permit_15 : decode cX7_permit 15 = .ok (.return_, 1) := by decide +kernel
theorem dX7_known_0 : decode cX7_known 0 = .ok (.iload_n 1, 1) := by decide +kernel
theorem dX7_known_1 : decode cX7_known 1 = .ok (.ifCond .lt 17, 3) := by decide +kernel
theorem dX7_known_4 : decode cX7_known 4 = .ok (.iload_n 1, 1) := by decide +kernel
theorem dX7_known_5 : decode cX7_known 5 = .ok (.aload_n 0, 1) := by decide +kernel
theorem dX7_known_6 : decode cX7_known 6 = .ok (.getfield 64, 3) := by decide +kernel
theorem dX7_known_9 : decode cX7_known 9 = .ok (.if_icmp .ge 9, 3) := by decide +kernel
theorem dX7_known_12 : decode cX7_known 12 = .ok (.iload_n 1, 1) := by decide +kernel
theorem dX7_known_13 : decode cX7_known 13 = .ok (.bipush 6, 2) := by decide +kernel
theorem dX7_known_15 : decode cX7_known 15 = .ok (.if_icmp .lt 14, 3) := by decide +kernel
theorem dX7_known_18 : decode cX7_known 18 = .ok (.new 284, 3) := by decide +kernel
theorem dX7_known_21 : decode cX7_known 21 = .ok (.dup, 1) := by decide +kernel
theorem dX7_known_22 : decode cX7_known 22 = .ok (.ldc_w 286, 3) := by decide +kernel
theorem dX7_known_25 : decode cX7_known 25 = .ok (.invokespecial 288, 3) := by decide +kernel
theorem dX7_known_28 : decode cX7_known 28 = .ok (.athrow, 1) := by decide +kernel
theorem dX7_known_29 : decode cX7_known 29 = .ok (.aload_n 0, 1) := by decide +kernel
theorem dX7_known_30 : decode cX7_known 30 = .ok (.getfield 11, 3) := by decide +kernel
theorem dX7_known_33 : decode cX7_known 33 = .ok (.iload_n 1, 1) := by decide +kernel
theorem dX7_known_34 : decode cX7_known 34 = .ok (.aaload, 1) := by decide +kernel
theorem dX7_known_35 : decode cX7_known 35 = .ok (.areturn, 1) := by decide +kernel
theorem dX7_cacheOf_0 : decode cX7_cacheOf 0 = .ok (.iload_n 1, 1) := by decide +kernel
theorem dX7_cacheOf_1 : decode cX7_cacheOf 1 = .ok (.ifCond .lt 8, 3) := by decide +kernel
theorem dX7_cacheOf_4 : decode cX7_cacheOf 4 = .ok (.iload_n 1, 1) := by decide +kernel
theorem dX7_cacheOf_5 : decode cX7_cacheOf 5 = .ok (.iconst 2, 1) := by decide +kernel
theorem dX7_cacheOf_6 : decode cX7_cacheOf 6 = .ok (.if_icmp .lt 14, 3) := by decide +kernel
theorem dX7_cacheOf_9 : decode cX7_cacheOf 9 = .ok (.new 284, 3) := by decide +kernel
theorem dX7_cacheOf_12 : decode cX7_cacheOf 12 = .ok (.dup, 1) := by decide +kernel
theorem dX7_cacheOf_13 : decode cX7_cacheOf 13 = .ok (.ldc_w 289, 3) := by decide +kernel
theorem dX7_cacheOf_16 : decode cX7_cacheOf 16 = .ok (.invokespecial 288, 3) := by decide +kernel
theorem dX7_cacheOf_19 : decode cX7_cacheOf 19 = .ok (.athrow, 1) := by decide +kernel
theorem dX7_cacheOf_20 : decode cX7_cacheOf 20 = .ok (.aload_n 0, 1) := by decide +kernel
theorem dX7_cacheOf_21 : decode cX7_cacheOf 21 = .ok (.getfield 23, 3) := by decide +kernel
theorem dX7_cacheOf_24 : decode cX7_cacheOf 24 = .ok (.iload_n 1, 1) := by decide +kernel
theorem dX7_cacheOf_25 : decode cX7_cacheOf 25 = .ok (.aaload, 1) := by decide +kernel
theorem dX7_cacheOf_26 : decode cX7_cacheOf 26 = .ok (.areturn, 1) := by decide +kernel
theorem dX7_within_0 : decode cX7_within 0 = .ok (.iload_n 0, 1) := by decide +kernel
theorem dX7_within_1 : decode cX7_within 1 = .ok (.iload_n 1, 1) := by decide +kernel
theorem dX7_within_2 : decode cX7_within 2 = .ok (.if_icmp .lt 12, 3) := by decide +kernel
theorem dX7_within_5 : decode cX7_within 5 = .ok (.iload_n 0, 1) := by decide +kernel
theorem dX7_within_6 : decode cX7_within 6 = .ok (.iload_n 2, 1) := by decide +kernel
theorem dX7_within_7 : decode cX7_within 7 = .ok (.if_icmp .gt 7, 3) := by decide +kernel
theorem dX7_within_10 : decode cX7_within 10 = .ok (.iconst 1, 1) := by decide +kernel
theorem dX7_within_11 : decode cX7_within 11 = .ok (.goto 4, 3) := by decide +kernel
theorem dX7_within_14 : decode cX7_within 14 = .ok (.iconst 0, 1) := by decide +kernel
theorem dX7_within_15 : decode cX7_within 15 = .ok (.ireturn, 1) := by decide +kernel
theorem dX7_isStretch_0 : decode cX7_isStretch 0 = .ok (.iload_n 0, 1) := by decide +kernel
theorem dX7_isStretch_1 : decode cX7_isStretch 1 = .ok (.iconst 0, 1) := by decide +kernel
theorem dX7_isStretch_2 : decode cX7_isStretch 2 = .ok (.bipush 31, 2) := by decide +kernel
theorem dX7_isStretch_4 : decode cX7_isStretch 4 = .ok (.invokestatic 56, 3) := by decide +kernel
theorem dX7_isStretch_7 : decode cX7_isStretch 7 = .ok (.ifCond .eq 19, 3) := by decide +kernel
theorem dX7_isStretch_10 : decode cX7_isStretch 10 = .ok (.iload_n 1, 1) := by decide +kernel
theorem dX7_isStretch_11 : decode cX7_isStretch 11 = .ok (.iconst 1, 1) := by decide +kernel
theorem dX7_isStretch_12 : decode cX7_isStretch 12 = .ok (.bipush 32, 2) := by decide +kernel
theorem dX7_isStretch_14 : decode cX7_isStretch 14 = .ok (.iload_n 0, 1) := by decide +kernel
theorem dX7_isStretch_15 : decode cX7_isStretch 15 = .ok (.isub, 1) := by decide +kernel
theorem dX7_isStretch_16 : decode cX7_isStretch 16 = .ok (.invokestatic 56, 3) := by decide +kernel
theorem dX7_isStretch_19 : decode cX7_isStretch 19 = .ok (.ifCond .eq 7, 3) := by decide +kernel
theorem dX7_isStretch_22 : decode cX7_isStretch 22 = .ok (.iconst 1, 1) := by decide +kernel
theorem dX7_isStretch_23 : decode cX7_isStretch 23 = .ok (.goto 4, 3) := by decide +kernel
theorem dX7_isStretch_26 : decode cX7_isStretch 26 = .ok (.iconst 0, 1) := by decide +kernel
theorem dX7_isStretch_27 : decode cX7_isStretch 27 = .ok (.ireturn, 1) := by decide +kernel
theorem dX7_isInFile_0 : decode cX7_isInFile 0 = .ok (.iload_n 0, 1) := by decide +kernel
theorem dX7_isInFile_1 : decode cX7_isInFile 1 = .ok (.iconst 0, 1) := by decide +kernel
theorem dX7_isInFile_2 : decode cX7_isInFile 2 = .ok (.iconst 2, 1) := by decide +kernel
theorem dX7_isInFile_3 : decode cX7_isInFile 3 = .ok (.invokestatic 56, 3) := by decide +kernel
theorem dX7_isInFile_6 : decode cX7_isInFile 6 = .ok (.ifCond .eq 17, 3) := by decide +kernel
theorem dX7_isInFile_9 : decode cX7_isInFile 9 = .ok (.iload_n 1, 1) := by decide +kernel
theorem dX7_isInFile_10 : decode cX7_isInFile 10 = .ok (.iconst 0, 1) := by decide +kernel
theorem dX7_isInFile_11 : decode cX7_isInFile 11 = .ok (.bipush 7, 2) := by decide +kernel
theorem dX7_isInFile_13 : decode cX7_isInFile 13 = .ok (.invokestatic 56, 3) := by decide +kernel
theorem dX7_isInFile_16 : decode cX7_isInFile 16 = .ok (.ifCond .eq 7, 3) := by decide +kernel
theorem dX7_isInFile_19 : decode cX7_isInFile 19 = .ok (.iconst 1, 1) := by decide +kernel
theorem dX7_isInFile_20 : decode cX7_isInFile 20 = .ok (.goto 4, 3) := by decide +kernel
theorem dX7_isInFile_23 : decode cX7_isInFile 23 = .ok (.iconst 0, 1) := by decide +kernel
theorem dX7_isInFile_24 : decode cX7_isInFile 24 = .ok (.ireturn, 1) := by decide +kernel
theorem dX7_asNumber_0 : decode cX7_asNumber 0 = .ok (.iload_n 0, 1) := by decide +kernel
theorem dX7_asNumber_1 : decode cX7_asNumber 1 = .ok (.ifCond .eq 7, 3) := by decide +kernel
theorem dX7_asNumber_4 : decode cX7_asNumber 4 = .ok (.iconst 1, 1) := by decide +kernel
theorem dX7_asNumber_5 : decode cX7_asNumber 5 = .ok (.goto 4, 3) := by decide +kernel
theorem dX7_asNumber_8 : decode cX7_asNumber 8 = .ok (.iconst 0, 1) := by decide +kernel
theorem dX7_asNumber_9 : decode cX7_asNumber 9 = .ok (.ireturn, 1) := by decide +kernel
theorem dX7_begin_0 : decode cX7_begin 0 = .ok (.aload_n 0, 1) := by decide +kernel
theorem dX7_begin_1 : decode cX7_begin 1 = .ok (.getfield 11, 3) := by decide +kernel
theorem dX7_begin_4 : decode cX7_begin 4 = .ok (.aload_n 0, 1) := by decide +kernel
theorem dX7_begin_5 : decode cX7_begin 5 = .ok (.getfield 64, 3) := by decide +kernel
theorem dX7_begin_8 : decode cX7_begin 8 = .ok (.bipush 6, 2) := by decide +kernel
theorem dX7_begin_10 : decode cX7_begin 10 = .ok (.if_icmp .ge 10, 3) := by decide +kernel
theorem dX7_begin_13 : decode cX7_begin 13 = .ok (.aload_n 0, 1) := by decide +kernel
theorem dX7_begin_14 : decode cX7_begin 14 = .ok (.getfield 64, 3) := by decide +kernel
theorem dX7_begin_17 : decode cX7_begin 17 = .ok (.goto 4, 3) := by decide +kernel
theorem dX7_begin_20 : decode cX7_begin 20 = .ok (.iconst 5, 1) := by decide +kernel
theorem dX7_begin_21 : decode cX7_begin 21 = .ok (.aaload, 1) := by decide +kernel
theorem dX7_begin_22 : decode cX7_begin 22 = .ok (.astore_n 2, 1) := by decide +kernel
theorem dX7_begin_23 : decode cX7_begin 23 = .ok (.aload_n 0, 1) := by decide +kernel
theorem dX7_begin_24 : decode cX7_begin 24 = .ok (.dup, 1) := by decide +kernel
theorem dX7_begin_25 : decode cX7_begin 25 = .ok (.getfield 64, 3) := by decide +kernel
theorem dX7_begin_28 : decode cX7_begin 28 = .ok (.iconst 1, 1) := by decide +kernel
theorem dX7_begin_29 : decode cX7_begin 29 = .ok (.iadd, 1) := by decide +kernel
theorem dX7_begin_30 : decode cX7_begin 30 = .ok (.putfield 64, 3) := by decide +kernel
theorem dX7_begin_33 : decode cX7_begin 33 = .ok (.aload_n 2, 1) := by decide +kernel
theorem dX7_begin_34 : decode cX7_begin 34 = .ok (.iload_n 1, 1) := by decide +kernel
theorem dX7_begin_35 : decode cX7_begin 35 = .ok (.putfield 132, 3) := by decide +kernel
theorem dX7_begin_38 : decode cX7_begin 38 = .ok (.aload_n 2, 1) := by decide +kernel
theorem dX7_begin_39 : decode cX7_begin 39 = .ok (.iconst 1, 1) := by decide +kernel
theorem dX7_begin_40 : decode cX7_begin 40 = .ok (.putfield 85, 3) := by decide +kernel
theorem dX7_begin_43 : decode cX7_begin 43 = .ok (.aload_n 2, 1) := by decide +kernel
theorem dX7_begin_44 : decode cX7_begin 44 = .ok (.areturn, 1) := by decide +kernel
theorem dX7_bury_0 : decode cX7_bury 0 = .ok (.aload_n 1, 1) := by decide +kernel
theorem dX7_bury_1 : decode cX7_bury 1 = .ok (.getfield 93, 3) := by decide +kernel
theorem dX7_bury_4 : decode cX7_bury 4 = .ok (.astore_n 2, 1) := by decide +kernel
theorem dX7_bury_5 : decode cX7_bury 5 = .ok (.aload_n 2, 1) := by decide +kernel
theorem dX7_bury_6 : decode cX7_bury 6 = .ok (.arraylength, 1) := by decide +kernel
theorem dX7_bury_7 : decode cX7_bury 7 = .ok (.istore_n 3, 1) := by decide +kernel
theorem dX7_bury_8 : decode cX7_bury 8 = .ok (.iconst 0, 1) := by decide +kernel
theorem dX7_bury_9 : decode cX7_bury 9 = .ok (.istore 4, 2) := by decide +kernel
theorem dX7_bury_11 : decode cX7_bury 11 = .ok (.iload 4, 2) := by decide +kernel
theorem dX7_bury_13 : decode cX7_bury 13 = .ok (.iload_n 3, 1) := by decide +kernel
theorem dX7_bury_14 : decode cX7_bury 14 = .ok (.if_icmp .ge 21, 3) := by decide +kernel
theorem dX7_bury_17 : decode cX7_bury 17 = .ok (.aload_n 2, 1) := by decide +kernel
theorem dX7_bury_18 : decode cX7_bury 18 = .ok (.iload 4, 2) := by decide +kernel
theorem dX7_bury_20 : decode cX7_bury 20 = .ok (.aaload, 1) := by decide +kernel
theorem dX7_bury_21 : decode cX7_bury 21 = .ok (.astore 5, 2) := by decide +kernel
theorem dX7_bury_23 : decode cX7_bury 23 = .ok (.aload_n 0, 1) := by decide +kernel
theorem dX7_bury_24 : decode cX7_bury 24 = .ok (.aload 5, 2) := by decide +kernel
theorem dX7_bury_26 : decode cX7_bury 26 = .ok (.invokevirtual 107, 3) := by decide +kernel
theorem dX7_bury_29 : decode cX7_bury 29 = .ok (.iinc 4 1, 3) := by decide +kernel
theorem dX7_bury_32 : decode cX7_bury 32 = .ok (.goto (-21), 3) := by decide +kernel
theorem dX7_bury_35 : decode cX7_bury 35 = .ok (.aload_n 1, 1) := by decide +kernel
theorem dX7_bury_36 : decode cX7_bury 36 = .ok (.iconst 0, 1) := by decide +kernel
theorem dX7_bury_37 : decode cX7_bury 37 = .ok (.putfield 85, 3) := by decide +kernel
theorem dX7_bury_40 : decode cX7_bury 40 = .ok (.return_, 1) := by decide +kernel
theorem dX7_remove_0 : decode cX7_remove 0 = .ok (.aload_n 1, 1) := by decide +kernel
theorem dX7_remove_1 : decode cX7_remove 1 = .ok (.getfield 111, 3) := by decide +kernel
theorem dX7_remove_4 : decode cX7_remove 4 = .ok (.ifCond .eq 12, 3) := by decide +kernel
theorem dX7_remove_7 : decode cX7_remove 7 = .ok (.aload_n 0, 1) := by decide +kernel
theorem dX7_remove_8 : decode cX7_remove 8 = .ok (.aload_n 1, 1) := by decide +kernel
theorem dX7_remove_9 : decode cX7_remove 9 = .ok (.invokevirtual 291, 3) := by decide +kernel
theorem dX7_remove_12 : decode cX7_remove 12 = .ok (.aload_n 1, 1) := by decide +kernel
theorem dX7_remove_13 : decode cX7_remove 13 = .ok (.invokevirtual 294, 3) := by decide +kernel
theorem dX7_remove_16 : decode cX7_remove 16 = .ok (.return_, 1) := by decide +kernel
theorem dX7_leave_0 : decode cX7_leave 0 = .ok (.aload_n 1, 1) := by decide +kernel
theorem dX7_leave_1 : decode cX7_leave 1 = .ok (.invokevirtual 126, 3) := by decide +kernel
theorem dX7_leave_4 : decode cX7_leave 4 = .ok (.aload_n 0, 1) := by decide +kernel
theorem dX7_leave_5 : decode cX7_leave 5 = .ok (.aload_n 1, 1) := by decide +kernel
theorem dX7_leave_6 : decode cX7_leave 6 = .ok (.getfield 119, 3) := by decide +kernel
theorem dX7_leave_9 : decode cX7_leave 9 = .ok (.iconst 0, 1) := by decide +kernel
theorem dX7_leave_10 : decode cX7_leave 10 = .ok (.invokevirtual 122, 3) := by decide +kernel
theorem dX7_leave_13 : decode cX7_leave 13 = .ok (.aload_n 1, 1) := by decide +kernel
theorem dX7_leave_14 : decode cX7_leave 14 = .ok (.getfield 229, 3) := by decide +kernel
theorem dX7_leave_17 : decode cX7_leave 17 = .ok (.astore_n 2, 1) := by decide +kernel
theorem dX7_leave_18 : decode cX7_leave 18 = .ok (.aload_n 1, 1) := by decide +kernel
theorem dX7_leave_19 : decode cX7_leave 19 = .ok (.getfield 243, 3) := by decide +kernel
theorem dX7_leave_22 : decode cX7_leave 22 = .ok (.astore_n 3, 1) := by decide +kernel
theorem dX7_leave_23 : decode cX7_leave 23 = .ok (.aload_n 1, 1) := by decide +kernel
theorem dX7_leave_24 : decode cX7_leave 24 = .ok (.invokevirtual 297, 3) := by decide +kernel
theorem dX7_leave_27 : decode cX7_leave 27 = .ok (.aload_n 2, 1) := by decide +kernel
theorem dX7_leave_28 : decode cX7_leave 28 = .ok (.ifnull 33, 3) := by decide +kernel
theorem dX7_leave_31 : decode cX7_leave 31 = .ok (.aload_n 2, 1) := by decide +kernel
theorem dX7_leave_32 : decode cX7_leave 32 = .ok (.dup, 1) := by decide +kernel
theorem dX7_leave_33 : decode cX7_leave 33 = .ok (.getfield 300, 3) := by decide +kernel
theorem dX7_leave_36 : decode cX7_leave 36 = .ok (.iconst 1, 1) := by decide +kernel
theorem dX7_leave_37 : decode cX7_leave 37 = .ok (.isub, 1) := by decide +kernel
theorem dX7_leave_38 : decode cX7_leave 38 = .ok (.putfield 300, 3) := by decide +kernel
theorem dX7_leave_41 : decode cX7_leave 41 = .ok (.aload_n 2, 1) := by decide +kernel
theorem dX7_leave_42 : decode cX7_leave 42 = .ok (.getfield 171, 3) := by decide +kernel
theorem dX7_leave_45 : decode cX7_leave 45 = .ok (.iconst 1, 1) := by decide +kernel
theorem dX7_leave_46 : decode cX7_leave 46 = .ok (.if_icmp .ne 15, 3) := by decide +kernel
theorem dX7_leave_49 : decode cX7_leave 49 = .ok (.aload_n 2, 1) := by decide +kernel
theorem dX7_leave_50 : decode cX7_leave 50 = .ok (.getfield 300, 3) := by decide +kernel
theorem dX7_leave_53 : decode cX7_leave 53 = .ok (.ifCond .gt 8, 3) := by decide +kernel
theorem dX7_leave_56 : decode cX7_leave 56 = .ok (.aload_n 2, 1) := by decide +kernel
theorem dX7_leave_57 : decode cX7_leave 57 = .ok (.iconst 0, 1) := by decide +kernel
theorem dX7_leave_58 : decode cX7_leave 58 = .ok (.putfield 171, 3) := by decide +kernel
theorem dX7_leave_61 : decode cX7_leave 61 = .ok (.aload_n 3, 1) := by decide +kernel
theorem dX7_leave_62 : decode cX7_leave 62 = .ok (.ifnull 11, 3) := by decide +kernel
theorem dX7_leave_65 : decode cX7_leave 65 = .ok (.aload_n 0, 1) := by decide +kernel
theorem dX7_leave_66 : decode cX7_leave 66 = .ok (.getfield 30, 3) := by decide +kernel
theorem dX7_leave_69 : decode cX7_leave 69 = .ok (.aload_n 3, 1) := by decide +kernel
theorem dX7_leave_70 : decode cX7_leave 70 = .ok (.invokevirtual 303, 3) := by decide +kernel
theorem dX7_leave_73 : decode cX7_leave 73 = .ok (.return_, 1) := by decide +kernel
theorem dX7_give_0 : decode cX7_give 0 = .ok (.aload_n 0, 1) := by decide +kernel
theorem dX7_give_1 : decode cX7_give 1 = .ok (.aload_n 1, 1) := by decide +kernel
theorem dX7_give_2 : decode cX7_give 2 = .ok (.invokevirtual 291, 3) := by decide +kernel
theorem dX7_give_5 : decode cX7_give 5 = .ok (.aload_n 1, 1) := by decide +kernel
theorem dX7_give_6 : decode cX7_give 6 = .ok (.iconst 1, 1) := by decide +kernel
theorem dX7_give_7 : decode cX7_give 7 = .ok (.putfield 226, 3) := by decide +kernel
theorem dX7_give_10 : decode cX7_give 10 = .ok (.aload_n 1, 1) := by decide +kernel
theorem dX7_give_11 : decode cX7_give 11 = .ok (.aload_n 2, 1) := by decide +kernel
theorem dX7_give_12 : decode cX7_give 12 = .ok (.putfield 229, 3) := by decide +kernel
theorem dX7_give_15 : decode cX7_give 15 = .ok (.aload_n 1, 1) := by decide +kernel
theorem dX7_give_16 : decode cX7_give 16 = .ok (.iload_n 3, 1) := by decide +kernel
theorem dX7_give_17 : decode cX7_give 17 = .ok (.putfield 236, 3) := by decide +kernel
theorem dX7_give_20 : decode cX7_give 20 = .ok (.aload_n 2, 1) := by decide +kernel
theorem dX7_give_21 : decode cX7_give 21 = .ok (.dup, 1) := by decide +kernel
theorem dX7_give_22 : decode cX7_give 22 = .ok (.getfield 300, 3) := by decide +kernel
theorem dX7_give_25 : decode cX7_give 25 = .ok (.iconst 1, 1) := by decide +kernel
theorem dX7_give_26 : decode cX7_give 26 = .ok (.iadd, 1) := by decide +kernel
theorem dX7_give_27 : decode cX7_give 27 = .ok (.putfield 300, 3) := by decide +kernel
theorem dX7_give_30 : decode cX7_give 30 = .ok (.return_, 1) := by decide +kernel
theorem dX7_forbidStoresInto_0 : decode cX7_forbidStoresInto 0 = .ok (.aload_n 0, 1) := by decide +kernel
theorem dX7_forbidStoresInto_1 : decode cX7_forbidStoresInto 1 = .ok (.getfield 11, 3) := by decide +kernel
theorem dX7_forbidStoresInto_4 : decode cX7_forbidStoresInto 4 = .ok (.astore_n 2, 1) := by decide +kernel
theorem dX7_forbidStoresInto_5 : decode cX7_forbidStoresInto 5 = .ok (.aload_n 2, 1) := by decide +kernel
theorem dX7_forbidStoresInto_6 : decode cX7_forbidStoresInto 6 = .ok (.arraylength, 1) := by decide +kernel
theorem dX7_forbidStoresInto_7 : decode cX7_forbidStoresInto 7 = .ok (.istore_n 3, 1) := by decide +kernel
theorem dX7_forbidStoresInto_8 : decode cX7_forbidStoresInto 8 = .ok (.iconst 0, 1) := by decide +kernel
theorem dX7_forbidStoresInto_9 : decode cX7_forbidStoresInto 9 = .ok (.istore 4, 2) := by decide +kernel
theorem dX7_forbidStoresInto_11 : decode cX7_forbidStoresInto 11 = .ok (.iload 4, 2) := by decide +kernel
theorem dX7_forbidStoresInto_13 : decode cX7_forbidStoresInto 13 = .ok (.iload_n 3, 1) := by decide +kernel
theorem dX7_forbidStoresInto_14 : decode cX7_forbidStoresInto 14 = .ok (.if_icmp .ge 64, 3) := by decide +kernel
theorem dX7_forbidStoresInto_17 : decode cX7_forbidStoresInto 17 = .ok (.aload_n 2, 1) := by decide +kernel
theorem dX7_forbidStoresInto_18 : decode cX7_forbidStoresInto 18 = .ok (.iload 4, 2) := by decide +kernel
theorem dX7_forbidStoresInto_20 : decode cX7_forbidStoresInto 20 = .ok (.aaload, 1) := by decide +kernel
theorem dX7_forbidStoresInto_21 : decode cX7_forbidStoresInto 21 = .ok (.astore 5, 2) := by decide +kernel
theorem dX7_forbidStoresInto_23 : decode cX7_forbidStoresInto 23 = .ok (.aload 5, 2) := by decide +kernel
theorem dX7_forbidStoresInto_25 : decode cX7_forbidStoresInto 25 = .ok (.getfield 93, 3) := by decide +kernel
theorem dX7_forbidStoresInto_28 : decode cX7_forbidStoresInto 28 = .ok (.astore 6, 2) := by decide +kernel
theorem dX7_forbidStoresInto_30 : decode cX7_forbidStoresInto 30 = .ok (.aload 6, 2) := by decide +kernel
theorem dX7_forbidStoresInto_32 : decode cX7_forbidStoresInto 32 = .ok (.arraylength, 1) := by decide +kernel
theorem dX7_forbidStoresInto_33 : decode cX7_forbidStoresInto 33 = .ok (.istore 7, 2) := by decide +kernel
theorem dX7_forbidStoresInto_35 : decode cX7_forbidStoresInto 35 = .ok (.iconst 0, 1) := by decide +kernel
theorem dX7_forbidStoresInto_36 : decode cX7_forbidStoresInto 36 = .ok (.istore 8, 2) := by decide +kernel
theorem dX7_forbidStoresInto_38 : decode cX7_forbidStoresInto 38 = .ok (.iload 8, 2) := by decide +kernel
theorem dX7_forbidStoresInto_40 : decode cX7_forbidStoresInto 40 = .ok (.iload 7, 2) := by decide +kernel
theorem dX7_forbidStoresInto_42 : decode cX7_forbidStoresInto 42 = .ok (.if_icmp .ge 30, 3) := by decide +kernel
theorem dX7_forbidStoresInto_45 : decode cX7_forbidStoresInto 45 = .ok (.aload 6, 2) := by decide +kernel
theorem dX7_forbidStoresInto_47 : decode cX7_forbidStoresInto 47 = .ok (.iload 8, 2) := by decide +kernel
theorem dX7_forbidStoresInto_49 : decode cX7_forbidStoresInto 49 = .ok (.aaload, 1) := by decide +kernel
theorem dX7_forbidStoresInto_50 : decode cX7_forbidStoresInto 50 = .ok (.astore 9, 2) := by decide +kernel
theorem dX7_forbidStoresInto_52 : decode cX7_forbidStoresInto 52 = .ok (.aload 9, 2) := by decide +kernel
theorem dX7_forbidStoresInto_54 : decode cX7_forbidStoresInto 54 = .ok (.getfield 229, 3) := by decide +kernel
theorem dX7_forbidStoresInto_57 : decode cX7_forbidStoresInto 57 = .ok (.aload_n 1, 1) := by decide +kernel
theorem dX7_forbidStoresInto_58 : decode cX7_forbidStoresInto 58 = .ok (.if_acmp .ne 8, 3) := by decide +kernel
theorem dX7_forbidStoresInto_61 : decode cX7_forbidStoresInto 61 = .ok (.aload 9, 2) := by decide +kernel
theorem dX7_forbidStoresInto_63 : decode cX7_forbidStoresInto 63 = .ok (.invokevirtual 116, 3) := by decide +kernel
theorem dX7_forbidStoresInto_66 : decode cX7_forbidStoresInto 66 = .ok (.iinc 8 1, 3) := by decide +kernel
theorem dX7_forbidStoresInto_69 : decode cX7_forbidStoresInto 69 = .ok (.goto (-31), 3) := by decide +kernel
theorem dX7_forbidStoresInto_72 : decode cX7_forbidStoresInto 72 = .ok (.iinc 4 1, 3) := by decide +kernel
theorem dX7_forbidStoresInto_75 : decode cX7_forbidStoresInto 75 = .ok (.goto (-64), 3) := by decide +kernel
theorem dX7_forbidStoresInto_78 : decode cX7_forbidStoresInto 78 = .ok (.return_, 1) := by decide +kernel
theorem dX7_isJoined_0 : decode cX7_isJoined 0 = .ok (.iload_n 1, 1) := by decide +kernel
theorem dX7_isJoined_1 : decode cX7_isJoined 1 = .ok (.ifCond .lt 25, 3) := by decide +kernel
theorem dX7_isJoined_4 : decode cX7_isJoined 4 = .ok (.iload_n 1, 1) := by decide +kernel
theorem dX7_isJoined_5 : decode cX7_isJoined 5 = .ok (.aload_n 0, 1) := by decide +kernel
theorem dX7_isJoined_6 : decode cX7_isJoined 6 = .ok (.getfield 41, 3) := by decide +kernel
theorem dX7_isJoined_9 : decode cX7_isJoined 9 = .ok (.arraylength, 1) := by decide +kernel
theorem dX7_isJoined_10 : decode cX7_isJoined 10 = .ok (.if_icmp .ge 16, 3) := by decide +kernel
theorem dX7_isJoined_13 : decode cX7_isJoined 13 = .ok (.aload_n 0, 1) := by decide +kernel
theorem dX7_isJoined_14 : decode cX7_isJoined 14 = .ok (.getfield 41, 3) := by decide +kernel
theorem dX7_isJoined_17 : decode cX7_isJoined 17 = .ok (.iload_n 1, 1) := by decide +kernel
theorem dX7_isJoined_18 : decode cX7_isJoined 18 = .ok (.baload, 1) := by decide +kernel
theorem dX7_isJoined_19 : decode cX7_isJoined 19 = .ok (.ifCond .eq 7, 3) := by decide +kernel
theorem dX7_isJoined_22 : decode cX7_isJoined 22 = .ok (.iconst 1, 1) := by decide +kernel
theorem dX7_isJoined_23 : decode cX7_isJoined 23 = .ok (.goto 4, 3) := by decide +kernel
theorem dX7_isJoined_26 : decode cX7_isJoined 26 = .ok (.iconst 0, 1) := by decide +kernel
theorem dX7_isJoined_27 : decode cX7_isJoined 27 = .ok (.ireturn, 1) := by decide +kernel
theorem dX7_setJoined_0 : decode cX7_setJoined 0 = .ok (.iload_n 1, 1) := by decide +kernel
theorem dX7_setJoined_1 : decode cX7_setJoined 1 = .ok (.ifCond .lt 19, 3) := by decide +kernel
theorem dX7_setJoined_4 : decode cX7_setJoined 4 = .ok (.iload_n 1, 1) := by decide +kernel
theorem dX7_setJoined_5 : decode cX7_setJoined 5 = .ok (.aload_n 0, 1) := by decide +kernel
theorem dX7_setJoined_6 : decode cX7_setJoined 6 = .ok (.getfield 41, 3) := by decide +kernel
theorem dX7_setJoined_9 : decode cX7_setJoined 9 = .ok (.arraylength, 1) := by decide +kernel
theorem dX7_setJoined_10 : decode cX7_setJoined 10 = .ok (.if_icmp .ge 10, 3) := by decide +kernel
theorem dX7_setJoined_13 : decode cX7_setJoined 13 = .ok (.aload_n 0, 1) := by decide +kernel
theorem dX7_setJoined_14 : decode cX7_setJoined 14 = .ok (.getfield 41, 3) := by decide +kernel
theorem dX7_setJoined_17 : decode cX7_setJoined 17 = .ok (.iload_n 1, 1) := by decide +kernel
theorem dX7_setJoined_18 : decode cX7_setJoined 18 = .ok (.iload_n 2, 1) := by decide +kernel
theorem dX7_setJoined_19 : decode cX7_setJoined 19 = .ok (.bastore, 1) := by decide +kernel
theorem dX7_setJoined_20 : decode cX7_setJoined 20 = .ok (.return_, 1) := by decide +kernel
theorem dX7_blocks_0 : decode cX7_blocks 0 = .ok (.iconst 0, 1) := by decide +kernel
theorem dX7_blocks_1 : decode cX7_blocks 1 = .ok (.istore_n 2, 1) := by decide +kernel
theorem dX7_blocks_2 : decode cX7_blocks 2 = .ok (.iconst 0, 1) := by decide +kernel
theorem dX7_blocks_3 : decode cX7_blocks 3 = .ok (.istore_n 3, 1) := by decide +kernel
theorem dX7_blocks_4 : decode cX7_blocks 4 = .ok (.iload_n 3, 1) := by decide +kernel
theorem dX7_blocks_5 : decode cX7_blocks 5 = .ok (.bipush 32, 2) := by decide +kernel
theorem dX7_blocks_7 : decode cX7_blocks 7 = .ok (.if_icmp .ge 33, 3) := by decide +kernel
theorem dX7_blocks_10 : decode cX7_blocks 10 = .ok (.iload_n 2, 1) := by decide +kernel
theorem dX7_blocks_11 : decode cX7_blocks 11 = .ok (.aload_n 0, 1) := by decide +kernel
theorem dX7_blocks_12 : decode cX7_blocks 12 = .ok (.aload_n 1, 1) := by decide +kernel
theorem dX7_blocks_13 : decode cX7_blocks 13 = .ok (.getfield 93, 3) := by decide +kernel
theorem dX7_blocks_16 : decode cX7_blocks 16 = .ok (.iload_n 3, 1) := by decide +kernel
theorem dX7_blocks_17 : decode cX7_blocks 17 = .ok (.aaload, 1) := by decide +kernel
theorem dX7_blocks_18 : decode cX7_blocks 18 = .ok (.getfield 119, 3) := by decide +kernel
theorem dX7_blocks_21 : decode cX7_blocks 21 = .ok (.invokevirtual 194, 3) := by decide +kernel
theorem dX7_blocks_24 : decode cX7_blocks 24 = .ok (.ifCond .eq 7, 3) := by decide +kernel
theorem dX7_blocks_27 : decode cX7_blocks 27 = .ok (.iconst 1, 1) := by decide +kernel
theorem dX7_blocks_28 : decode cX7_blocks 28 = .ok (.goto 4, 3) := by decide +kernel
theorem dX7_blocks_31 : decode cX7_blocks 31 = .ok (.iconst 0, 1) := by decide +kernel
theorem dX7_blocks_32 : decode cX7_blocks 32 = .ok (.iadd, 1) := by decide +kernel
theorem dX7_blocks_33 : decode cX7_blocks 33 = .ok (.istore_n 2, 1) := by decide +kernel
theorem dX7_blocks_34 : decode cX7_blocks 34 = .ok (.iinc 3 4, 3) := by decide +kernel
theorem dX7_blocks_37 : decode cX7_blocks 37 = .ok (.goto (-33), 3) := by decide +kernel
theorem dX7_blocks_40 : decode cX7_blocks 40 = .ok (.iload_n 2, 1) := by decide +kernel
theorem dX7_blocks_41 : decode cX7_blocks 41 = .ok (.ireturn, 1) := by decide +kernel
theorem dX7_canBeBlock_0 : decode cX7_canBeBlock 0 = .ok (.iload_n 1, 1) := by decide +kernel
theorem dX7_canBeBlock_1 : decode cX7_canBeBlock 1 = .ok (.ifCond .lt 11, 3) := by decide +kernel
theorem dX7_canBeBlock_4 : decode cX7_canBeBlock 4 = .ok (.iload_n 1, 1) := by decide +kernel
theorem dX7_canBeBlock_5 : decode cX7_canBeBlock 5 = .ok (.iconst 4, 1) := by decide +kernel
theorem dX7_canBeBlock_6 : decode cX7_canBeBlock 6 = .ok (.iadd, 1) := by decide +kernel
theorem dX7_canBeBlock_7 : decode cX7_canBeBlock 7 = .ok (.bipush 32, 2) := by decide +kernel
theorem dX7_canBeBlock_9 : decode cX7_canBeBlock 9 = .ok (.if_icmp .le 5, 3) := by decide +kernel
theorem dX7_canBeBlock_12 : decode cX7_canBeBlock 12 = .ok (.iconst 0, 1) := by decide +kernel
theorem dX7_canBeBlock_13 : decode cX7_canBeBlock 13 = .ok (.ireturn, 1) := by decide +kernel
theorem dX7_canBeBlock_14 : decode cX7_canBeBlock 14 = .ok (.iload_n 1, 1) := by decide +kernel
theorem dX7_canBeBlock_15 : decode cX7_canBeBlock 15 = .ok (.istore_n 2, 1) := by decide +kernel
theorem dX7_canBeBlock_16 : decode cX7_canBeBlock 16 = .ok (.iload_n 2, 1) := by decide +kernel
theorem dX7_canBeBlock_17 : decode cX7_canBeBlock 17 = .ok (.iload_n 1, 1) := by decide +kernel
theorem dX7_canBeBlock_18 : decode cX7_canBeBlock 18 = .ok (.iconst 4, 1) := by decide +kernel
theorem dX7_canBeBlock_19 : decode cX7_canBeBlock 19 = .ok (.iadd, 1) := by decide +kernel
theorem dX7_canBeBlock_20 : decode cX7_canBeBlock 20 = .ok (.if_icmp .ge 76, 3) := by decide +kernel
theorem dX7_canBeBlock_23 : decode cX7_canBeBlock 23 = .ok (.aload_n 0, 1) := by decide +kernel
theorem dX7_canBeBlock_24 : decode cX7_canBeBlock 24 = .ok (.getfield 93, 3) := by decide +kernel
theorem dX7_canBeBlock_27 : decode cX7_canBeBlock 27 = .ok (.iload_n 2, 1) := by decide +kernel
theorem dX7_canBeBlock_28 : decode cX7_canBeBlock 28 = .ok (.aaload, 1) := by decide +kernel
theorem dX7_canBeBlock_29 : decode cX7_canBeBlock 29 = .ok (.astore_n 3, 1) := by decide +kernel
theorem dX7_canBeBlock_30 : decode cX7_canBeBlock 30 = .ok (.aload_n 3, 1) := by decide +kernel
theorem dX7_canBeBlock_31 : decode cX7_canBeBlock 31 = .ok (.getfield 229, 3) := by decide +kernel
theorem dX7_canBeBlock_34 : decode cX7_canBeBlock 34 = .ok (.astore 4, 2) := by decide +kernel
theorem dX7_canBeBlock_36 : decode cX7_canBeBlock 36 = .ok (.aload_n 3, 1) := by decide +kernel
theorem dX7_canBeBlock_37 : decode cX7_canBeBlock 37 = .ok (.getfield 307, 3) := by decide +kernel
theorem dX7_canBeBlock_40 : decode cX7_canBeBlock 40 = .ok (.iconst (-1), 1) := by decide +kernel
theorem dX7_canBeBlock_41 : decode cX7_canBeBlock 41 = .ok (.if_icmp .ne 25, 3) := by decide +kernel
theorem dX7_canBeBlock_44 : decode cX7_canBeBlock 44 = .ok (.aload 4, 2) := by decide +kernel
theorem dX7_canBeBlock_46 : decode cX7_canBeBlock 46 = .ok (.ifnull 20, 3) := by decide +kernel
theorem dX7_canBeBlock_49 : decode cX7_canBeBlock 49 = .ok (.aload 4, 2) := by decide +kernel
theorem dX7_canBeBlock_51 : decode cX7_canBeBlock 51 = .ok (.invokevirtual 308, 3) := by decide +kernel
theorem dX7_canBeBlock_54 : decode cX7_canBeBlock 54 = .ok (.ifCond .eq 12, 3) := by decide +kernel
theorem dX7_canBeBlock_57 : decode cX7_canBeBlock 57 = .ok (.aload 4, 2) := by decide +kernel
theorem dX7_canBeBlock_59 : decode cX7_canBeBlock 59 = .ok (.getfield 300, 3) := by decide +kernel
theorem dX7_canBeBlock_62 : decode cX7_canBeBlock 62 = .ok (.iconst 1, 1) := by decide +kernel
theorem dX7_canBeBlock_63 : decode cX7_canBeBlock 63 = .ok (.if_icmp .eq 5, 3) := by decide +kernel
theorem dX7_canBeBlock_66 : decode cX7_canBeBlock 66 = .ok (.iconst 0, 1) := by decide +kernel
theorem dX7_canBeBlock_67 : decode cX7_canBeBlock 67 = .ok (.ireturn, 1) := by decide +kernel
theorem dX7_canBeBlock_68 : decode cX7_canBeBlock 68 = .ok (.iload_n 2, 1) := by decide +kernel
theorem dX7_canBeBlock_69 : decode cX7_canBeBlock 69 = .ok (.iload_n 1, 1) := by decide +kernel
theorem dX7_canBeBlock_70 : decode cX7_canBeBlock 70 = .ok (.if_icmp .le 20, 3) := by decide +kernel
theorem dX7_canBeBlock_73 : decode cX7_canBeBlock 73 = .ok (.aload_n 3, 1) := by decide +kernel
theorem dX7_canBeBlock_74 : decode cX7_canBeBlock 74 = .ok (.aload_n 0, 1) := by decide +kernel
theorem dX7_canBeBlock_75 : decode cX7_canBeBlock 75 = .ok (.getfield 93, 3) := by decide +kernel
theorem dX7_canBeBlock_78 : decode cX7_canBeBlock 78 = .ok (.iload_n 2, 1) := by decide +kernel
theorem dX7_canBeBlock_79 : decode cX7_canBeBlock 79 = .ok (.iconst 1, 1) := by decide +kernel
theorem dX7_canBeBlock_80 : decode cX7_canBeBlock 80 = .ok (.isub, 1) := by decide +kernel
theorem dX7_canBeBlock_81 : decode cX7_canBeBlock 81 = .ok (.aaload, 1) := by decide +kernel
theorem dX7_canBeBlock_82 : decode cX7_canBeBlock 82 = .ok (.invokevirtual 311, 3) := by decide +kernel
theorem dX7_canBeBlock_85 : decode cX7_canBeBlock 85 = .ok (.ifCond .ne 5, 3) := by decide +kernel
theorem dX7_canBeBlock_88 : decode cX7_canBeBlock 88 = .ok (.iconst 0, 1) := by decide +kernel
theorem dX7_canBeBlock_89 : decode cX7_canBeBlock 89 = .ok (.ireturn, 1) := by decide +kernel
theorem dX7_canBeBlock_90 : decode cX7_canBeBlock 90 = .ok (.iinc 2 1, 3) := by decide +kernel
theorem dX7_canBeBlock_93 : decode cX7_canBeBlock 93 = .ok (.goto (-77), 3) := by decide +kernel
theorem dX7_canBeBlock_96 : decode cX7_canBeBlock 96 = .ok (.iconst 1, 1) := by decide +kernel
theorem dX7_canBeBlock_97 : decode cX7_canBeBlock 97 = .ok (.ireturn, 1) := by decide +kernel
theorem dX7_access_0 : decode cX7_access 0 = .ok (.aload_n 1, 1) := by decide +kernel
theorem dX7_access_1 : decode cX7_access 1 = .ok (.invokevirtual 191, 3) := by decide +kernel
theorem dX7_access_4 : decode cX7_access 4 = .ok (.pop, 1) := by decide +kernel
theorem dX7_access_5 : decode cX7_access 5 = .ok (.iload_n 3, 1) := by decide +kernel
theorem dX7_access_6 : decode cX7_access 6 = .ok (.ifCond .lt 9, 3) := by decide +kernel
theorem dX7_access_9 : decode cX7_access 9 = .ok (.iload_n 3, 1) := by decide +kernel
theorem dX7_access_10 : decode cX7_access 10 = .ok (.bipush 32, 2) := by decide +kernel
theorem dX7_access_12 : decode cX7_access 12 = .ok (.if_icmp .lt 6, 3) := by decide +kernel
theorem dX7_access_15 : decode cX7_access 15 = .ok (.bipush (-2), 2) := by decide +kernel
theorem dX7_access_17 : decode cX7_access 17 = .ok (.ireturn, 1) := by decide +kernel
theorem dX7_access_18 : decode cX7_access 18 = .ok (.aload_n 2, 1) := by decide +kernel
theorem dX7_access_19 : decode cX7_access 19 = .ok (.getfield 93, 3) := by decide +kernel
theorem dX7_access_22 : decode cX7_access 22 = .ok (.iload_n 3, 1) := by decide +kernel
theorem dX7_access_23 : decode cX7_access 23 = .ok (.aaload, 1) := by decide +kernel
theorem dX7_access_24 : decode cX7_access 24 = .ok (.astore 5, 2) := by decide +kernel
theorem dX7_access_26 : decode cX7_access 26 = .ok (.aload 5, 2) := by decide +kernel
theorem dX7_access_28 : decode cX7_access 28 = .ok (.getfield 111, 3) := by decide +kernel
theorem dX7_access_31 : decode cX7_access 31 = .ok (.ifCond .ne 14, 3) := by decide +kernel
theorem dX7_access_34 : decode cX7_access 34 = .ok (.aload_n 2, 1) := by decide +kernel
theorem dX7_access_35 : decode cX7_access 35 = .ok (.iload_n 3, 1) := by decide +kernel
theorem dX7_access_36 : decode cX7_access 36 = .ok (.invokevirtual 314, 3) := by decide +kernel
theorem dX7_access_39 : decode cX7_access 39 = .ok (.ifCond .ne 6, 3) := by decide +kernel
theorem dX7_access_42 : decode cX7_access 42 = .ok (.bipush (-2), 2) := by decide +kernel
theorem dX7_access_44 : decode cX7_access 44 = .ok (.ireturn, 1) := by decide +kernel
theorem dX7_access_45 : decode cX7_access 45 = .ok (.iload 4, 2) := by decide +kernel
theorem dX7_access_47 : decode cX7_access 47 = .ok (.iconst (-1), 1) := by decide +kernel
theorem dX7_access_48 : decode cX7_access 48 = .ok (.if_icmp .eq 7, 3) := by decide +kernel
theorem dX7_access_51 : decode cX7_access 51 = .ok (.iconst 1, 1) := by decide +kernel
theorem dX7_access_52 : decode cX7_access 52 = .ok (.goto 4, 3) := by decide +kernel
theorem dX7_access_55 : decode cX7_access 55 = .ok (.iconst 0, 1) := by decide +kernel
theorem dX7_access_56 : decode cX7_access 56 = .ok (.istore 6, 2) := by decide +kernel
theorem dX7_access_58 : decode cX7_access 58 = .ok (.aload 5, 2) := by decide +kernel
theorem dX7_access_60 : decode cX7_access 60 = .ok (.getfield 113, 3) := by decide +kernel
theorem dX7_access_63 : decode cX7_access 63 = .ok (.iload 6, 2) := by decide +kernel
theorem dX7_access_65 : decode cX7_access 65 = .ok (.ifCond .eq 7, 3) := by decide +kernel
theorem dX7_access_68 : decode cX7_access 68 = .ok (.iconst 2, 1) := by decide +kernel
theorem dX7_access_69 : decode cX7_access 69 = .ok (.goto 4, 3) := by decide +kernel
theorem dX7_access_72 : decode cX7_access 72 = .ok (.iconst 1, 1) := by decide +kernel
theorem dX7_access_73 : decode cX7_access 73 = .ok (.iand, 1) := by decide +kernel
theorem dX7_access_74 : decode cX7_access 74 = .ok (.ifCond .ne 6, 3) := by decide +kernel
theorem dX7_access_77 : decode cX7_access 77 = .ok (.bipush (-3), 2) := by decide +kernel
theorem dX7_access_79 : decode cX7_access 79 = .ok (.ireturn, 1) := by decide +kernel
theorem dX7_access_80 : decode cX7_access 80 = .ok (.aload_n 1, 1) := by decide +kernel
theorem dX7_access_81 : decode cX7_access 81 = .ok (.aload 5, 2) := by decide +kernel
theorem dX7_access_83 : decode cX7_access 83 = .ok (.iload 6, 2) := by decide +kernel
theorem dX7_access_85 : decode cX7_access 85 = .ok (.invokevirtual 317, 3) := by decide +kernel
theorem dX7_access_88 : decode cX7_access 88 = .ok (.ifCond .eq 16, 3) := by decide +kernel
theorem dX7_access_91 : decode cX7_access 91 = .ok (.aload_n 0, 1) := by decide +kernel
theorem dX7_access_92 : decode cX7_access 92 = .ok (.getfield 48, 3) := by decide +kernel
theorem dX7_access_95 : decode cX7_access 95 = .ok (.iconst 0, 1) := by decide +kernel
theorem dX7_access_96 : decode cX7_access 96 = .ok (.dup2, 1) := by decide +kernel
theorem dX7_access_97 : decode cX7_access 97 = .ok (.iaload, 1) := by decide +kernel
theorem dX7_access_98 : decode cX7_access 98 = .ok (.iconst 1, 1) := by decide +kernel
theorem dX7_access_99 : decode cX7_access 99 = .ok (.iadd, 1) := by decide +kernel
theorem dX7_access_100 : decode cX7_access 100 = .ok (.iastore, 1) := by decide +kernel
theorem dX7_access_101 : decode cX7_access 101 = .ok (.goto 113, 3) := by decide +kernel
theorem dX7_access_104 : decode cX7_access 104 = .ok (.aload_n 0, 1) := by decide +kernel
theorem dX7_access_105 : decode cX7_access 105 = .ok (.getfield 48, 3) := by decide +kernel
theorem dX7_access_108 : decode cX7_access 108 = .ok (.iconst 1, 1) := by decide +kernel
theorem dX7_access_109 : decode cX7_access 109 = .ok (.dup2, 1) := by decide +kernel
theorem dX7_access_110 : decode cX7_access 110 = .ok (.iaload, 1) := by decide +kernel
theorem dX7_access_111 : decode cX7_access 111 = .ok (.iconst 1, 1) := by decide +kernel
theorem dX7_access_112 : decode cX7_access 112 = .ok (.iadd, 1) := by decide +kernel
theorem dX7_access_113 : decode cX7_access 113 = .ok (.iastore, 1) := by decide +kernel
theorem dX7_access_114 : decode cX7_access 114 = .ok (.aload 5, 2) := by decide +kernel
theorem dX7_access_116 : decode cX7_access 116 = .ok (.getfield 229, 3) := by decide +kernel
theorem dX7_access_119 : decode cX7_access 119 = .ok (.astore 7, 2) := by decide +kernel
theorem dX7_access_121 : decode cX7_access 121 = .ok (.aload 5, 2) := by decide +kernel
theorem dX7_access_123 : decode cX7_access 123 = .ok (.getfield 226, 3) := by decide +kernel
theorem dX7_access_126 : decode cX7_access 126 = .ok (.ifCond .ne 45, 3) := by decide +kernel
theorem dX7_access_129 : decode cX7_access 129 = .ok (.aload 5, 2) := by decide +kernel
theorem dX7_access_131 : decode cX7_access 131 = .ok (.getfield 307, 3) := by decide +kernel
theorem dX7_access_134 : decode cX7_access 134 = .ok (.iconst (-1), 1) := by decide +kernel
theorem dX7_access_135 : decode cX7_access 135 = .ok (.if_icmp .eq 36, 3) := by decide +kernel
theorem dX7_access_138 : decode cX7_access 138 = .ok (.aload_n 0, 1) := by decide +kernel
theorem dX7_access_139 : decode cX7_access 139 = .ok (.aload 5, 2) := by decide +kernel
theorem dX7_access_141 : decode cX7_access 141 = .ok (.getfield 307, 3) := by decide +kernel
theorem dX7_access_144 : decode cX7_access 144 = .ok (.aload 5, 2) := by decide +kernel
theorem dX7_access_146 : decode cX7_access 146 = .ok (.getfield 321, 3) := by decide +kernel
theorem dX7_access_149 : decode cX7_access 149 = .ok (.aload_n 2, 1) := by decide +kernel
theorem dX7_access_150 : decode cX7_access 150 = .ok (.invokevirtual 324, 3) := by decide +kernel
theorem dX7_access_153 : decode cX7_access 153 = .ok (.istore 8, 2) := by decide +kernel
theorem dX7_access_155 : decode cX7_access 155 = .ok (.aload_n 0, 1) := by decide +kernel
theorem dX7_access_156 : decode cX7_access 156 = .ok (.iload 8, 2) := by decide +kernel
theorem dX7_access_158 : decode cX7_access 158 = .ok (.invokevirtual 328, 3) := by decide +kernel
theorem dX7_access_161 : decode cX7_access 161 = .ok (.astore 7, 2) := by decide +kernel
theorem dX7_access_163 : decode cX7_access 163 = .ok (.aload 7, 2) := by decide +kernel
theorem dX7_access_165 : decode cX7_access 165 = .ok (.ifnonnull 6, 3) := by decide +kernel
theorem dX7_access_168 : decode cX7_access 168 = .ok (.iload 8, 2) := by decide +kernel
theorem dX7_access_170 : decode cX7_access 170 = .ok (.ireturn, 1) := by decide +kernel
theorem dX7_access_171 : decode cX7_access 171 = .ok (.aload_n 0, 1) := by decide +kernel
theorem dX7_access_172 : decode cX7_access 172 = .ok (.aload_n 2, 1) := by decide +kernel
theorem dX7_access_173 : decode cX7_access 173 = .ok (.aload 5, 2) := by decide +kernel
theorem dX7_access_175 : decode cX7_access 175 = .ok (.aload 7, 2) := by decide +kernel
theorem dX7_access_177 : decode cX7_access 177 = .ok (.iload 6, 2) := by decide +kernel
theorem dX7_access_179 : decode cX7_access 179 = .ok (.invokevirtual 332, 3) := by decide +kernel
theorem dX7_access_182 : decode cX7_access 182 = .ok (.istore 8, 2) := by decide +kernel
theorem dX7_access_184 : decode cX7_access 184 = .ok (.iload 8, 2) := by decide +kernel
theorem dX7_access_186 : decode cX7_access 186 = .ok (.ifCond .ge 6, 3) := by decide +kernel
theorem dX7_access_189 : decode cX7_access 189 = .ok (.iload 8, 2) := by decide +kernel
theorem dX7_access_191 : decode cX7_access 191 = .ok (.ireturn, 1) := by decide +kernel
theorem dX7_access_192 : decode cX7_access 192 = .ok (.aload 5, 2) := by decide +kernel
theorem dX7_access_194 : decode cX7_access 194 = .ok (.getfield 229, 3) := by decide +kernel
theorem dX7_access_197 : decode cX7_access 197 = .ok (.ifnonnull 6, 3) := by decide +kernel
theorem dX7_access_200 : decode cX7_access 200 = .ok (.bipush (-5), 2) := by decide +kernel
theorem dX7_access_202 : decode cX7_access 202 = .ok (.ireturn, 1) := by decide +kernel
theorem dX7_access_203 : decode cX7_access 203 = .ok (.aload_n 1, 1) := by decide +kernel
theorem dX7_access_204 : decode cX7_access 204 = .ok (.aload 5, 2) := by decide +kernel
theorem dX7_access_206 : decode cX7_access 206 = .ok (.aload 5, 2) := by decide +kernel
theorem dX7_access_208 : decode cX7_access 208 = .ok (.getfield 229, 3) := by decide +kernel
theorem dX7_access_211 : decode cX7_access 211 = .ok (.invokevirtual 336, 3) := by decide +kernel
theorem dX7_access_214 : decode cX7_access 214 = .ok (.aload 5, 2) := by decide +kernel
theorem dX7_access_216 : decode cX7_access 216 = .ok (.getfield 229, 3) := by decide +kernel
theorem dX7_access_219 : decode cX7_access 219 = .ok (.ifnonnull 8, 3) := by decide +kernel
theorem dX7_access_222 : decode cX7_access 222 = .ok (.bipush (-5), 2) := by decide +kernel
theorem dX7_access_224 : decode cX7_access 224 = .ok (.goto 13, 3) := by decide +kernel
theorem dX7_access_227 : decode cX7_access 227 = .ok (.aload 5, 2) := by decide +kernel
theorem dX7_access_229 : decode cX7_access 229 = .ok (.getfield 229, 3) := by decide +kernel
theorem dX7_access_232 : decode cX7_access 232 = .ok (.iload 4, 2) := by decide +kernel
theorem dX7_access_234 : decode cX7_access 234 = .ok (.invokestatic 340, 3) := by decide +kernel
theorem dX7_access_237 : decode cX7_access 237 = .ok (.ireturn, 1) := by decide +kernel
theorem dX7_fault_0 : decode cX7_fault 0 = .ok (.aload_n 3, 1) := by decide +kernel
theorem dX7_fault_1 : decode cX7_fault 1 = .ok (.ifnull 59, 3) := by decide +kernel
theorem dX7_fault_4 : decode cX7_fault 4 = .ok (.iload 4, 2) := by decide +kernel
theorem dX7_fault_6 : decode cX7_fault 6 = .ok (.ifCond .eq 18, 3) := by decide +kernel
theorem dX7_fault_9 : decode cX7_fault 9 = .ok (.aload_n 2, 1) := by decide +kernel
theorem dX7_fault_10 : decode cX7_fault 10 = .ok (.getfield 236, 3) := by decide +kernel
theorem dX7_fault_13 : decode cX7_fault 13 = .ok (.ifCond .ne 11, 3) := by decide +kernel
theorem dX7_fault_16 : decode cX7_fault 16 = .ok (.aload_n 2, 1) := by decide +kernel
theorem dX7_fault_17 : decode cX7_fault 17 = .ok (.aload_n 3, 1) := by decide +kernel
theorem dX7_fault_18 : decode cX7_fault 18 = .ok (.invokestatic 344, 3) := by decide +kernel
theorem dX7_fault_21 : decode cX7_fault 21 = .ok (.ifCond .eq 39, 3) := by decide +kernel
theorem dX7_fault_24 : decode cX7_fault 24 = .ok (.aload_n 2, 1) := by decide +kernel
theorem dX7_fault_25 : decode cX7_fault 25 = .ok (.getfield 229, 3) := by decide +kernel
theorem dX7_fault_28 : decode cX7_fault 28 = .ok (.aload_n 3, 1) := by decide +kernel
theorem dX7_fault_29 : decode cX7_fault 29 = .ok (.if_acmp .eq 14, 3) := by decide +kernel
theorem dX7_fault_32 : decode cX7_fault 32 = .ok (.aload_n 0, 1) := by decide +kernel
theorem dX7_fault_33 : decode cX7_fault 33 = .ok (.aload_n 2, 1) := by decide +kernel
theorem dX7_fault_34 : decode cX7_fault 34 = .ok (.aload_n 3, 1) := by decide +kernel
theorem dX7_fault_35 : decode cX7_fault 35 = .ok (.iload 4, 2) := by decide +kernel
theorem dX7_fault_37 : decode cX7_fault 37 = .ok (.invokevirtual 348, 3) := by decide +kernel
theorem dX7_fault_40 : decode cX7_fault 40 = .ok (.goto 18, 3) := by decide +kernel
theorem dX7_fault_43 : decode cX7_fault 43 = .ok (.iload 4, 2) := by decide +kernel
theorem dX7_fault_45 : decode cX7_fault 45 = .ok (.ifCond .eq 13, 3) := by decide +kernel
theorem dX7_fault_48 : decode cX7_fault 48 = .ok (.aload_n 2, 1) := by decide +kernel
theorem dX7_fault_49 : decode cX7_fault 49 = .ok (.iconst 1, 1) := by decide +kernel
theorem dX7_fault_50 : decode cX7_fault 50 = .ok (.putfield 236, 3) := by decide +kernel
theorem dX7_fault_53 : decode cX7_fault 53 = .ok (.aload_n 3, 1) := by decide +kernel
theorem dX7_fault_54 : decode cX7_fault 54 = .ok (.iconst 0, 1) := by decide +kernel
theorem dX7_fault_55 : decode cX7_fault 55 = .ok (.putfield 352, 3) := by decide +kernel
theorem dX7_fault_58 : decode cX7_fault 58 = .ok (.iconst 0, 1) := by decide +kernel
theorem dX7_fault_59 : decode cX7_fault 59 = .ok (.ireturn, 1) := by decide +kernel
theorem dX7_fault_60 : decode cX7_fault 60 = .ok (.aload_n 3, 1) := by decide +kernel
theorem dX7_fault_61 : decode cX7_fault 61 = .ok (.ifnull 10, 3) := by decide +kernel
theorem dX7_fault_64 : decode cX7_fault 64 = .ok (.aload_n 3, 1) := by decide +kernel
theorem dX7_fault_65 : decode cX7_fault 65 = .ok (.getfield 355, 3) := by decide +kernel
theorem dX7_fault_68 : decode cX7_fault 68 = .ok (.goto 21, 3) := by decide +kernel
theorem dX7_fault_71 : decode cX7_fault 71 = .ok (.aload_n 2, 1) := by decide +kernel
theorem dX7_fault_72 : decode cX7_fault 72 = .ok (.getfield 243, 3) := by decide +kernel
theorem dX7_fault_75 : decode cX7_fault 75 = .ok (.ifnull 13, 3) := by decide +kernel
theorem dX7_fault_78 : decode cX7_fault 78 = .ok (.aload_n 2, 1) := by decide +kernel
theorem dX7_fault_79 : decode cX7_fault 79 = .ok (.getfield 243, 3) := by decide +kernel
theorem dX7_fault_82 : decode cX7_fault 82 = .ok (.getfield 358, 3) := by decide +kernel
theorem dX7_fault_85 : decode cX7_fault 85 = .ok (.goto 4, 3) := by decide +kernel
theorem dX7_fault_88 : decode cX7_fault 88 = .ok (.iconst 0, 1) := by decide +kernel
theorem dX7_fault_89 : decode cX7_fault 89 = .ok (.istore 5, 2) := by decide +kernel
theorem dX7_fault_91 : decode cX7_fault 91 = .ok (.aload_n 0, 1) := by decide +kernel
theorem dX7_fault_92 : decode cX7_fault 92 = .ok (.aload_n 1, 1) := by decide +kernel
theorem dX7_fault_93 : decode cX7_fault 93 = .ok (.getfield 132, 3) := by decide +kernel
theorem dX7_fault_96 : decode cX7_fault 96 = .ok (.aload_n 1, 1) := by decide +kernel
theorem dX7_fault_97 : decode cX7_fault 97 = .ok (.invokevirtual 359, 3) := by decide +kernel
theorem dX7_fault_100 : decode cX7_fault 100 = .ok (.istore 6, 2) := by decide +kernel
theorem dX7_fault_102 : decode cX7_fault 102 = .ok (.aload_n 0, 1) := by decide +kernel
theorem dX7_fault_103 : decode cX7_fault 103 = .ok (.iload 6, 2) := by decide +kernel
theorem dX7_fault_105 : decode cX7_fault 105 = .ok (.invokevirtual 328, 3) := by decide +kernel
theorem dX7_fault_108 : decode cX7_fault 108 = .ok (.astore 7, 2) := by decide +kernel
theorem dX7_fault_110 : decode cX7_fault 110 = .ok (.aload 7, 2) := by decide +kernel
theorem dX7_fault_112 : decode cX7_fault 112 = .ok (.ifnonnull 6, 3) := by decide +kernel
theorem dX7_fault_115 : decode cX7_fault 115 = .ok (.iload 6, 2) := by decide +kernel
theorem dX7_fault_117 : decode cX7_fault 117 = .ok (.ireturn, 1) := by decide +kernel
theorem dX7_fault_118 : decode cX7_fault 118 = .ok (.aload 7, 2) := by decide +kernel
theorem dX7_fault_120 : decode cX7_fault 120 = .ok (.iconst 1, 1) := by decide +kernel
theorem dX7_fault_121 : decode cX7_fault 121 = .ok (.iload 5, 2) := by decide +kernel
theorem dX7_fault_123 : decode cX7_fault 123 = .ok (.aload_n 1, 1) := by decide +kernel
theorem dX7_fault_124 : decode cX7_fault 124 = .ok (.getfield 132, 3) := by decide +kernel
theorem dX7_fault_127 : decode cX7_fault 127 = .ok (.invokevirtual 363, 3) := by decide +kernel
theorem dX7_fault_130 : decode cX7_fault 130 = .ok (.aload_n 0, 1) := by decide +kernel
theorem dX7_fault_131 : decode cX7_fault 131 = .ok (.aload 7, 2) := by decide +kernel
theorem dX7_fault_133 : decode cX7_fault 133 = .ok (.iconst 0, 1) := by decide +kernel
theorem dX7_fault_134 : decode cX7_fault 134 = .ok (.invokevirtual 366, 3) := by decide +kernel
theorem dX7_fault_137 : decode cX7_fault 137 = .ok (.aload_n 0, 1) := by decide +kernel
theorem dX7_fault_138 : decode cX7_fault 138 = .ok (.getfield 48, 3) := by decide +kernel
theorem dX7_fault_141 : decode cX7_fault 141 = .ok (.bipush 6, 2) := by decide +kernel
theorem dX7_fault_143 : decode cX7_fault 143 = .ok (.dup2, 1) := by decide +kernel
theorem dX7_fault_144 : decode cX7_fault 144 = .ok (.iaload, 1) := by decide +kernel
theorem dX7_fault_145 : decode cX7_fault 145 = .ok (.aload_n 3, 1) := by decide +kernel
theorem dX7_fault_146 : decode cX7_fault 146 = .ok (.ifnonnull 7, 3) := by decide +kernel
theorem dX7_fault_149 : decode cX7_fault 149 = .ok (.iconst 0, 1) := by decide +kernel
theorem dX7_fault_150 : decode cX7_fault 150 = .ok (.goto 4, 3) := by decide +kernel
theorem dX7_fault_153 : decode cX7_fault 153 = .ok (.iconst 1, 1) := by decide +kernel
theorem dX7_fault_154 : decode cX7_fault 154 = .ok (.iadd, 1) := by decide +kernel
theorem dX7_fault_155 : decode cX7_fault 155 = .ok (.iastore, 1) := by decide +kernel
theorem dX7_fault_156 : decode cX7_fault 156 = .ok (.aload_n 0, 1) := by decide +kernel
theorem dX7_fault_157 : decode cX7_fault 157 = .ok (.aload_n 2, 1) := by decide +kernel
theorem dX7_fault_158 : decode cX7_fault 158 = .ok (.aload 7, 2) := by decide +kernel
theorem dX7_fault_160 : decode cX7_fault 160 = .ok (.iload 4, 2) := by decide +kernel
theorem dX7_fault_162 : decode cX7_fault 162 = .ok (.invokevirtual 348, 3) := by decide +kernel
theorem dX7_fault_165 : decode cX7_fault 165 = .ok (.iconst 0, 1) := by decide +kernel
theorem dX7_fault_166 : decode cX7_fault 166 = .ok (.ireturn, 1) := by decide +kernel
theorem dX7_isStorable_0 : decode cX7_isStorable 0 = .ok (.aload_n 1, 1) := by decide +kernel
theorem dX7_isStorable_1 : decode cX7_isStorable 1 = .ok (.getfield 171, 3) := by decide +kernel
theorem dX7_isStorable_4 : decode cX7_isStorable 4 = .ok (.iconst 2, 1) := by decide +kernel
theorem dX7_isStorable_5 : decode cX7_isStorable 5 = .ok (.if_icmp .ne 10, 3) := by decide +kernel
theorem dX7_isStorable_8 : decode cX7_isStorable 8 = .ok (.aload_n 0, 1) := by decide +kernel
theorem dX7_isStorable_9 : decode cX7_isStorable 9 = .ok (.getfield 370, 3) := by decide +kernel
theorem dX7_isStorable_12 : decode cX7_isStorable 12 = .ok (.goto 16, 3) := by decide +kernel
theorem dX7_isStorable_15 : decode cX7_isStorable 15 = .ok (.aload_n 1, 1) := by decide +kernel
theorem dX7_isStorable_16 : decode cX7_isStorable 16 = .ok (.getfield 300, 3) := by decide +kernel
theorem dX7_isStorable_19 : decode cX7_isStorable 19 = .ok (.iconst 1, 1) := by decide +kernel
theorem dX7_isStorable_20 : decode cX7_isStorable 20 = .ok (.if_icmp .ne 7, 3) := by decide +kernel
theorem dX7_isStorable_23 : decode cX7_isStorable 23 = .ok (.iconst 1, 1) := by decide +kernel
theorem dX7_isStorable_24 : decode cX7_isStorable 24 = .ok (.goto 4, 3) := by decide +kernel
theorem dX7_isStorable_27 : decode cX7_isStorable 27 = .ok (.iconst 0, 1) := by decide +kernel
theorem dX7_isStorable_28 : decode cX7_isStorable 28 = .ok (.ireturn, 1) := by decide +kernel
theorem dX7_touch_0 : decode cX7_touch 0 = .ok (.aload_n 0, 1) := by decide +kernel
theorem dX7_touch_1 : decode cX7_touch 1 = .ok (.getfield 355, 3) := by decide +kernel
theorem dX7_touch_4 : decode cX7_touch 4 = .ok (.istore_n 2, 1) := by decide +kernel
theorem dX7_touch_5 : decode cX7_touch 5 = .ok (.aload_n 0, 1) := by decide +kernel
theorem dX7_touch_6 : decode cX7_touch 6 = .ok (.iconst 1, 1) := by decide +kernel
theorem dX7_touch_7 : decode cX7_touch 7 = .ok (.putfield 373, 3) := by decide +kernel
theorem dX7_touch_10 : decode cX7_touch 10 = .ok (.iload_n 1, 1) := by decide +kernel
theorem dX7_touch_11 : decode cX7_touch 11 = .ok (.iconst (-1), 1) := by decide +kernel
theorem dX7_touch_12 : decode cX7_touch 12 = .ok (.if_icmp .eq 25, 3) := by decide +kernel
theorem dX7_touch_15 : decode cX7_touch 15 = .ok (.aload_n 0, 1) := by decide +kernel
theorem dX7_touch_16 : decode cX7_touch 16 = .ok (.iload_n 1, 1) := by decide +kernel
theorem dX7_touch_17 : decode cX7_touch 17 = .ok (.putfield 355, 3) := by decide +kernel
theorem dX7_touch_20 : decode cX7_touch 20 = .ok (.aload_n 0, 1) := by decide +kernel
theorem dX7_touch_21 : decode cX7_touch 21 = .ok (.aload_n 0, 1) := by decide +kernel
theorem dX7_touch_22 : decode cX7_touch 22 = .ok (.getfield 171, 3) := by decide +kernel
theorem dX7_touch_25 : decode cX7_touch 25 = .ok (.iconst 2, 1) := by decide +kernel
theorem dX7_touch_26 : decode cX7_touch 26 = .ok (.if_icmp .ne 7, 3) := by decide +kernel
theorem dX7_touch_29 : decode cX7_touch 29 = .ok (.iconst 1, 1) := by decide +kernel
theorem dX7_touch_30 : decode cX7_touch 30 = .ok (.goto 4, 3) := by decide +kernel
theorem dX7_touch_33 : decode cX7_touch 33 = .ok (.iconst 0, 1) := by decide +kernel
theorem dX7_touch_34 : decode cX7_touch 34 = .ok (.putfield 177, 3) := by decide +kernel
theorem dX7_touch_37 : decode cX7_touch 37 = .ok (.iload_n 2, 1) := by decide +kernel
theorem dX7_touch_38 : decode cX7_touch 38 = .ok (.ireturn, 1) := by decide +kernel
theorem dX7_accessFile_0 : decode cX7_accessFile 0 = .ok (.aload_n 0, 1) := by decide +kernel
theorem dX7_accessFile_1 : decode cX7_accessFile 1 = .ok (.iload_n 1, 1) := by decide +kernel
theorem dX7_accessFile_2 : decode cX7_accessFile 2 = .ok (.iload_n 2, 1) := by decide +kernel
theorem dX7_accessFile_3 : decode cX7_accessFile 3 = .ok (.aconst_null, 1) := by decide +kernel
theorem dX7_accessFile_4 : decode cX7_accessFile 4 = .ok (.invokevirtual 324, 3) := by decide +kernel
theorem dX7_accessFile_7 : decode cX7_accessFile 7 = .ok (.istore 4, 2) := by decide +kernel
theorem dX7_accessFile_9 : decode cX7_accessFile 9 = .ok (.aload_n 0, 1) := by decide +kernel
theorem dX7_accessFile_10 : decode cX7_accessFile 10 = .ok (.iload 4, 2) := by decide +kernel
theorem dX7_accessFile_12 : decode cX7_accessFile 12 = .ok (.invokevirtual 328, 3) := by decide +kernel
theorem dX7_accessFile_15 : decode cX7_accessFile 15 = .ok (.astore 5, 2) := by decide +kernel
theorem dX7_accessFile_17 : decode cX7_accessFile 17 = .ok (.aload 5, 2) := by decide +kernel
theorem dX7_accessFile_19 : decode cX7_accessFile 19 = .ok (.ifnonnull 8, 3) := by decide +kernel
theorem dX7_accessFile_22 : decode cX7_accessFile 22 = .ok (.iload 4, 2) := by decide +kernel
theorem dX7_accessFile_24 : decode cX7_accessFile 24 = .ok (.goto 9, 3) := by decide +kernel
theorem dX7_accessFile_27 : decode cX7_accessFile 27 = .ok (.aload 5, 2) := by decide +kernel
theorem dX7_accessFile_29 : decode cX7_accessFile 29 = .ok (.iload_n 3, 1) := by decide +kernel
theorem dX7_accessFile_30 : decode cX7_accessFile 30 = .ok (.invokestatic 340, 3) := by decide +kernel
theorem dX7_accessFile_33 : decode cX7_accessFile 33 = .ok (.ireturn, 1) := by decide +kernel
theorem dX7_cachedFrame_0 : decode cX7_cachedFrame 0 = .ok (.aload_n 0, 1) := by decide +kernel
theorem dX7_cachedFrame_1 : decode cX7_cachedFrame 1 = .ok (.getfield 17, 3) := by decide +kernel
theorem dX7_cachedFrame_4 : decode cX7_cachedFrame 4 = .ok (.astore 4, 2) := by decide +kernel
theorem dX7_cachedFrame_6 : decode cX7_cachedFrame 6 = .ok (.aload 4, 2) := by decide +kernel
theorem dX7_cachedFrame_8 : decode cX7_cachedFrame 8 = .ok (.arraylength, 1) := by decide +kernel
theorem dX7_cachedFrame_9 : decode cX7_cachedFrame 9 = .ok (.istore 5, 2) := by decide +kernel
theorem dX7_cachedFrame_11 : decode cX7_cachedFrame 11 = .ok (.iconst 0, 1) := by decide +kernel
theorem dX7_cachedFrame_12 : decode cX7_cachedFrame 12 = .ok (.istore 6, 2) := by decide +kernel
theorem dX7_cachedFrame_14 : decode cX7_cachedFrame 14 = .ok (.iload 6, 2) := by decide +kernel
theorem dX7_cachedFrame_16 : decode cX7_cachedFrame 16 = .ok (.iload 5, 2) := by decide +kernel
theorem dX7_cachedFrame_18 : decode cX7_cachedFrame 18 = .ok (.if_icmp .ge 49, 3) := by decide +kernel
theorem dX7_cachedFrame_21 : decode cX7_cachedFrame 21 = .ok (.aload 4, 2) := by decide +kernel
theorem dX7_cachedFrame_23 : decode cX7_cachedFrame 23 = .ok (.iload 6, 2) := by decide +kernel
theorem dX7_cachedFrame_25 : decode cX7_cachedFrame 25 = .ok (.aaload, 1) := by decide +kernel
theorem dX7_cachedFrame_26 : decode cX7_cachedFrame 26 = .ok (.astore 7, 2) := by decide +kernel
theorem dX7_cachedFrame_28 : decode cX7_cachedFrame 28 = .ok (.aload 7, 2) := by decide +kernel
theorem dX7_cachedFrame_30 : decode cX7_cachedFrame 30 = .ok (.getfield 171, 3) := by decide +kernel
theorem dX7_cachedFrame_33 : decode cX7_cachedFrame 33 = .ok (.iconst 2, 1) := by decide +kernel
theorem dX7_cachedFrame_34 : decode cX7_cachedFrame 34 = .ok (.if_icmp .ne 27, 3) := by decide +kernel
theorem dX7_cachedFrame_37 : decode cX7_cachedFrame 37 = .ok (.aload 7, 2) := by decide +kernel
theorem dX7_cachedFrame_39 : decode cX7_cachedFrame 39 = .ok (.getfield 174, 3) := by decide +kernel
theorem dX7_cachedFrame_42 : decode cX7_cachedFrame 42 = .ok (.iload_n 1, 1) := by decide +kernel
theorem dX7_cachedFrame_43 : decode cX7_cachedFrame 43 = .ok (.if_icmp .ne 18, 3) := by decide +kernel
theorem dX7_cachedFrame_46 : decode cX7_cachedFrame 46 = .ok (.aload 7, 2) := by decide +kernel
theorem dX7_cachedFrame_48 : decode cX7_cachedFrame 48 = .ok (.getfield 376, 3) := by decide +kernel
theorem dX7_cachedFrame_51 : decode cX7_cachedFrame 51 = .ok (.iload_n 2, 1) := by decide +kernel
theorem dX7_cachedFrame_52 : decode cX7_cachedFrame 52 = .ok (.if_icmp .ne 9, 3) := by decide +kernel
theorem dX7_cachedFrame_55 : decode cX7_cachedFrame 55 = .ok (.aload 7, 2) := by decide +kernel
theorem dX7_cachedFrame_57 : decode cX7_cachedFrame 57 = .ok (.getfield 233, 3) := by decide +kernel
theorem dX7_cachedFrame_60 : decode cX7_cachedFrame 60 = .ok (.ireturn, 1) := by decide +kernel
theorem dX7_cachedFrame_61 : decode cX7_cachedFrame 61 = .ok (.iinc 6 1, 3) := by decide +kernel
theorem dX7_cachedFrame_64 : decode cX7_cachedFrame 64 = .ok (.goto (-50), 3) := by decide +kernel
theorem dX7_cachedFrame_67 : decode cX7_cachedFrame 67 = .ok (.aload_n 3, 1) := by decide +kernel
theorem dX7_cachedFrame_68 : decode cX7_cachedFrame 68 = .ok (.ifnonnull 7, 3) := by decide +kernel
theorem dX7_cachedFrame_71 : decode cX7_cachedFrame 71 = .ok (.iconst 0, 1) := by decide +kernel
theorem dX7_cachedFrame_72 : decode cX7_cachedFrame 72 = .ok (.goto 7, 3) := by decide +kernel
theorem dX7_cachedFrame_75 : decode cX7_cachedFrame 75 = .ok (.aload_n 3, 1) := by decide +kernel
theorem dX7_cachedFrame_76 : decode cX7_cachedFrame 76 = .ok (.getfield 132, 3) := by decide +kernel
theorem dX7_cachedFrame_79 : decode cX7_cachedFrame 79 = .ok (.istore 4, 2) := by decide +kernel
theorem dX7_cachedFrame_81 : decode cX7_cachedFrame 81 = .ok (.aload_n 0, 1) := by decide +kernel
theorem dX7_cachedFrame_82 : decode cX7_cachedFrame 82 = .ok (.iload 4, 2) := by decide +kernel
theorem dX7_cachedFrame_84 : decode cX7_cachedFrame 84 = .ok (.aload_n 3, 1) := by decide +kernel
theorem dX7_cachedFrame_85 : decode cX7_cachedFrame 85 = .ok (.invokevirtual 359, 3) := by decide +kernel
theorem dX7_cachedFrame_88 : decode cX7_cachedFrame 88 = .ok (.istore 5, 2) := by decide +kernel
theorem dX7_cachedFrame_90 : decode cX7_cachedFrame 90 = .ok (.iload_n 1, 1) := by decide +kernel
theorem dX7_cachedFrame_91 : decode cX7_cachedFrame 91 = .ok (.bipush 8, 2) := by decide +kernel
theorem dX7_cachedFrame_93 : decode cX7_cachedFrame 93 = .ok (.imul, 1) := by decide +kernel
theorem dX7_cachedFrame_94 : decode cX7_cachedFrame 94 = .ok (.iload_n 2, 1) := by decide +kernel
theorem dX7_cachedFrame_95 : decode cX7_cachedFrame 95 = .ok (.iadd, 1) := by decide +kernel
theorem dX7_cachedFrame_96 : decode cX7_cachedFrame 96 = .ok (.istore 6, 2) := by decide +kernel
theorem dX7_cachedFrame_98 : decode cX7_cachedFrame 98 = .ok (.aload_n 0, 1) := by decide +kernel
theorem dX7_cachedFrame_99 : decode cX7_cachedFrame 99 = .ok (.iload 5, 2) := by decide +kernel
theorem dX7_cachedFrame_101 : decode cX7_cachedFrame 101 = .ok (.invokevirtual 328, 3) := by decide +kernel
theorem dX7_cachedFrame_104 : decode cX7_cachedFrame 104 = .ok (.astore 7, 2) := by decide +kernel
theorem dX7_cachedFrame_106 : decode cX7_cachedFrame 106 = .ok (.aload 7, 2) := by decide +kernel
theorem dX7_cachedFrame_108 : decode cX7_cachedFrame 108 = .ok (.ifnull 15, 3) := by decide +kernel
theorem dX7_cachedFrame_111 : decode cX7_cachedFrame 111 = .ok (.iload 6, 2) := by decide +kernel
theorem dX7_cachedFrame_113 : decode cX7_cachedFrame 113 = .ok (.ifCond .lt 10, 3) := by decide +kernel
theorem dX7_cachedFrame_116 : decode cX7_cachedFrame 116 = .ok (.iload 6, 2) := by decide +kernel
theorem dX7_cachedFrame_118 : decode cX7_cachedFrame 118 = .ok (.bipush 24, 2) := by decide +kernel
theorem dX7_cachedFrame_120 : decode cX7_cachedFrame 120 = .ok (.if_icmp .lt 6, 3) := by decide +kernel
theorem dX7_cachedFrame_123 : decode cX7_cachedFrame 123 = .ok (.iload 5, 2) := by decide +kernel
theorem dX7_cachedFrame_125 : decode cX7_cachedFrame 125 = .ok (.ireturn, 1) := by decide +kernel
theorem dX7_cachedFrame_126 : decode cX7_cachedFrame 126 = .ok (.aload_n 0, 1) := by decide +kernel
theorem dX7_cachedFrame_127 : decode cX7_cachedFrame 127 = .ok (.getfield 38, 3) := by decide +kernel
theorem dX7_cachedFrame_130 : decode cX7_cachedFrame 130 = .ok (.iload 6, 2) := by decide +kernel
theorem dX7_cachedFrame_132 : decode cX7_cachedFrame 132 = .ok (.iaload, 1) := by decide +kernel
theorem dX7_cachedFrame_133 : decode cX7_cachedFrame 133 = .ok (.iconst (-1), 1) := by decide +kernel
theorem dX7_cachedFrame_134 : decode cX7_cachedFrame 134 = .ok (.if_icmp .eq 30, 3) := by decide +kernel
theorem dX7_cachedFrame_137 : decode cX7_cachedFrame 137 = .ok (.aload_n 0, 1) := by decide +kernel
theorem dX7_cachedFrame_138 : decode cX7_cachedFrame 138 = .ok (.getfield 48, 3) := by decide +kernel
theorem dX7_cachedFrame_141 : decode cX7_cachedFrame 141 = .ok (.iconst 2, 1) := by decide +kernel
theorem dX7_cachedFrame_142 : decode cX7_cachedFrame 142 = .ok (.iaload, 1) := by decide +kernel
theorem dX7_cachedFrame_143 : decode cX7_cachedFrame 143 = .ok (.aload_n 0, 1) := by decide +kernel
theorem dX7_cachedFrame_144 : decode cX7_cachedFrame 144 = .ok (.getfield 38, 3) := by decide +kernel
theorem dX7_cachedFrame_147 : decode cX7_cachedFrame 147 = .ok (.iload 6, 2) := by decide +kernel
theorem dX7_cachedFrame_149 : decode cX7_cachedFrame 149 = .ok (.iaload, 1) := by decide +kernel
theorem dX7_cachedFrame_150 : decode cX7_cachedFrame 150 = .ok (.isub, 1) := by decide +kernel
theorem dX7_cachedFrame_151 : decode cX7_cachedFrame 151 = .ok (.aload_n 0, 1) := by decide +kernel
theorem dX7_cachedFrame_152 : decode cX7_cachedFrame 152 = .ok (.iconst 1, 1) := by decide +kernel
theorem dX7_cachedFrame_153 : decode cX7_cachedFrame 153 = .ok (.iconst (-1), 1) := by decide +kernel
theorem dX7_cachedFrame_154 : decode cX7_cachedFrame 154 = .ok (.invokevirtual 377, 3) := by decide +kernel
theorem dX7_cachedFrame_157 : decode cX7_cachedFrame 157 = .ok (.if_icmp .gt 7, 3) := by decide +kernel
theorem dX7_cachedFrame_160 : decode cX7_cachedFrame 160 = .ok (.iconst 1, 1) := by decide +kernel
theorem dX7_cachedFrame_161 : decode cX7_cachedFrame 161 = .ok (.goto 4, 3) := by decide +kernel
theorem dX7_cachedFrame_164 : decode cX7_cachedFrame 164 = .ok (.iconst 0, 1) := by decide +kernel
theorem dX7_cachedFrame_165 : decode cX7_cachedFrame 165 = .ok (.istore 8, 2) := by decide +kernel
theorem dX7_cachedFrame_167 : decode cX7_cachedFrame 167 = .ok (.aload_n 0, 1) := by decide +kernel
theorem dX7_cachedFrame_168 : decode cX7_cachedFrame 168 = .ok (.getfield 48, 3) := by decide +kernel
theorem dX7_cachedFrame_171 : decode cX7_cachedFrame 171 = .ok (.iconst 3, 1) := by decide +kernel
theorem dX7_cachedFrame_172 : decode cX7_cachedFrame 172 = .ok (.dup2, 1) := by decide +kernel
theorem dX7_cachedFrame_173 : decode cX7_cachedFrame 173 = .ok (.iaload, 1) := by decide +kernel
theorem dX7_cachedFrame_174 : decode cX7_cachedFrame 174 = .ok (.iload 8, 2) := by decide +kernel
theorem dX7_cachedFrame_176 : decode cX7_cachedFrame 176 = .ok (.ifCond .eq 7, 3) := by decide +kernel
theorem dX7_cachedFrame_179 : decode cX7_cachedFrame 179 = .ok (.iconst 1, 1) := by decide +kernel
theorem dX7_cachedFrame_180 : decode cX7_cachedFrame 180 = .ok (.goto 4, 3) := by decide +kernel
theorem dX7_cachedFrame_183 : decode cX7_cachedFrame 183 = .ok (.iconst 0, 1) := by decide +kernel
theorem dX7_cachedFrame_184 : decode cX7_cachedFrame 184 = .ok (.iadd, 1) := by decide +kernel
theorem dX7_cachedFrame_185 : decode cX7_cachedFrame 185 = .ok (.iastore, 1) := by decide +kernel
theorem dX7_cachedFrame_186 : decode cX7_cachedFrame 186 = .ok (.aload_n 0, 1) := by decide +kernel
theorem dX7_cachedFrame_187 : decode cX7_cachedFrame 187 = .ok (.getfield 48, 3) := by decide +kernel
theorem dX7_cachedFrame_190 : decode cX7_cachedFrame 190 = .ok (.iconst 4, 1) := by decide +kernel
theorem dX7_cachedFrame_191 : decode cX7_cachedFrame 191 = .ok (.dup2, 1) := by decide +kernel
theorem dX7_cachedFrame_192 : decode cX7_cachedFrame 192 = .ok (.iaload, 1) := by decide +kernel
theorem dX7_cachedFrame_193 : decode cX7_cachedFrame 193 = .ok (.iconst 1, 1) := by decide +kernel
theorem dX7_cachedFrame_194 : decode cX7_cachedFrame 194 = .ok (.iadd, 1) := by decide +kernel
theorem dX7_cachedFrame_195 : decode cX7_cachedFrame 195 = .ok (.iastore, 1) := by decide +kernel
theorem dX7_cachedFrame_196 : decode cX7_cachedFrame 196 = .ok (.aload 7, 2) := by decide +kernel
theorem dX7_cachedFrame_198 : decode cX7_cachedFrame 198 = .ok (.iconst 2, 1) := by decide +kernel
theorem dX7_cachedFrame_199 : decode cX7_cachedFrame 199 = .ok (.aload_n 0, 1) := by decide +kernel
theorem dX7_cachedFrame_200 : decode cX7_cachedFrame 200 = .ok (.getfield 34, 3) := by decide +kernel
theorem dX7_cachedFrame_203 : decode cX7_cachedFrame 203 = .ok (.iload 6, 2) := by decide +kernel
theorem dX7_cachedFrame_205 : decode cX7_cachedFrame 205 = .ok (.iaload, 1) := by decide +kernel
theorem dX7_cachedFrame_206 : decode cX7_cachedFrame 206 = .ok (.iload 4, 2) := by decide +kernel
theorem dX7_cachedFrame_208 : decode cX7_cachedFrame 208 = .ok (.invokevirtual 363, 3) := by decide +kernel
theorem dX7_cachedFrame_211 : decode cX7_cachedFrame 211 = .ok (.aload 7, 2) := by decide +kernel
theorem dX7_cachedFrame_213 : decode cX7_cachedFrame 213 = .ok (.iload_n 1, 1) := by decide +kernel
theorem dX7_cachedFrame_214 : decode cX7_cachedFrame 214 = .ok (.putfield 174, 3) := by decide +kernel
theorem dX7_cachedFrame_217 : decode cX7_cachedFrame 217 = .ok (.aload 7, 2) := by decide +kernel
theorem dX7_cachedFrame_219 : decode cX7_cachedFrame 219 = .ok (.iload_n 2, 1) := by decide +kernel
theorem dX7_cachedFrame_220 : decode cX7_cachedFrame 220 = .ok (.putfield 376, 3) := by decide +kernel
theorem dX7_cachedFrame_223 : decode cX7_cachedFrame 223 = .ok (.aload_n 0, 1) := by decide +kernel
theorem dX7_cachedFrame_224 : decode cX7_cachedFrame 224 = .ok (.aload 7, 2) := by decide +kernel
theorem dX7_cachedFrame_226 : decode cX7_cachedFrame 226 = .ok (.iload 8, 2) := by decide +kernel
theorem dX7_cachedFrame_228 : decode cX7_cachedFrame 228 = .ok (.ifCond .eq 7, 3) := by decide +kernel
theorem dX7_cachedFrame_231 : decode cX7_cachedFrame 231 = .ok (.iconst 1, 1) := by decide +kernel
theorem dX7_cachedFrame_232 : decode cX7_cachedFrame 232 = .ok (.goto 4, 3) := by decide +kernel
theorem dX7_cachedFrame_235 : decode cX7_cachedFrame 235 = .ok (.iconst 0, 1) := by decide +kernel
theorem dX7_cachedFrame_236 : decode cX7_cachedFrame 236 = .ok (.invokevirtual 366, 3) := by decide +kernel
theorem dX7_cachedFrame_239 : decode cX7_cachedFrame 239 = .ok (.iload 5, 2) := by decide +kernel
theorem dX7_cachedFrame_241 : decode cX7_cachedFrame 241 = .ok (.ireturn, 1) := by decide +kernel
theorem dX7_writeBack_0 : decode cX7_writeBack 0 = .ok (.aload_n 1, 1) := by decide +kernel
theorem dX7_writeBack_1 : decode cX7_writeBack 1 = .ok (.getfield 174, 3) := by decide +kernel
theorem dX7_writeBack_4 : decode cX7_writeBack 4 = .ok (.bipush 8, 2) := by decide +kernel
theorem dX7_writeBack_6 : decode cX7_writeBack 6 = .ok (.imul, 1) := by decide +kernel
theorem dX7_writeBack_7 : decode cX7_writeBack 7 = .ok (.aload_n 1, 1) := by decide +kernel
theorem dX7_writeBack_8 : decode cX7_writeBack 8 = .ok (.getfield 376, 3) := by decide +kernel
theorem dX7_writeBack_11 : decode cX7_writeBack 11 = .ok (.iadd, 1) := by decide +kernel
theorem dX7_writeBack_12 : decode cX7_writeBack 12 = .ok (.istore_n 2, 1) := by decide +kernel
theorem dX7_writeBack_13 : decode cX7_writeBack 13 = .ok (.iload_n 2, 1) := by decide +kernel
theorem dX7_writeBack_14 : decode cX7_writeBack 14 = .ok (.ifCond .lt 34, 3) := by decide +kernel
theorem dX7_writeBack_17 : decode cX7_writeBack 17 = .ok (.iload_n 2, 1) := by decide +kernel
theorem dX7_writeBack_18 : decode cX7_writeBack 18 = .ok (.bipush 24, 2) := by decide +kernel
theorem dX7_writeBack_20 : decode cX7_writeBack 20 = .ok (.if_icmp .ge 28, 3) := by decide +kernel
theorem dX7_writeBack_23 : decode cX7_writeBack 23 = .ok (.aload_n 0, 1) := by decide +kernel
theorem dX7_writeBack_24 : decode cX7_writeBack 24 = .ok (.getfield 34, 3) := by decide +kernel
theorem dX7_writeBack_27 : decode cX7_writeBack 27 = .ok (.iload_n 2, 1) := by decide +kernel
theorem dX7_writeBack_28 : decode cX7_writeBack 28 = .ok (.aload_n 1, 1) := by decide +kernel
theorem dX7_writeBack_29 : decode cX7_writeBack 29 = .ok (.getfield 355, 3) := by decide +kernel
theorem dX7_writeBack_32 : decode cX7_writeBack 32 = .ok (.iastore, 1) := by decide +kernel
theorem dX7_writeBack_33 : decode cX7_writeBack 33 = .ok (.aload_n 0, 1) := by decide +kernel
theorem dX7_writeBack_34 : decode cX7_writeBack 34 = .ok (.getfield 48, 3) := by decide +kernel
theorem dX7_writeBack_37 : decode cX7_writeBack 37 = .ok (.iconst 5, 1) := by decide +kernel
theorem dX7_writeBack_38 : decode cX7_writeBack 38 = .ok (.dup2, 1) := by decide +kernel
theorem dX7_writeBack_39 : decode cX7_writeBack 39 = .ok (.iaload, 1) := by decide +kernel
theorem dX7_writeBack_40 : decode cX7_writeBack 40 = .ok (.iconst 1, 1) := by decide +kernel
theorem dX7_writeBack_41 : decode cX7_writeBack 41 = .ok (.iadd, 1) := by decide +kernel
theorem dX7_writeBack_42 : decode cX7_writeBack 42 = .ok (.iastore, 1) := by decide +kernel
theorem dX7_writeBack_43 : decode cX7_writeBack 43 = .ok (.aload_n 1, 1) := by decide +kernel
theorem dX7_writeBack_44 : decode cX7_writeBack 44 = .ok (.iconst 0, 1) := by decide +kernel
theorem dX7_writeBack_45 : decode cX7_writeBack 45 = .ok (.putfield 177, 3) := by decide +kernel
theorem dX7_writeBack_48 : decode cX7_writeBack 48 = .ok (.return_, 1) := by decide +kernel
theorem dX7_frameFor_0 : decode cX7_frameFor 0 = .ok (.iconst 0, 1) := by decide +kernel
theorem dX7_frameFor_1 : decode cX7_frameFor 1 = .ok (.istore_n 3, 1) := by decide +kernel
theorem dX7_frameFor_2 : decode cX7_frameFor 2 = .ok (.iload_n 3, 1) := by decide +kernel
theorem dX7_frameFor_3 : decode cX7_frameFor 3 = .ok (.ldc 209, 2) := by decide +kernel
theorem dX7_frameFor_5 : decode cX7_frameFor 5 = .ok (.if_icmp .ge 66, 3) := by decide +kernel
theorem dX7_frameFor_8 : decode cX7_frameFor 8 = .ok (.aload_n 0, 1) := by decide +kernel
theorem dX7_frameFor_9 : decode cX7_frameFor 9 = .ok (.iload_n 1, 1) := by decide +kernel
theorem dX7_frameFor_10 : decode cX7_frameFor 10 = .ok (.invokevirtual 380, 3) := by decide +kernel
theorem dX7_frameFor_13 : decode cX7_frameFor 13 = .ok (.ifCond .eq 58, 3) := by decide +kernel
theorem dX7_frameFor_16 : decode cX7_frameFor 16 = .ok (.aload_n 0, 1) := by decide +kernel
theorem dX7_frameFor_17 : decode cX7_frameFor 17 = .ok (.iload_n 1, 1) := by decide +kernel
theorem dX7_frameFor_18 : decode cX7_frameFor 18 = .ok (.invokevirtual 187, 3) := by decide +kernel
theorem dX7_frameFor_21 : decode cX7_frameFor 21 = .ok (.ifCond .ne 44, 3) := by decide +kernel
theorem dX7_frameFor_24 : decode cX7_frameFor 24 = .ok (.aload_n 0, 1) := by decide +kernel
theorem dX7_frameFor_25 : decode cX7_frameFor 25 = .ok (.iload_n 1, 1) := by decide +kernel
theorem dX7_frameFor_26 : decode cX7_frameFor 26 = .ok (.invokevirtual 383, 3) := by decide +kernel
theorem dX7_frameFor_29 : decode cX7_frameFor 29 = .ok (.astore 4, 2) := by decide +kernel
theorem dX7_frameFor_31 : decode cX7_frameFor 31 = .ok (.aload 4, 2) := by decide +kernel
theorem dX7_frameFor_33 : decode cX7_frameFor 33 = .ok (.ifnonnull 6, 3) := by decide +kernel
theorem dX7_frameFor_36 : decode cX7_frameFor 36 = .ok (.goto 35, 3) := by decide +kernel
theorem dX7_frameFor_39 : decode cX7_frameFor 39 = .ok (.aload_n 0, 1) := by decide +kernel
theorem dX7_frameFor_40 : decode cX7_frameFor 40 = .ok (.aload 4, 2) := by decide +kernel
theorem dX7_frameFor_42 : decode cX7_frameFor 42 = .ok (.invokevirtual 145, 3) := by decide +kernel
theorem dX7_frameFor_45 : decode cX7_frameFor 45 = .ok (.aload_n 0, 1) := by decide +kernel
theorem dX7_frameFor_46 : decode cX7_frameFor 46 = .ok (.getfield 48, 3) := by decide +kernel
theorem dX7_frameFor_49 : decode cX7_frameFor 49 = .ok (.bipush 7, 2) := by decide +kernel
theorem dX7_frameFor_51 : decode cX7_frameFor 51 = .ok (.dup2, 1) := by decide +kernel
theorem dX7_frameFor_52 : decode cX7_frameFor 52 = .ok (.iaload, 1) := by decide +kernel
theorem dX7_frameFor_53 : decode cX7_frameFor 53 = .ok (.iconst 1, 1) := by decide +kernel
theorem dX7_frameFor_54 : decode cX7_frameFor 54 = .ok (.iadd, 1) := by decide +kernel
theorem dX7_frameFor_55 : decode cX7_frameFor 55 = .ok (.iastore, 1) := by decide +kernel
theorem dX7_frameFor_56 : decode cX7_frameFor 56 = .ok (.aload 4, 2) := by decide +kernel
theorem dX7_frameFor_58 : decode cX7_frameFor 58 = .ok (.aload_n 2, 1) := by decide +kernel
theorem dX7_frameFor_59 : decode cX7_frameFor 59 = .ok (.if_acmp .ne 6, 3) := by decide +kernel
theorem dX7_frameFor_62 : decode cX7_frameFor 62 = .ok (.bipush (-4), 2) := by decide +kernel
theorem dX7_frameFor_64 : decode cX7_frameFor 64 = .ok (.ireturn, 1) := by decide +kernel
theorem dX7_frameFor_65 : decode cX7_frameFor 65 = .ok (.iinc 3 1, 3) := by decide +kernel
theorem dX7_frameFor_68 : decode cX7_frameFor 68 = .ok (.goto (-66), 3) := by decide +kernel
theorem dX7_frameFor_71 : decode cX7_frameFor 71 = .ok (.iconst 0, 1) := by decide +kernel
theorem dX7_frameFor_72 : decode cX7_frameFor 72 = .ok (.istore_n 3, 1) := by decide +kernel
theorem dX7_frameFor_73 : decode cX7_frameFor 73 = .ok (.iload_n 3, 1) := by decide +kernel
theorem dX7_frameFor_74 : decode cX7_frameFor 74 = .ok (.ldc 209, 2) := by decide +kernel
theorem dX7_frameFor_76 : decode cX7_frameFor 76 = .ok (.if_icmp .ge 90, 3) := by decide +kernel
theorem dX7_frameFor_79 : decode cX7_frameFor 79 = .ok (.aload_n 0, 1) := by decide +kernel
theorem dX7_frameFor_80 : decode cX7_frameFor 80 = .ok (.iconst 0, 1) := by decide +kernel
theorem dX7_frameFor_81 : decode cX7_frameFor 81 = .ok (.invokevirtual 386, 3) := by decide +kernel
theorem dX7_frameFor_84 : decode cX7_frameFor 84 = .ok (.istore 4, 2) := by decide +kernel
theorem dX7_frameFor_86 : decode cX7_frameFor 86 = .ok (.iload 4, 2) := by decide +kernel
theorem dX7_frameFor_88 : decode cX7_frameFor 88 = .ok (.iconst (-1), 1) := by decide +kernel
theorem dX7_frameFor_89 : decode cX7_frameFor 89 = .ok (.if_icmp .eq 6, 3) := by decide +kernel
theorem dX7_frameFor_92 : decode cX7_frameFor 92 = .ok (.iload 4, 2) := by decide +kernel
theorem dX7_frameFor_94 : decode cX7_frameFor 94 = .ok (.ireturn, 1) := by decide +kernel
theorem dX7_frameFor_95 : decode cX7_frameFor 95 = .ok (.aload_n 0, 1) := by decide +kernel
theorem dX7_frameFor_96 : decode cX7_frameFor 96 = .ok (.iconst 1, 1) := by decide +kernel
theorem dX7_frameFor_97 : decode cX7_frameFor 97 = .ok (.invokevirtual 386, 3) := by decide +kernel
theorem dX7_frameFor_100 : decode cX7_frameFor 100 = .ok (.iconst (-1), 1) := by decide +kernel
theorem dX7_frameFor_101 : decode cX7_frameFor 101 = .ok (.if_icmp .eq 10, 3) := by decide +kernel
theorem dX7_frameFor_104 : decode cX7_frameFor 104 = .ok (.aload_n 0, 1) := by decide +kernel
theorem dX7_frameFor_105 : decode cX7_frameFor 105 = .ok (.invokevirtual 389, 3) := by decide +kernel
theorem dX7_frameFor_108 : decode cX7_frameFor 108 = .ok (.goto 52, 3) := by decide +kernel
theorem dX7_frameFor_111 : decode cX7_frameFor 111 = .ok (.aload_n 0, 1) := by decide +kernel
theorem dX7_frameFor_112 : decode cX7_frameFor 112 = .ok (.iconst (-1), 1) := by decide +kernel
theorem dX7_frameFor_113 : decode cX7_frameFor 113 = .ok (.invokevirtual 187, 3) := by decide +kernel
theorem dX7_frameFor_116 : decode cX7_frameFor 116 = .ok (.ifCond .ne 44, 3) := by decide +kernel
theorem dX7_frameFor_119 : decode cX7_frameFor 119 = .ok (.aload_n 0, 1) := by decide +kernel
theorem dX7_frameFor_120 : decode cX7_frameFor 120 = .ok (.iconst (-1), 1) := by decide +kernel
theorem dX7_frameFor_121 : decode cX7_frameFor 121 = .ok (.invokevirtual 383, 3) := by decide +kernel
theorem dX7_frameFor_124 : decode cX7_frameFor 124 = .ok (.astore 5, 2) := by decide +kernel
theorem dX7_frameFor_126 : decode cX7_frameFor 126 = .ok (.aload 5, 2) := by decide +kernel
theorem dX7_frameFor_128 : decode cX7_frameFor 128 = .ok (.ifnonnull 6, 3) := by decide +kernel
theorem dX7_frameFor_131 : decode cX7_frameFor 131 = .ok (.bipush (-5), 2) := by decide +kernel
theorem dX7_frameFor_133 : decode cX7_frameFor 133 = .ok (.ireturn, 1) := by decide +kernel
theorem dX7_frameFor_134 : decode cX7_frameFor 134 = .ok (.aload_n 0, 1) := by decide +kernel
theorem dX7_frameFor_135 : decode cX7_frameFor 135 = .ok (.aload 5, 2) := by decide +kernel
theorem dX7_frameFor_137 : decode cX7_frameFor 137 = .ok (.invokevirtual 145, 3) := by decide +kernel
theorem dX7_frameFor_140 : decode cX7_frameFor 140 = .ok (.aload_n 0, 1) := by decide +kernel
theorem dX7_frameFor_141 : decode cX7_frameFor 141 = .ok (.getfield 48, 3) := by decide +kernel
theorem dX7_frameFor_144 : decode cX7_frameFor 144 = .ok (.bipush 7, 2) := by decide +kernel
theorem dX7_frameFor_146 : decode cX7_frameFor 146 = .ok (.dup2, 1) := by decide +kernel
theorem dX7_frameFor_147 : decode cX7_frameFor 147 = .ok (.iaload, 1) := by decide +kernel
theorem dX7_frameFor_148 : decode cX7_frameFor 148 = .ok (.iconst 1, 1) := by decide +kernel
theorem dX7_frameFor_149 : decode cX7_frameFor 149 = .ok (.iadd, 1) := by decide +kernel
theorem dX7_frameFor_150 : decode cX7_frameFor 150 = .ok (.iastore, 1) := by decide +kernel
theorem dX7_frameFor_151 : decode cX7_frameFor 151 = .ok (.aload 5, 2) := by decide +kernel
theorem dX7_frameFor_153 : decode cX7_frameFor 153 = .ok (.aload_n 2, 1) := by decide +kernel
theorem dX7_frameFor_154 : decode cX7_frameFor 154 = .ok (.if_acmp .ne 6, 3) := by decide +kernel
theorem dX7_frameFor_157 : decode cX7_frameFor 157 = .ok (.bipush (-4), 2) := by decide +kernel
theorem dX7_frameFor_159 : decode cX7_frameFor 159 = .ok (.ireturn, 1) := by decide +kernel
theorem dX7_frameFor_160 : decode cX7_frameFor 160 = .ok (.iinc 3 1, 3) := by decide +kernel
theorem dX7_frameFor_163 : decode cX7_frameFor 163 = .ok (.goto (-90), 3) := by decide +kernel
theorem dX7_frameFor_166 : decode cX7_frameFor 166 = .ok (.bipush (-5), 2) := by decide +kernel
theorem dX7_frameFor_168 : decode cX7_frameFor 168 = .ok (.ireturn, 1) := by decide +kernel
theorem dX7_isAtLimit_0 : decode cX7_isAtLimit 0 = .ok (.iload_n 1, 1) := by decide +kernel
theorem dX7_isAtLimit_1 : decode cX7_isAtLimit 1 = .ok (.ifCond .lt 36, 3) := by decide +kernel
theorem dX7_isAtLimit_4 : decode cX7_isAtLimit 4 = .ok (.iload_n 1, 1) := by decide +kernel
theorem dX7_isAtLimit_5 : decode cX7_isAtLimit 5 = .ok (.iconst 3, 1) := by decide +kernel
theorem dX7_isAtLimit_6 : decode cX7_isAtLimit 6 = .ok (.if_icmp .ge 31, 3) := by decide +kernel
theorem dX7_isAtLimit_9 : decode cX7_isAtLimit 9 = .ok (.aload_n 0, 1) := by decide +kernel
theorem dX7_isAtLimit_10 : decode cX7_isAtLimit 10 = .ok (.getfield 45, 3) := by decide +kernel
theorem dX7_isAtLimit_13 : decode cX7_isAtLimit 13 = .ok (.iload_n 1, 1) := by decide +kernel
theorem dX7_isAtLimit_14 : decode cX7_isAtLimit 14 = .ok (.iaload, 1) := by decide +kernel
theorem dX7_isAtLimit_15 : decode cX7_isAtLimit 15 = .ok (.iconst (-1), 1) := by decide +kernel
theorem dX7_isAtLimit_16 : decode cX7_isAtLimit 16 = .ok (.if_icmp .eq 21, 3) := by decide +kernel
theorem dX7_isAtLimit_19 : decode cX7_isAtLimit 19 = .ok (.aload_n 0, 1) := by decide +kernel
theorem dX7_isAtLimit_20 : decode cX7_isAtLimit 20 = .ok (.iload_n 1, 1) := by decide +kernel
theorem dX7_isAtLimit_21 : decode cX7_isAtLimit 21 = .ok (.invokevirtual 152, 3) := by decide +kernel
theorem dX7_isAtLimit_24 : decode cX7_isAtLimit 24 = .ok (.aload_n 0, 1) := by decide +kernel
theorem dX7_isAtLimit_25 : decode cX7_isAtLimit 25 = .ok (.getfield 45, 3) := by decide +kernel
theorem dX7_isAtLimit_28 : decode cX7_isAtLimit 28 = .ok (.iload_n 1, 1) := by decide +kernel
theorem dX7_isAtLimit_29 : decode cX7_isAtLimit 29 = .ok (.iaload, 1) := by decide +kernel
theorem dX7_isAtLimit_30 : decode cX7_isAtLimit 30 = .ok (.if_icmp .lt 7, 3) := by decide +kernel
theorem dX7_isAtLimit_33 : decode cX7_isAtLimit 33 = .ok (.iconst 1, 1) := by decide +kernel
theorem dX7_isAtLimit_34 : decode cX7_isAtLimit 34 = .ok (.goto 4, 3) := by decide +kernel
theorem dX7_isAtLimit_37 : decode cX7_isAtLimit 37 = .ok (.iconst 0, 1) := by decide +kernel
theorem dX7_isAtLimit_38 : decode cX7_isAtLimit 38 = .ok (.ireturn, 1) := by decide +kernel
theorem dX7_pagesOf_0 : decode cX7_pagesOf 0 = .ok (.aload_n 0, 1) := by decide +kernel
theorem dX7_pagesOf_1 : decode cX7_pagesOf 1 = .ok (.iconst 0, 1) := by decide +kernel
theorem dX7_pagesOf_2 : decode cX7_pagesOf 2 = .ok (.iload_n 1, 1) := by decide +kernel
theorem dX7_pagesOf_3 : decode cX7_pagesOf 3 = .ok (.invokevirtual 377, 3) := by decide +kernel
theorem dX7_pagesOf_6 : decode cX7_pagesOf 6 = .ok (.aload_n 0, 1) := by decide +kernel
theorem dX7_pagesOf_7 : decode cX7_pagesOf 7 = .ok (.iconst 1, 1) := by decide +kernel
theorem dX7_pagesOf_8 : decode cX7_pagesOf 8 = .ok (.iload_n 1, 1) := by decide +kernel
theorem dX7_pagesOf_9 : decode cX7_pagesOf 9 = .ok (.invokevirtual 377, 3) := by decide +kernel
theorem dX7_pagesOf_12 : decode cX7_pagesOf 12 = .ok (.iadd, 1) := by decide +kernel
theorem dX7_pagesOf_13 : decode cX7_pagesOf 13 = .ok (.ireturn, 1) := by decide +kernel
theorem dX7_lowestWithoutPage_0 : decode cX7_lowestWithoutPage 0 = .ok (.iconst 0, 1) := by decide +kernel
theorem dX7_lowestWithoutPage_1 : decode cX7_lowestWithoutPage 1 = .ok (.istore_n 2, 1) := by decide +kernel
theorem dX7_lowestWithoutPage_2 : decode cX7_lowestWithoutPage 2 = .ok (.iload_n 2, 1) := by decide +kernel
theorem dX7_lowestWithoutPage_3 : decode cX7_lowestWithoutPage 3 = .ok (.bipush 24, 2) := by decide +kernel
theorem dX7_lowestWithoutPage_5 : decode cX7_lowestWithoutPage 5 = .ok (.if_icmp .ge 32, 3) := by decide +kernel
theorem dX7_lowestWithoutPage_8 : decode cX7_lowestWithoutPage 8 = .ok (.aload_n 0, 1) := by decide +kernel
theorem dX7_lowestWithoutPage_9 : decode cX7_lowestWithoutPage 9 = .ok (.getfield 17, 3) := by decide +kernel
theorem dX7_lowestWithoutPage_12 : decode cX7_lowestWithoutPage 12 = .ok (.iload_n 2, 1) := by decide +kernel
theorem dX7_lowestWithoutPage_13 : decode cX7_lowestWithoutPage 13 = .ok (.aaload, 1) := by decide +kernel
theorem dX7_lowestWithoutPage_14 : decode cX7_lowestWithoutPage 14 = .ok (.getfield 171, 3) := by decide +kernel
theorem dX7_lowestWithoutPage_17 : decode cX7_lowestWithoutPage 17 = .ok (.ifCond .ne 14, 3) := by decide +kernel
theorem dX7_lowestWithoutPage_20 : decode cX7_lowestWithoutPage 20 = .ok (.aload_n 0, 1) := by decide +kernel
theorem dX7_lowestWithoutPage_21 : decode cX7_lowestWithoutPage 21 = .ok (.iload_n 2, 1) := by decide +kernel
theorem dX7_lowestWithoutPage_22 : decode cX7_lowestWithoutPage 22 = .ok (.invokevirtual 252, 3) := by decide +kernel
theorem dX7_lowestWithoutPage_25 : decode cX7_lowestWithoutPage 25 = .ok (.iload_n 1, 1) := by decide +kernel
theorem dX7_lowestWithoutPage_26 : decode cX7_lowestWithoutPage 26 = .ok (.if_icmp .ne 5, 3) := by decide +kernel
theorem dX7_lowestWithoutPage_29 : decode cX7_lowestWithoutPage 29 = .ok (.iload_n 2, 1) := by decide +kernel
theorem dX7_lowestWithoutPage_30 : decode cX7_lowestWithoutPage 30 = .ok (.ireturn, 1) := by decide +kernel
theorem dX7_lowestWithoutPage_31 : decode cX7_lowestWithoutPage 31 = .ok (.iinc 2 1, 3) := by decide +kernel
theorem dX7_lowestWithoutPage_34 : decode cX7_lowestWithoutPage 34 = .ok (.goto (-32), 3) := by decide +kernel
theorem dX7_lowestWithoutPage_37 : decode cX7_lowestWithoutPage 37 = .ok (.iconst (-1), 1) := by decide +kernel
theorem dX7_lowestWithoutPage_38 : decode cX7_lowestWithoutPage 38 = .ok (.ireturn, 1) := by decide +kernel
theorem dX7_isTranslated_0 : decode cX7_isTranslated 0 = .ok (.aload_n 0, 1) := by decide +kernel
theorem dX7_isTranslated_1 : decode cX7_isTranslated 1 = .ok (.getfield 23, 3) := by decide +kernel
theorem dX7_isTranslated_4 : decode cX7_isTranslated 4 = .ok (.astore_n 2, 1) := by decide +kernel
theorem dX7_isTranslated_5 : decode cX7_isTranslated 5 = .ok (.aload_n 2, 1) := by decide +kernel
theorem dX7_isTranslated_6 : decode cX7_isTranslated 6 = .ok (.arraylength, 1) := by decide +kernel
theorem dX7_isTranslated_7 : decode cX7_isTranslated 7 = .ok (.istore_n 3, 1) := by decide +kernel
theorem dX7_isTranslated_8 : decode cX7_isTranslated 8 = .ok (.iconst 0, 1) := by decide +kernel
theorem dX7_isTranslated_9 : decode cX7_isTranslated 9 = .ok (.istore 4, 2) := by decide +kernel
theorem dX7_isTranslated_11 : decode cX7_isTranslated 11 = .ok (.iload 4, 2) := by decide +kernel
theorem dX7_isTranslated_13 : decode cX7_isTranslated 13 = .ok (.iload_n 3, 1) := by decide +kernel
theorem dX7_isTranslated_14 : decode cX7_isTranslated 14 = .ok (.if_icmp .ge 26, 3) := by decide +kernel
theorem dX7_isTranslated_17 : decode cX7_isTranslated 17 = .ok (.aload_n 2, 1) := by decide +kernel
theorem dX7_isTranslated_18 : decode cX7_isTranslated 18 = .ok (.iload 4, 2) := by decide +kernel
theorem dX7_isTranslated_20 : decode cX7_isTranslated 20 = .ok (.aaload, 1) := by decide +kernel
theorem dX7_isTranslated_21 : decode cX7_isTranslated 21 = .ok (.astore 5, 2) := by decide +kernel
theorem dX7_isTranslated_23 : decode cX7_isTranslated 23 = .ok (.aload 5, 2) := by decide +kernel
theorem dX7_isTranslated_25 : decode cX7_isTranslated 25 = .ok (.iload_n 1, 1) := by decide +kernel
theorem dX7_isTranslated_26 : decode cX7_isTranslated 26 = .ok (.invokevirtual 392, 3) := by decide +kernel
theorem dX7_isTranslated_29 : decode cX7_isTranslated 29 = .ok (.ifCond .eq 5, 3) := by decide +kernel
theorem dX7_isTranslated_32 : decode cX7_isTranslated 32 = .ok (.iconst 1, 1) := by decide +kernel
theorem dX7_isTranslated_33 : decode cX7_isTranslated 33 = .ok (.ireturn, 1) := by decide +kernel
theorem dX7_isTranslated_34 : decode cX7_isTranslated 34 = .ok (.iinc 4 1, 3) := by decide +kernel
theorem dX7_isTranslated_37 : decode cX7_isTranslated 37 = .ok (.goto (-26), 3) := by decide +kernel
theorem dX7_isTranslated_40 : decode cX7_isTranslated 40 = .ok (.iconst 0, 1) := by decide +kernel
theorem dX7_isTranslated_41 : decode cX7_isTranslated 41 = .ok (.ireturn, 1) := by decide +kernel
theorem dX7_evictOne_0 : decode cX7_evictOne 0 = .ok (.iconst 2, 1) := by decide +kernel
theorem dX7_evictOne_1 : decode cX7_evictOne 1 = .ok (.aload_n 0, 1) := by decide +kernel
theorem dX7_evictOne_2 : decode cX7_evictOne 2 = .ok (.iload_n 1, 1) := by decide +kernel
theorem dX7_evictOne_3 : decode cX7_evictOne 3 = .ok (.invokevirtual 152, 3) := by decide +kernel
theorem dX7_evictOne_6 : decode cX7_evictOne 6 = .ok (.imul, 1) := by decide +kernel
theorem dX7_evictOne_7 : decode cX7_evictOne 7 = .ok (.istore_n 2, 1) := by decide +kernel
theorem dX7_evictOne_8 : decode cX7_evictOne 8 = .ok (.iconst 0, 1) := by decide +kernel
theorem dX7_evictOne_9 : decode cX7_evictOne 9 = .ok (.istore_n 3, 1) := by decide +kernel
theorem dX7_evictOne_10 : decode cX7_evictOne 10 = .ok (.iload_n 3, 1) := by decide +kernel
theorem dX7_evictOne_11 : decode cX7_evictOne 11 = .ok (.iload_n 2, 1) := by decide +kernel
theorem dX7_evictOne_12 : decode cX7_evictOne 12 = .ok (.if_icmp .ge 61, 3) := by decide +kernel
theorem dX7_evictOne_15 : decode cX7_evictOne 15 = .ok (.aload_n 0, 1) := by decide +kernel
theorem dX7_evictOne_16 : decode cX7_evictOne 16 = .ok (.iload_n 1, 1) := by decide +kernel
theorem dX7_evictOne_17 : decode cX7_evictOne 17 = .ok (.invokevirtual 395, 3) := by decide +kernel
theorem dX7_evictOne_20 : decode cX7_evictOne 20 = .ok (.aload_n 0, 1) := by decide +kernel
theorem dX7_evictOne_21 : decode cX7_evictOne 21 = .ok (.iconst 0, 1) := by decide +kernel
theorem dX7_evictOne_22 : decode cX7_evictOne 22 = .ok (.iload_n 1, 1) := by decide +kernel
theorem dX7_evictOne_23 : decode cX7_evictOne 23 = .ok (.invokevirtual 398, 3) := by decide +kernel
theorem dX7_evictOne_26 : decode cX7_evictOne 26 = .ok (.astore 4, 2) := by decide +kernel
theorem dX7_evictOne_28 : decode cX7_evictOne 28 = .ok (.aload 4, 2) := by decide +kernel
theorem dX7_evictOne_30 : decode cX7_evictOne 30 = .ok (.ifnonnull 5, 3) := by decide +kernel
theorem dX7_evictOne_33 : decode cX7_evictOne 33 = .ok (.iconst 0, 1) := by decide +kernel
theorem dX7_evictOne_34 : decode cX7_evictOne 34 = .ok (.ireturn, 1) := by decide +kernel
theorem dX7_evictOne_35 : decode cX7_evictOne 35 = .ok (.aload 4, 2) := by decide +kernel
theorem dX7_evictOne_37 : decode cX7_evictOne 37 = .ok (.getfield 373, 3) := by decide +kernel
theorem dX7_evictOne_40 : decode cX7_evictOne 40 = .ok (.ifCond .ne 14, 3) := by decide +kernel
theorem dX7_evictOne_43 : decode cX7_evictOne 43 = .ok (.aload_n 0, 1) := by decide +kernel
theorem dX7_evictOne_44 : decode cX7_evictOne 44 = .ok (.aload 4, 2) := by decide +kernel
theorem dX7_evictOne_46 : decode cX7_evictOne 46 = .ok (.invokevirtual 402, 3) := by decide +kernel
theorem dX7_evictOne_49 : decode cX7_evictOne 49 = .ok (.ifCond .eq 5, 3) := by decide +kernel
theorem dX7_evictOne_52 : decode cX7_evictOne 52 = .ok (.iconst 1, 1) := by decide +kernel
theorem dX7_evictOne_53 : decode cX7_evictOne 53 = .ok (.ireturn, 1) := by decide +kernel
theorem dX7_evictOne_54 : decode cX7_evictOne 54 = .ok (.aload 4, 2) := by decide +kernel
theorem dX7_evictOne_56 : decode cX7_evictOne 56 = .ok (.iconst 0, 1) := by decide +kernel
theorem dX7_evictOne_57 : decode cX7_evictOne 57 = .ok (.putfield 373, 3) := by decide +kernel
theorem dX7_evictOne_60 : decode cX7_evictOne 60 = .ok (.aload_n 0, 1) := by decide +kernel
theorem dX7_evictOne_61 : decode cX7_evictOne 61 = .ok (.aload 4, 2) := by decide +kernel
theorem dX7_evictOne_63 : decode cX7_evictOne 63 = .ok (.iconst 1, 1) := by decide +kernel
theorem dX7_evictOne_64 : decode cX7_evictOne 64 = .ok (.invokevirtual 366, 3) := by decide +kernel
theorem dX7_evictOne_67 : decode cX7_evictOne 67 = .ok (.iinc 3 1, 3) := by decide +kernel
theorem dX7_evictOne_70 : decode cX7_evictOne 70 = .ok (.goto (-60), 3) := by decide +kernel
theorem dX7_evictOne_73 : decode cX7_evictOne 73 = .ok (.iconst 0, 1) := by decide +kernel
theorem dX7_evictOne_74 : decode cX7_evictOne 74 = .ok (.ireturn, 1) := by decide +kernel
theorem dX7_balance_0 : decode cX7_balance 0 = .ok (.aload_n 0, 1) := by decide +kernel
theorem dX7_balance_1 : decode cX7_balance 1 = .ok (.iconst 1, 1) := by decide +kernel
theorem dX7_balance_2 : decode cX7_balance 2 = .ok (.iload_n 1, 1) := by decide +kernel
theorem dX7_balance_3 : decode cX7_balance 3 = .ok (.invokevirtual 377, 3) := by decide +kernel
theorem dX7_balance_6 : decode cX7_balance 6 = .ok (.aload_n 0, 1) := by decide +kernel
theorem dX7_balance_7 : decode cX7_balance 7 = .ok (.iconst 0, 1) := by decide +kernel
theorem dX7_balance_8 : decode cX7_balance 8 = .ok (.iload_n 1, 1) := by decide +kernel
theorem dX7_balance_9 : decode cX7_balance 9 = .ok (.invokevirtual 377, 3) := by decide +kernel
theorem dX7_balance_12 : decode cX7_balance 12 = .ok (.isub, 1) := by decide +kernel
theorem dX7_balance_13 : decode cX7_balance 13 = .ok (.istore_n 2, 1) := by decide +kernel
theorem dX7_balance_14 : decode cX7_balance 14 = .ok (.iload_n 2, 1) := by decide +kernel
theorem dX7_balance_15 : decode cX7_balance 15 = .ok (.ifCond .le 32, 3) := by decide +kernel
theorem dX7_balance_18 : decode cX7_balance 18 = .ok (.aload_n 0, 1) := by decide +kernel
theorem dX7_balance_19 : decode cX7_balance 19 = .ok (.iconst 1, 1) := by decide +kernel
theorem dX7_balance_20 : decode cX7_balance 20 = .ok (.iload_n 1, 1) := by decide +kernel
theorem dX7_balance_21 : decode cX7_balance 21 = .ok (.invokevirtual 398, 3) := by decide +kernel
theorem dX7_balance_24 : decode cX7_balance 24 = .ok (.astore_n 3, 1) := by decide +kernel
theorem dX7_balance_25 : decode cX7_balance 25 = .ok (.aload_n 3, 1) := by decide +kernel
theorem dX7_balance_26 : decode cX7_balance 26 = .ok (.ifnonnull 4, 3) := by decide +kernel
theorem dX7_balance_29 : decode cX7_balance 29 = .ok (.return_, 1) := by decide +kernel
theorem dX7_balance_30 : decode cX7_balance 30 = .ok (.aload_n 3, 1) := by decide +kernel
theorem dX7_balance_31 : decode cX7_balance 31 = .ok (.iconst 0, 1) := by decide +kernel
theorem dX7_balance_32 : decode cX7_balance 32 = .ok (.putfield 373, 3) := by decide +kernel
theorem dX7_balance_35 : decode cX7_balance 35 = .ok (.aload_n 0, 1) := by decide +kernel
theorem dX7_balance_36 : decode cX7_balance 36 = .ok (.aload_n 3, 1) := by decide +kernel
theorem dX7_balance_37 : decode cX7_balance 37 = .ok (.iconst 0, 1) := by decide +kernel
theorem dX7_balance_38 : decode cX7_balance 38 = .ok (.invokevirtual 366, 3) := by decide +kernel
theorem dX7_balance_41 : decode cX7_balance 41 = .ok (.iinc 2 (-2), 3) := by decide +kernel
theorem dX7_balance_44 : decode cX7_balance 44 = .ok (.goto (-30), 3) := by decide +kernel
theorem dX7_balance_47 : decode cX7_balance 47 = .ok (.return_, 1) := by decide +kernel
theorem dX7_putOut_0 : decode cX7_putOut 0 = .ok (.aconst_null, 1) := by decide +kernel
theorem dX7_putOut_1 : decode cX7_putOut 1 = .ok (.astore_n 2, 1) := by decide +kernel
theorem dX7_putOut_2 : decode cX7_putOut 2 = .ok (.aload_n 1, 1) := by decide +kernel
theorem dX7_putOut_3 : decode cX7_putOut 3 = .ok (.getfield 171, 3) := by decide +kernel
theorem dX7_putOut_6 : decode cX7_putOut 6 = .ok (.iconst 2, 1) := by decide +kernel
theorem dX7_putOut_7 : decode cX7_putOut 7 = .ok (.if_icmp .ne 23, 3) := by decide +kernel
theorem dX7_putOut_10 : decode cX7_putOut 10 = .ok (.aload_n 1, 1) := by decide +kernel
theorem dX7_putOut_11 : decode cX7_putOut 11 = .ok (.getfield 177, 3) := by decide +kernel
theorem dX7_putOut_14 : decode cX7_putOut 14 = .ok (.ifCond .eq 8, 3) := by decide +kernel
theorem dX7_putOut_17 : decode cX7_putOut 17 = .ok (.aload_n 0, 1) := by decide +kernel
theorem dX7_putOut_18 : decode cX7_putOut 18 = .ok (.aload_n 1, 1) := by decide +kernel
theorem dX7_putOut_19 : decode cX7_putOut 19 = .ok (.invokevirtual 180, 3) := by decide +kernel
theorem dX7_putOut_22 : decode cX7_putOut 22 = .ok (.aload_n 0, 1) := by decide +kernel
theorem dX7_putOut_23 : decode cX7_putOut 23 = .ok (.aload_n 1, 1) := by decide +kernel
theorem dX7_putOut_24 : decode cX7_putOut 24 = .ok (.invokevirtual 406, 3) := by decide +kernel
theorem dX7_putOut_27 : decode cX7_putOut 27 = .ok (.goto 21, 3) := by decide +kernel
theorem dX7_putOut_30 : decode cX7_putOut 30 = .ok (.aload_n 0, 1) := by decide +kernel
theorem dX7_putOut_31 : decode cX7_putOut 31 = .ok (.getfield 30, 3) := by decide +kernel
theorem dX7_putOut_34 : decode cX7_putOut 34 = .ok (.aload_n 1, 1) := by decide +kernel
theorem dX7_putOut_35 : decode cX7_putOut 35 = .ok (.getfield 355, 3) := by decide +kernel
theorem dX7_putOut_38 : decode cX7_putOut 38 = .ok (.invokevirtual 409, 3) := by decide +kernel
theorem dX7_putOut_41 : decode cX7_putOut 41 = .ok (.astore_n 2, 1) := by decide +kernel
theorem dX7_putOut_42 : decode cX7_putOut 42 = .ok (.aload_n 2, 1) := by decide +kernel
theorem dX7_putOut_43 : decode cX7_putOut 43 = .ok (.ifnonnull 5, 3) := by decide +kernel
theorem dX7_putOut_46 : decode cX7_putOut 46 = .ok (.iconst 0, 1) := by decide +kernel
theorem dX7_putOut_47 : decode cX7_putOut 47 = .ok (.ireturn, 1) := by decide +kernel
theorem dX7_putOut_48 : decode cX7_putOut 48 = .ok (.aload_n 0, 1) := by decide +kernel
theorem dX7_putOut_49 : decode cX7_putOut 49 = .ok (.getfield 11, 3) := by decide +kernel
theorem dX7_putOut_52 : decode cX7_putOut 52 = .ok (.astore_n 3, 1) := by decide +kernel
theorem dX7_putOut_53 : decode cX7_putOut 53 = .ok (.aload_n 3, 1) := by decide +kernel
theorem dX7_putOut_54 : decode cX7_putOut 54 = .ok (.arraylength, 1) := by decide +kernel
theorem dX7_putOut_55 : decode cX7_putOut 55 = .ok (.istore 4, 2) := by decide +kernel
theorem dX7_putOut_57 : decode cX7_putOut 57 = .ok (.iconst 0, 1) := by decide +kernel
theorem dX7_putOut_58 : decode cX7_putOut 58 = .ok (.istore 5, 2) := by decide +kernel
theorem dX7_putOut_60 : decode cX7_putOut 60 = .ok (.iload 5, 2) := by decide +kernel
theorem dX7_putOut_62 : decode cX7_putOut 62 = .ok (.iload 4, 2) := by decide +kernel
theorem dX7_putOut_64 : decode cX7_putOut 64 = .ok (.if_icmp .ge 80, 3) := by decide +kernel
theorem dX7_putOut_67 : decode cX7_putOut 67 = .ok (.aload_n 3, 1) := by decide +kernel
theorem dX7_putOut_68 : decode cX7_putOut 68 = .ok (.iload 5, 2) := by decide +kernel
theorem dX7_putOut_70 : decode cX7_putOut 70 = .ok (.aaload, 1) := by decide +kernel
theorem dX7_putOut_71 : decode cX7_putOut 71 = .ok (.astore 6, 2) := by decide +kernel
theorem dX7_putOut_73 : decode cX7_putOut 73 = .ok (.aload 6, 2) := by decide +kernel
theorem dX7_putOut_75 : decode cX7_putOut 75 = .ok (.getfield 93, 3) := by decide +kernel
theorem dX7_putOut_78 : decode cX7_putOut 78 = .ok (.astore 7, 2) := by decide +kernel
theorem dX7_putOut_80 : decode cX7_putOut 80 = .ok (.aload 7, 2) := by decide +kernel
theorem dX7_putOut_82 : decode cX7_putOut 82 = .ok (.arraylength, 1) := by decide +kernel
theorem dX7_putOut_83 : decode cX7_putOut 83 = .ok (.istore 8, 2) := by decide +kernel
theorem dX7_putOut_85 : decode cX7_putOut 85 = .ok (.iconst 0, 1) := by decide +kernel
theorem dX7_putOut_86 : decode cX7_putOut 86 = .ok (.istore 9, 2) := by decide +kernel
theorem dX7_putOut_88 : decode cX7_putOut 88 = .ok (.iload 9, 2) := by decide +kernel
theorem dX7_putOut_90 : decode cX7_putOut 90 = .ok (.iload 8, 2) := by decide +kernel
theorem dX7_putOut_92 : decode cX7_putOut 92 = .ok (.if_icmp .ge 46, 3) := by decide +kernel
theorem dX7_putOut_95 : decode cX7_putOut 95 = .ok (.aload 7, 2) := by decide +kernel
theorem dX7_putOut_97 : decode cX7_putOut 97 = .ok (.iload 9, 2) := by decide +kernel
theorem dX7_putOut_99 : decode cX7_putOut 99 = .ok (.aaload, 1) := by decide +kernel
theorem dX7_putOut_100 : decode cX7_putOut 100 = .ok (.astore 10, 2) := by decide +kernel
theorem dX7_putOut_102 : decode cX7_putOut 102 = .ok (.aload 10, 2) := by decide +kernel
theorem dX7_putOut_104 : decode cX7_putOut 104 = .ok (.getfield 229, 3) := by decide +kernel
theorem dX7_putOut_107 : decode cX7_putOut 107 = .ok (.aload_n 1, 1) := by decide +kernel
theorem dX7_putOut_108 : decode cX7_putOut 108 = .ok (.if_acmp .ne 24, 3) := by decide +kernel
theorem dX7_putOut_111 : decode cX7_putOut 111 = .ok (.aload 10, 2) := by decide +kernel
theorem dX7_putOut_113 : decode cX7_putOut 113 = .ok (.invokevirtual 126, 3) := by decide +kernel
theorem dX7_putOut_116 : decode cX7_putOut 116 = .ok (.aload_n 0, 1) := by decide +kernel
theorem dX7_putOut_117 : decode cX7_putOut 117 = .ok (.aload 10, 2) := by decide +kernel
theorem dX7_putOut_119 : decode cX7_putOut 119 = .ok (.getfield 119, 3) := by decide +kernel
theorem dX7_putOut_122 : decode cX7_putOut 122 = .ok (.iconst 0, 1) := by decide +kernel
theorem dX7_putOut_123 : decode cX7_putOut 123 = .ok (.invokevirtual 122, 3) := by decide +kernel
theorem dX7_putOut_126 : decode cX7_putOut 126 = .ok (.aload 10, 2) := by decide +kernel
theorem dX7_putOut_128 : decode cX7_putOut 128 = .ok (.aload_n 2, 1) := by decide +kernel
theorem dX7_putOut_129 : decode cX7_putOut 129 = .ok (.invokevirtual 413, 3) := by decide +kernel
theorem dX7_putOut_132 : decode cX7_putOut 132 = .ok (.iinc 9 1, 3) := by decide +kernel
theorem dX7_putOut_135 : decode cX7_putOut 135 = .ok (.goto (-47), 3) := by decide +kernel
theorem dX7_putOut_138 : decode cX7_putOut 138 = .ok (.iinc 5 1, 3) := by decide +kernel
theorem dX7_putOut_141 : decode cX7_putOut 141 = .ok (.goto (-81), 3) := by decide +kernel
theorem dX7_putOut_144 : decode cX7_putOut 144 = .ok (.aload_n 1, 1) := by decide +kernel
theorem dX7_putOut_145 : decode cX7_putOut 145 = .ok (.iconst 0, 1) := by decide +kernel
theorem dX7_putOut_146 : decode cX7_putOut 146 = .ok (.putfield 171, 3) := by decide +kernel
theorem dX7_putOut_149 : decode cX7_putOut 149 = .ok (.aload_n 0, 1) := by decide +kernel
theorem dX7_putOut_150 : decode cX7_putOut 150 = .ok (.getfield 48, 3) := by decide +kernel
theorem dX7_putOut_153 : decode cX7_putOut 153 = .ok (.iconst 2, 1) := by decide +kernel
theorem dX7_putOut_154 : decode cX7_putOut 154 = .ok (.dup2, 1) := by decide +kernel
theorem dX7_putOut_155 : decode cX7_putOut 155 = .ok (.iaload, 1) := by decide +kernel
theorem dX7_putOut_156 : decode cX7_putOut 156 = .ok (.iconst 1, 1) := by decide +kernel
theorem dX7_putOut_157 : decode cX7_putOut 157 = .ok (.iadd, 1) := by decide +kernel
theorem dX7_putOut_158 : decode cX7_putOut 158 = .ok (.iastore, 1) := by decide +kernel
theorem dX7_putOut_159 : decode cX7_putOut 159 = .ok (.iconst 1, 1) := by decide +kernel
theorem dX7_putOut_160 : decode cX7_putOut 160 = .ok (.ireturn, 1) := by decide +kernel
theorem dX7_noteEviction_0 : decode cX7_noteEviction 0 = .ok (.aload_n 1, 1) := by decide +kernel
theorem dX7_noteEviction_1 : decode cX7_noteEviction 1 = .ok (.getfield 174, 3) := by decide +kernel
theorem dX7_noteEviction_4 : decode cX7_noteEviction 4 = .ok (.bipush 8, 2) := by decide +kernel
theorem dX7_noteEviction_6 : decode cX7_noteEviction 6 = .ok (.imul, 1) := by decide +kernel
theorem dX7_noteEviction_7 : decode cX7_noteEviction 7 = .ok (.aload_n 1, 1) := by decide +kernel
theorem dX7_noteEviction_8 : decode cX7_noteEviction 8 = .ok (.getfield 376, 3) := by decide +kernel
theorem dX7_noteEviction_11 : decode cX7_noteEviction 11 = .ok (.iadd, 1) := by decide +kernel
theorem dX7_noteEviction_12 : decode cX7_noteEviction 12 = .ok (.istore_n 2, 1) := by decide +kernel
theorem dX7_noteEviction_13 : decode cX7_noteEviction 13 = .ok (.iload_n 2, 1) := by decide +kernel
theorem dX7_noteEviction_14 : decode cX7_noteEviction 14 = .ok (.ifCond .lt 23, 3) := by decide +kernel
theorem dX7_noteEviction_17 : decode cX7_noteEviction 17 = .ok (.iload_n 2, 1) := by decide +kernel
theorem dX7_noteEviction_18 : decode cX7_noteEviction 18 = .ok (.bipush 24, 2) := by decide +kernel
theorem dX7_noteEviction_20 : decode cX7_noteEviction 20 = .ok (.if_icmp .ge 17, 3) := by decide +kernel
theorem dX7_noteEviction_23 : decode cX7_noteEviction 23 = .ok (.aload_n 0, 1) := by decide +kernel
theorem dX7_noteEviction_24 : decode cX7_noteEviction 24 = .ok (.getfield 38, 3) := by decide +kernel
theorem dX7_noteEviction_27 : decode cX7_noteEviction 27 = .ok (.iload_n 2, 1) := by decide +kernel
theorem dX7_noteEviction_28 : decode cX7_noteEviction 28 = .ok (.aload_n 0, 1) := by decide +kernel
theorem dX7_noteEviction_29 : decode cX7_noteEviction 29 = .ok (.getfield 48, 3) := by decide +kernel
theorem dX7_noteEviction_32 : decode cX7_noteEviction 32 = .ok (.iconst 2, 1) := by decide +kernel
theorem dX7_noteEviction_33 : decode cX7_noteEviction 33 = .ok (.iaload, 1) := by decide +kernel
theorem dX7_noteEviction_34 : decode cX7_noteEviction 34 = .ok (.iconst 1, 1) := by decide +kernel
theorem dX7_noteEviction_35 : decode cX7_noteEviction 35 = .ok (.iadd, 1) := by decide +kernel
theorem dX7_noteEviction_36 : decode cX7_noteEviction 36 = .ok (.iastore, 1) := by decide +kernel
theorem dX7_noteEviction_37 : decode cX7_noteEviction 37 = .ok (.return_, 1) := by decide +kernel
theorem dX7_victim_0 : decode cX7_victim 0 = .ok (.aconst_null, 1) := by decide +kernel
theorem dX7_victim_1 : decode cX7_victim 1 = .ok (.astore_n 2, 1) := by decide +kernel
theorem dX7_victim_2 : decode cX7_victim 2 = .ok (.aload_n 0, 1) := by decide +kernel
theorem dX7_victim_3 : decode cX7_victim 3 = .ok (.getfield 11, 3) := by decide +kernel
theorem dX7_victim_6 : decode cX7_victim 6 = .ok (.astore_n 3, 1) := by decide +kernel
theorem dX7_victim_7 : decode cX7_victim 7 = .ok (.aload_n 3, 1) := by decide +kernel
theorem dX7_victim_8 : decode cX7_victim 8 = .ok (.arraylength, 1) := by decide +kernel
theorem dX7_victim_9 : decode cX7_victim 9 = .ok (.istore 4, 2) := by decide +kernel
theorem dX7_victim_11 : decode cX7_victim 11 = .ok (.iconst 0, 1) := by decide +kernel
theorem dX7_victim_12 : decode cX7_victim 12 = .ok (.istore 5, 2) := by decide +kernel
theorem dX7_victim_14 : decode cX7_victim 14 = .ok (.iload 5, 2) := by decide +kernel
theorem dX7_victim_16 : decode cX7_victim 16 = .ok (.iload 4, 2) := by decide +kernel
theorem dX7_victim_18 : decode cX7_victim 18 = .ok (.if_icmp .ge 68, 3) := by decide +kernel
theorem dX7_victim_21 : decode cX7_victim 21 = .ok (.aload_n 3, 1) := by decide +kernel
theorem dX7_victim_22 : decode cX7_victim 22 = .ok (.iload 5, 2) := by decide +kernel
theorem dX7_victim_24 : decode cX7_victim 24 = .ok (.aaload, 1) := by decide +kernel
theorem dX7_victim_25 : decode cX7_victim 25 = .ok (.astore 6, 2) := by decide +kernel
theorem dX7_victim_27 : decode cX7_victim 27 = .ok (.aload 6, 2) := by decide +kernel
theorem dX7_victim_29 : decode cX7_victim 29 = .ok (.getfield 85, 3) := by decide +kernel
theorem dX7_victim_32 : decode cX7_victim 32 = .ok (.ifCond .eq 21, 3) := by decide +kernel
theorem dX7_victim_35 : decode cX7_victim 35 = .ok (.iload_n 1, 1) := by decide +kernel
theorem dX7_victim_36 : decode cX7_victim 36 = .ok (.iconst (-1), 1) := by decide +kernel
theorem dX7_victim_37 : decode cX7_victim 37 = .ok (.if_icmp .eq 12, 3) := by decide +kernel
theorem dX7_victim_40 : decode cX7_victim 40 = .ok (.aload 6, 2) := by decide +kernel
theorem dX7_victim_42 : decode cX7_victim 42 = .ok (.getfield 132, 3) := by decide +kernel
theorem dX7_victim_45 : decode cX7_victim 45 = .ok (.iload_n 1, 1) := by decide +kernel
theorem dX7_victim_46 : decode cX7_victim 46 = .ok (.if_icmp .ne 7, 3) := by decide +kernel
theorem dX7_victim_49 : decode cX7_victim 49 = .ok (.iconst 1, 1) := by decide +kernel
theorem dX7_victim_50 : decode cX7_victim 50 = .ok (.goto 4, 3) := by decide +kernel
theorem dX7_victim_53 : decode cX7_victim 53 = .ok (.iconst 0, 1) := by decide +kernel
theorem dX7_victim_54 : decode cX7_victim 54 = .ok (.istore 7, 2) := by decide +kernel
theorem dX7_victim_56 : decode cX7_victim 56 = .ok (.iload 7, 2) := by decide +kernel
theorem dX7_victim_58 : decode cX7_victim 58 = .ok (.ifCond .eq 22, 3) := by decide +kernel
theorem dX7_victim_61 : decode cX7_victim 61 = .ok (.aload_n 2, 1) := by decide +kernel
theorem dX7_victim_62 : decode cX7_victim 62 = .ok (.ifnull 15, 3) := by decide +kernel
theorem dX7_victim_65 : decode cX7_victim 65 = .ok (.aload 6, 2) := by decide +kernel
theorem dX7_victim_67 : decode cX7_victim 67 = .ok (.invokevirtual 260, 3) := by decide +kernel
theorem dX7_victim_70 : decode cX7_victim 70 = .ok (.aload_n 2, 1) := by decide +kernel
theorem dX7_victim_71 : decode cX7_victim 71 = .ok (.invokevirtual 260, 3) := by decide +kernel
theorem dX7_victim_74 : decode cX7_victim 74 = .ok (.if_icmp .le 6, 3) := by decide +kernel
theorem dX7_victim_77 : decode cX7_victim 77 = .ok (.aload 6, 2) := by decide +kernel
theorem dX7_victim_79 : decode cX7_victim 79 = .ok (.astore_n 2, 1) := by decide +kernel
theorem dX7_victim_80 : decode cX7_victim 80 = .ok (.iinc 5 1, 3) := by decide +kernel
theorem dX7_victim_83 : decode cX7_victim 83 = .ok (.goto (-69), 3) := by decide +kernel
theorem dX7_victim_86 : decode cX7_victim 86 = .ok (.aload_n 2, 1) := by decide +kernel
theorem dX7_victim_87 : decode cX7_victim 87 = .ok (.areturn, 1) := by decide +kernel
theorem dX7_pageIn_0 : decode cX7_pageIn 0 = .ok (.iload_n 1, 1) := by decide +kernel
theorem dX7_pageIn_1 : decode cX7_pageIn 1 = .ok (.ifCond .lt 18, 3) := by decide +kernel
theorem dX7_pageIn_4 : decode cX7_pageIn 4 = .ok (.iload_n 1, 1) := by decide +kernel
theorem dX7_pageIn_5 : decode cX7_pageIn 5 = .ok (.bipush 24, 2) := by decide +kernel
theorem dX7_pageIn_7 : decode cX7_pageIn 7 = .ok (.if_icmp .ge 12, 3) := by decide +kernel
theorem dX7_pageIn_10 : decode cX7_pageIn 10 = .ok (.aload_n 0, 1) := by decide +kernel
theorem dX7_pageIn_11 : decode cX7_pageIn 11 = .ok (.getfield 17, 3) := by decide +kernel
theorem dX7_pageIn_14 : decode cX7_pageIn 14 = .ok (.iload_n 1, 1) := by decide +kernel
theorem dX7_pageIn_15 : decode cX7_pageIn 15 = .ok (.aaload, 1) := by decide +kernel
theorem dX7_pageIn_16 : decode cX7_pageIn 16 = .ok (.goto 4, 3) := by decide +kernel
theorem dX7_pageIn_19 : decode cX7_pageIn 19 = .ok (.aconst_null, 1) := by decide +kernel
theorem dX7_pageIn_20 : decode cX7_pageIn 20 = .ok (.areturn, 1) := by decide +kernel
theorem dX7_bringToEnd_0 : decode cX7_bringToEnd 0 = .ok (.aload_n 0, 1) := by decide +kernel
theorem dX7_bringToEnd_1 : decode cX7_bringToEnd 1 = .ok (.dup, 1) := by decide +kernel
theorem dX7_bringToEnd_2 : decode cX7_bringToEnd 2 = .ok (.getfield 416, 3) := by decide +kernel
theorem dX7_bringToEnd_5 : decode cX7_bringToEnd 5 = .ok (.iconst 1, 1) := by decide +kernel
theorem dX7_bringToEnd_6 : decode cX7_bringToEnd 6 = .ok (.iadd, 1) := by decide +kernel
theorem dX7_bringToEnd_7 : decode cX7_bringToEnd 7 = .ok (.putfield 416, 3) := by decide +kernel
theorem dX7_bringToEnd_10 : decode cX7_bringToEnd 10 = .ok (.aload_n 1, 1) := by decide +kernel
theorem dX7_bringToEnd_11 : decode cX7_bringToEnd 11 = .ok (.aload_n 0, 1) := by decide +kernel
theorem dX7_bringToEnd_12 : decode cX7_bringToEnd 12 = .ok (.getfield 416, 3) := by decide +kernel
theorem dX7_bringToEnd_15 : decode cX7_bringToEnd 15 = .ok (.putfield 419, 3) := by decide +kernel
theorem dX7_bringToEnd_18 : decode cX7_bringToEnd 18 = .ok (.aload_n 1, 1) := by decide +kernel
theorem dX7_bringToEnd_19 : decode cX7_bringToEnd 19 = .ok (.iload_n 2, 1) := by decide +kernel
theorem dX7_bringToEnd_20 : decode cX7_bringToEnd 20 = .ok (.putfield 422, 3) := by decide +kernel
theorem dX7_bringToEnd_23 : decode cX7_bringToEnd 23 = .ok (.return_, 1) := by decide +kernel
theorem dX7_members_0 : decode cX7_members 0 = .ok (.iconst 0, 1) := by decide +kernel
theorem dX7_members_1 : decode cX7_members 1 = .ok (.istore_n 3, 1) := by decide +kernel
theorem dX7_members_2 : decode cX7_members 2 = .ok (.aload_n 0, 1) := by decide +kernel
theorem dX7_members_3 : decode cX7_members 3 = .ok (.getfield 17, 3) := by decide +kernel
theorem dX7_members_6 : decode cX7_members 6 = .ok (.astore 4, 2) := by decide +kernel
theorem dX7_members_8 : decode cX7_members 8 = .ok (.aload 4, 2) := by decide +kernel
theorem dX7_members_10 : decode cX7_members 10 = .ok (.arraylength, 1) := by decide +kernel
theorem dX7_members_11 : decode cX7_members 11 = .ok (.istore 5, 2) := by decide +kernel
theorem dX7_members_13 : decode cX7_members 13 = .ok (.iconst 0, 1) := by decide +kernel
theorem dX7_members_14 : decode cX7_members 14 = .ok (.istore 6, 2) := by decide +kernel
theorem dX7_members_16 : decode cX7_members 16 = .ok (.iload 6, 2) := by decide +kernel
theorem dX7_members_18 : decode cX7_members 18 = .ok (.iload 5, 2) := by decide +kernel
theorem dX7_members_20 : decode cX7_members 20 = .ok (.if_icmp .ge 34, 3) := by decide +kernel
theorem dX7_members_23 : decode cX7_members 23 = .ok (.aload 4, 2) := by decide +kernel
theorem dX7_members_25 : decode cX7_members 25 = .ok (.iload 6, 2) := by decide +kernel
theorem dX7_members_27 : decode cX7_members 27 = .ok (.aaload, 1) := by decide +kernel
theorem dX7_members_28 : decode cX7_members 28 = .ok (.astore 7, 2) := by decide +kernel
theorem dX7_members_30 : decode cX7_members 30 = .ok (.iload_n 3, 1) := by decide +kernel
theorem dX7_members_31 : decode cX7_members 31 = .ok (.aload 7, 2) := by decide +kernel
theorem dX7_members_33 : decode cX7_members 33 = .ok (.iload_n 1, 1) := by decide +kernel
theorem dX7_members_34 : decode cX7_members 34 = .ok (.iload_n 2, 1) := by decide +kernel
theorem dX7_members_35 : decode cX7_members 35 = .ok (.invokevirtual 425, 3) := by decide +kernel
theorem dX7_members_38 : decode cX7_members 38 = .ok (.ifCond .eq 7, 3) := by decide +kernel
theorem dX7_members_41 : decode cX7_members 41 = .ok (.iconst 1, 1) := by decide +kernel
theorem dX7_members_42 : decode cX7_members 42 = .ok (.goto 4, 3) := by decide +kernel
theorem dX7_members_45 : decode cX7_members 45 = .ok (.iconst 0, 1) := by decide +kernel
theorem dX7_members_46 : decode cX7_members 46 = .ok (.iadd, 1) := by decide +kernel
theorem dX7_members_47 : decode cX7_members 47 = .ok (.istore_n 3, 1) := by decide +kernel
theorem dX7_members_48 : decode cX7_members 48 = .ok (.iinc 6 1, 3) := by decide +kernel
theorem dX7_members_51 : decode cX7_members 51 = .ok (.goto (-35), 3) := by decide +kernel
theorem dX7_members_54 : decode cX7_members 54 = .ok (.iload_n 3, 1) := by decide +kernel
theorem dX7_members_55 : decode cX7_members 55 = .ok (.ireturn, 1) := by decide +kernel
theorem dX7_firstMember_0 : decode cX7_firstMember 0 = .ok (.aconst_null, 1) := by decide +kernel
theorem dX7_firstMember_1 : decode cX7_firstMember 1 = .ok (.astore_n 3, 1) := by decide +kernel
theorem dX7_firstMember_2 : decode cX7_firstMember 2 = .ok (.aload_n 0, 1) := by decide +kernel
theorem dX7_firstMember_3 : decode cX7_firstMember 3 = .ok (.getfield 17, 3) := by decide +kernel
theorem dX7_firstMember_6 : decode cX7_firstMember 6 = .ok (.astore 4, 2) := by decide +kernel
theorem dX7_firstMember_8 : decode cX7_firstMember 8 = .ok (.aload 4, 2) := by decide +kernel
theorem dX7_firstMember_10 : decode cX7_firstMember 10 = .ok (.arraylength, 1) := by decide +kernel
theorem dX7_firstMember_11 : decode cX7_firstMember 11 = .ok (.istore 5, 2) := by decide +kernel
theorem dX7_firstMember_13 : decode cX7_firstMember 13 = .ok (.iconst 0, 1) := by decide +kernel
theorem dX7_firstMember_14 : decode cX7_firstMember 14 = .ok (.istore 6, 2) := by decide +kernel
theorem dX7_firstMember_16 : decode cX7_firstMember 16 = .ok (.iload 6, 2) := by decide +kernel
theorem dX7_firstMember_18 : decode cX7_firstMember 18 = .ok (.iload 5, 2) := by decide +kernel
theorem dX7_firstMember_20 : decode cX7_firstMember 20 = .ok (.if_icmp .ge 45, 3) := by decide +kernel
theorem dX7_firstMember_23 : decode cX7_firstMember 23 = .ok (.aload 4, 2) := by decide +kernel
theorem dX7_firstMember_25 : decode cX7_firstMember 25 = .ok (.iload 6, 2) := by decide +kernel
theorem dX7_firstMember_27 : decode cX7_firstMember 27 = .ok (.aaload, 1) := by decide +kernel
theorem dX7_firstMember_28 : decode cX7_firstMember 28 = .ok (.astore 7, 2) := by decide +kernel
theorem dX7_firstMember_30 : decode cX7_firstMember 30 = .ok (.aload 7, 2) := by decide +kernel
theorem dX7_firstMember_32 : decode cX7_firstMember 32 = .ok (.iload_n 1, 1) := by decide +kernel
theorem dX7_firstMember_33 : decode cX7_firstMember 33 = .ok (.iload_n 2, 1) := by decide +kernel
theorem dX7_firstMember_34 : decode cX7_firstMember 34 = .ok (.invokevirtual 425, 3) := by decide +kernel
theorem dX7_firstMember_37 : decode cX7_firstMember 37 = .ok (.ifCond .eq 22, 3) := by decide +kernel
theorem dX7_firstMember_40 : decode cX7_firstMember 40 = .ok (.aload_n 3, 1) := by decide +kernel
theorem dX7_firstMember_41 : decode cX7_firstMember 41 = .ok (.ifnull 15, 3) := by decide +kernel
theorem dX7_firstMember_44 : decode cX7_firstMember 44 = .ok (.aload 7, 2) := by decide +kernel
theorem dX7_firstMember_46 : decode cX7_firstMember 46 = .ok (.getfield 419, 3) := by decide +kernel
theorem dX7_firstMember_49 : decode cX7_firstMember 49 = .ok (.aload_n 3, 1) := by decide +kernel
theorem dX7_firstMember_50 : decode cX7_firstMember 50 = .ok (.getfield 419, 3) := by decide +kernel
theorem dX7_firstMember_53 : decode cX7_firstMember 53 = .ok (.if_icmp .ge 6, 3) := by decide +kernel
theorem dX7_firstMember_56 : decode cX7_firstMember 56 = .ok (.aload 7, 2) := by decide +kernel
theorem dX7_firstMember_58 : decode cX7_firstMember 58 = .ok (.astore_n 3, 1) := by decide +kernel
theorem dX7_firstMember_59 : decode cX7_firstMember 59 = .ok (.iinc 6 1, 3) := by decide +kernel
theorem dX7_firstMember_62 : decode cX7_firstMember 62 = .ok (.goto (-46), 3) := by decide +kernel
theorem dX7_firstMember_65 : decode cX7_firstMember 65 = .ok (.aload_n 3, 1) := by decide +kernel
theorem dX7_firstMember_66 : decode cX7_firstMember 66 = .ok (.areturn, 1) := by decide +kernel
theorem dX7_frameAt_0 : decode cX7_frameAt 0 = .ok (.aload_n 0, 1) := by decide +kernel
theorem dX7_frameAt_1 : decode cX7_frameAt 1 = .ok (.getfield 17, 3) := by decide +kernel
theorem dX7_frameAt_4 : decode cX7_frameAt 4 = .ok (.astore_n 3, 1) := by decide +kernel
theorem dX7_frameAt_5 : decode cX7_frameAt 5 = .ok (.aload_n 3, 1) := by decide +kernel
theorem dX7_frameAt_6 : decode cX7_frameAt 6 = .ok (.arraylength, 1) := by decide +kernel
theorem dX7_frameAt_7 : decode cX7_frameAt 7 = .ok (.istore 4, 2) := by decide +kernel
theorem dX7_frameAt_9 : decode cX7_frameAt 9 = .ok (.iconst 0, 1) := by decide +kernel
theorem dX7_frameAt_10 : decode cX7_frameAt 10 = .ok (.istore 5, 2) := by decide +kernel
theorem dX7_frameAt_12 : decode cX7_frameAt 12 = .ok (.iload 5, 2) := by decide +kernel
theorem dX7_frameAt_14 : decode cX7_frameAt 14 = .ok (.iload 4, 2) := by decide +kernel
theorem dX7_frameAt_16 : decode cX7_frameAt 16 = .ok (.if_icmp .ge 41, 3) := by decide +kernel
theorem dX7_frameAt_19 : decode cX7_frameAt 19 = .ok (.aload_n 3, 1) := by decide +kernel
theorem dX7_frameAt_20 : decode cX7_frameAt 20 = .ok (.iload 5, 2) := by decide +kernel
theorem dX7_frameAt_22 : decode cX7_frameAt 22 = .ok (.aaload, 1) := by decide +kernel
theorem dX7_frameAt_23 : decode cX7_frameAt 23 = .ok (.astore 6, 2) := by decide +kernel
theorem dX7_frameAt_25 : decode cX7_frameAt 25 = .ok (.aload 6, 2) := by decide +kernel
theorem dX7_frameAt_27 : decode cX7_frameAt 27 = .ok (.iload_n 1, 1) := by decide +kernel
theorem dX7_frameAt_28 : decode cX7_frameAt 28 = .ok (.iconst (-1), 1) := by decide +kernel
theorem dX7_frameAt_29 : decode cX7_frameAt 29 = .ok (.invokevirtual 425, 3) := by decide +kernel
theorem dX7_frameAt_32 : decode cX7_frameAt 32 = .ok (.ifCond .eq 19, 3) := by decide +kernel
theorem dX7_frameAt_35 : decode cX7_frameAt 35 = .ok (.aload_n 0, 1) := by decide +kernel
theorem dX7_frameAt_36 : decode cX7_frameAt 36 = .ok (.aload 6, 2) := by decide +kernel
theorem dX7_frameAt_38 : decode cX7_frameAt 38 = .ok (.invokevirtual 428, 3) := by decide +kernel
theorem dX7_frameAt_41 : decode cX7_frameAt 41 = .ok (.iload_n 2, 1) := by decide +kernel
theorem dX7_frameAt_42 : decode cX7_frameAt 42 = .ok (.if_icmp .ne 9, 3) := by decide +kernel
theorem dX7_frameAt_45 : decode cX7_frameAt 45 = .ok (.aload 6, 2) := by decide +kernel
theorem dX7_frameAt_47 : decode cX7_frameAt 47 = .ok (.getfield 233, 3) := by decide +kernel
theorem dX7_frameAt_50 : decode cX7_frameAt 50 = .ok (.ireturn, 1) := by decide +kernel
theorem dX7_frameAt_51 : decode cX7_frameAt 51 = .ok (.iinc 5 1, 3) := by decide +kernel
theorem dX7_frameAt_54 : decode cX7_frameAt 54 = .ok (.goto (-42), 3) := by decide +kernel
theorem dX7_frameAt_57 : decode cX7_frameAt 57 = .ok (.iconst (-1), 1) := by decide +kernel
theorem dX7_frameAt_58 : decode cX7_frameAt 58 = .ok (.ireturn, 1) := by decide +kernel
theorem dX7_membersAhead_0 : decode cX7_membersAhead 0 = .ok (.iconst 0, 1) := by decide +kernel
theorem dX7_membersAhead_1 : decode cX7_membersAhead 1 = .ok (.istore_n 2, 1) := by decide +kernel
theorem dX7_membersAhead_2 : decode cX7_membersAhead 2 = .ok (.aload_n 0, 1) := by decide +kernel
theorem dX7_membersAhead_3 : decode cX7_membersAhead 3 = .ok (.getfield 17, 3) := by decide +kernel
theorem dX7_membersAhead_6 : decode cX7_membersAhead 6 = .ok (.astore_n 3, 1) := by decide +kernel
theorem dX7_membersAhead_7 : decode cX7_membersAhead 7 = .ok (.aload_n 3, 1) := by decide +kernel
theorem dX7_membersAhead_8 : decode cX7_membersAhead 8 = .ok (.arraylength, 1) := by decide +kernel
theorem dX7_membersAhead_9 : decode cX7_membersAhead 9 = .ok (.istore 4, 2) := by decide +kernel
theorem dX7_membersAhead_11 : decode cX7_membersAhead 11 = .ok (.iconst 0, 1) := by decide +kernel
theorem dX7_membersAhead_12 : decode cX7_membersAhead 12 = .ok (.istore 5, 2) := by decide +kernel
theorem dX7_membersAhead_14 : decode cX7_membersAhead 14 = .ok (.iload 5, 2) := by decide +kernel
theorem dX7_membersAhead_16 : decode cX7_membersAhead 16 = .ok (.iload 4, 2) := by decide +kernel
theorem dX7_membersAhead_18 : decode cX7_membersAhead 18 = .ok (.if_icmp .ge 48, 3) := by decide +kernel
theorem dX7_membersAhead_21 : decode cX7_membersAhead 21 = .ok (.aload_n 3, 1) := by decide +kernel
theorem dX7_membersAhead_22 : decode cX7_membersAhead 22 = .ok (.iload 5, 2) := by decide +kernel
theorem dX7_membersAhead_24 : decode cX7_membersAhead 24 = .ok (.aaload, 1) := by decide +kernel
theorem dX7_membersAhead_25 : decode cX7_membersAhead 25 = .ok (.astore 6, 2) := by decide +kernel
theorem dX7_membersAhead_27 : decode cX7_membersAhead 27 = .ok (.iload_n 2, 1) := by decide +kernel
theorem dX7_membersAhead_28 : decode cX7_membersAhead 28 = .ok (.aload 6, 2) := by decide +kernel
theorem dX7_membersAhead_30 : decode cX7_membersAhead 30 = .ok (.aload_n 1, 1) := by decide +kernel
theorem dX7_membersAhead_31 : decode cX7_membersAhead 31 = .ok (.getfield 422, 3) := by decide +kernel
theorem dX7_membersAhead_34 : decode cX7_membersAhead 34 = .ok (.iconst (-1), 1) := by decide +kernel
theorem dX7_membersAhead_35 : decode cX7_membersAhead 35 = .ok (.invokevirtual 425, 3) := by decide +kernel
theorem dX7_membersAhead_38 : decode cX7_membersAhead 38 = .ok (.ifCond .eq 19, 3) := by decide +kernel
theorem dX7_membersAhead_41 : decode cX7_membersAhead 41 = .ok (.aload 6, 2) := by decide +kernel
theorem dX7_membersAhead_43 : decode cX7_membersAhead 43 = .ok (.getfield 419, 3) := by decide +kernel
theorem dX7_membersAhead_46 : decode cX7_membersAhead 46 = .ok (.aload_n 1, 1) := by decide +kernel
theorem dX7_membersAhead_47 : decode cX7_membersAhead 47 = .ok (.getfield 419, 3) := by decide +kernel
theorem dX7_membersAhead_50 : decode cX7_membersAhead 50 = .ok (.if_icmp .ge 7, 3) := by decide +kernel
theorem dX7_membersAhead_53 : decode cX7_membersAhead 53 = .ok (.iconst 1, 1) := by decide +kernel
theorem dX7_membersAhead_54 : decode cX7_membersAhead 54 = .ok (.goto 4, 3) := by decide +kernel
theorem dX7_membersAhead_57 : decode cX7_membersAhead 57 = .ok (.iconst 0, 1) := by decide +kernel
theorem dX7_membersAhead_58 : decode cX7_membersAhead 58 = .ok (.iadd, 1) := by decide +kernel
theorem dX7_membersAhead_59 : decode cX7_membersAhead 59 = .ok (.istore_n 2, 1) := by decide +kernel
theorem dX7_membersAhead_60 : decode cX7_membersAhead 60 = .ok (.iinc 5 1, 3) := by decide +kernel
theorem dX7_membersAhead_63 : decode cX7_membersAhead 63 = .ok (.goto (-49), 3) := by decide +kernel
theorem dX7_membersAhead_66 : decode cX7_membersAhead 66 = .ok (.iload_n 2, 1) := by decide +kernel
theorem dX7_membersAhead_67 : decode cX7_membersAhead 67 = .ok (.ireturn, 1) := by decide +kernel
theorem dX7_handleAll_0 : decode cX7_handleAll 0 = .ok (.aload_n 0, 1) := by decide +kernel
theorem dX7_handleAll_1 : decode cX7_handleAll 1 = .ok (.getfield 23, 3) := by decide +kernel
theorem dX7_handleAll_4 : decode cX7_handleAll 4 = .ok (.astore_n 1, 1) := by decide +kernel
theorem dX7_handleAll_5 : decode cX7_handleAll 5 = .ok (.aload_n 1, 1) := by decide +kernel
theorem dX7_handleAll_6 : decode cX7_handleAll 6 = .ok (.arraylength, 1) := by decide +kernel
theorem dX7_handleAll_7 : decode cX7_handleAll 7 = .ok (.istore_n 2, 1) := by decide +kernel
theorem dX7_handleAll_8 : decode cX7_handleAll 8 = .ok (.iconst 0, 1) := by decide +kernel
theorem dX7_handleAll_9 : decode cX7_handleAll 9 = .ok (.istore_n 3, 1) := by decide +kernel
theorem dX7_handleAll_10 : decode cX7_handleAll 10 = .ok (.iload_n 3, 1) := by decide +kernel
theorem dX7_handleAll_11 : decode cX7_handleAll 11 = .ok (.iload_n 2, 1) := by decide +kernel
theorem dX7_handleAll_12 : decode cX7_handleAll 12 = .ok (.if_icmp .ge 20, 3) := by decide +kernel
theorem dX7_handleAll_15 : decode cX7_handleAll 15 = .ok (.aload_n 1, 1) := by decide +kernel
theorem dX7_handleAll_16 : decode cX7_handleAll 16 = .ok (.iload_n 3, 1) := by decide +kernel
theorem dX7_handleAll_17 : decode cX7_handleAll 17 = .ok (.aaload, 1) := by decide +kernel
theorem dX7_handleAll_18 : decode cX7_handleAll 18 = .ok (.astore 4, 2) := by decide +kernel
theorem dX7_handleAll_20 : decode cX7_handleAll 20 = .ok (.aload 4, 2) := by decide +kernel
theorem dX7_handleAll_22 : decode cX7_handleAll 22 = .ok (.invokevirtual 191, 3) := by decide +kernel
theorem dX7_handleAll_25 : decode cX7_handleAll 25 = .ok (.pop, 1) := by decide +kernel
theorem dX7_handleAll_26 : decode cX7_handleAll 26 = .ok (.iinc 3 1, 3) := by decide +kernel
theorem dX7_handleAll_29 : decode cX7_handleAll 29 = .ok (.goto (-19), 3) := by decide +kernel
theorem dX7_handleAll_32 : decode cX7_handleAll 32 = .ok (.return_, 1) := by decide +kernel
theorem dX7_messages_0 : decode cX7_messages 0 = .ok (.iconst 0, 1) := by decide +kernel
theorem dX7_messages_1 : decode cX7_messages 1 = .ok (.istore_n 1, 1) := by decide +kernel
theorem dX7_messages_2 : decode cX7_messages 2 = .ok (.aload_n 0, 1) := by decide +kernel
theorem dX7_messages_3 : decode cX7_messages 3 = .ok (.getfield 23, 3) := by decide +kernel
theorem dX7_messages_6 : decode cX7_messages 6 = .ok (.astore_n 2, 1) := by decide +kernel
theorem dX7_messages_7 : decode cX7_messages 7 = .ok (.aload_n 2, 1) := by decide +kernel
theorem dX7_messages_8 : decode cX7_messages 8 = .ok (.arraylength, 1) := by decide +kernel
theorem dX7_messages_9 : decode cX7_messages 9 = .ok (.istore_n 3, 1) := by decide +kernel
theorem dX7_messages_10 : decode cX7_messages 10 = .ok (.iconst 0, 1) := by decide +kernel
theorem dX7_messages_11 : decode cX7_messages 11 = .ok (.istore 4, 2) := by decide +kernel
theorem dX7_messages_13 : decode cX7_messages 13 = .ok (.iload 4, 2) := by decide +kernel
theorem dX7_messages_15 : decode cX7_messages 15 = .ok (.iload_n 3, 1) := by decide +kernel
theorem dX7_messages_16 : decode cX7_messages 16 = .ok (.if_icmp .ge 23, 3) := by decide +kernel
theorem dX7_messages_19 : decode cX7_messages 19 = .ok (.aload_n 2, 1) := by decide +kernel
theorem dX7_messages_20 : decode cX7_messages 20 = .ok (.iload 4, 2) := by decide +kernel
theorem dX7_messages_22 : decode cX7_messages 22 = .ok (.aaload, 1) := by decide +kernel
theorem dX7_messages_23 : decode cX7_messages 23 = .ok (.astore 5, 2) := by decide +kernel
theorem dX7_messages_25 : decode cX7_messages 25 = .ok (.iload_n 1, 1) := by decide +kernel
theorem dX7_messages_26 : decode cX7_messages 26 = .ok (.aload 5, 2) := by decide +kernel
theorem dX7_messages_28 : decode cX7_messages 28 = .ok (.invokevirtual 432, 3) := by decide +kernel
theorem dX7_messages_31 : decode cX7_messages 31 = .ok (.iadd, 1) := by decide +kernel
theorem dX7_messages_32 : decode cX7_messages 32 = .ok (.istore_n 1, 1) := by decide +kernel
theorem dX7_messages_33 : decode cX7_messages 33 = .ok (.iinc 4 1, 3) := by decide +kernel
theorem dX7_messages_36 : decode cX7_messages 36 = .ok (.goto (-23), 3) := by decide +kernel
theorem dX7_messages_39 : decode cX7_messages 39 = .ok (.iload_n 1, 1) := by decide +kernel
theorem dX7_messages_40 : decode cX7_messages 40 = .ok (.ireturn, 1) := by decide +kernel
theorem dX7_isSomeToMerge_0 : decode cX7_isSomeToMerge 0 = .ok (.aload_n 0, 1) := by decide +kernel
theorem dX7_isSomeToMerge_1 : decode cX7_isSomeToMerge 1 = .ok (.getfield 11, 3) := by decide +kernel
theorem dX7_isSomeToMerge_4 : decode cX7_isSomeToMerge 4 = .ok (.astore_n 1, 1) := by decide +kernel
theorem dX7_isSomeToMerge_5 : decode cX7_isSomeToMerge 5 = .ok (.aload_n 1, 1) := by decide +kernel
theorem dX7_isSomeToMerge_6 : decode cX7_isSomeToMerge 6 = .ok (.arraylength, 1) := by decide +kernel
theorem dX7_isSomeToMerge_7 : decode cX7_isSomeToMerge 7 = .ok (.istore_n 2, 1) := by decide +kernel
theorem dX7_isSomeToMerge_8 : decode cX7_isSomeToMerge 8 = .ok (.iconst 0, 1) := by decide +kernel
theorem dX7_isSomeToMerge_9 : decode cX7_isSomeToMerge 9 = .ok (.istore_n 3, 1) := by decide +kernel
theorem dX7_isSomeToMerge_10 : decode cX7_isSomeToMerge 10 = .ok (.iload_n 3, 1) := by decide +kernel
theorem dX7_isSomeToMerge_11 : decode cX7_isSomeToMerge 11 = .ok (.iload_n 2, 1) := by decide +kernel
theorem dX7_isSomeToMerge_12 : decode cX7_isSomeToMerge 12 = .ok (.if_icmp .ge 24, 3) := by decide +kernel
theorem dX7_isSomeToMerge_15 : decode cX7_isSomeToMerge 15 = .ok (.aload_n 1, 1) := by decide +kernel
theorem dX7_isSomeToMerge_16 : decode cX7_isSomeToMerge 16 = .ok (.iload_n 3, 1) := by decide +kernel
theorem dX7_isSomeToMerge_17 : decode cX7_isSomeToMerge 17 = .ok (.aaload, 1) := by decide +kernel
theorem dX7_isSomeToMerge_18 : decode cX7_isSomeToMerge 18 = .ok (.astore 4, 2) := by decide +kernel
theorem dX7_isSomeToMerge_20 : decode cX7_isSomeToMerge 20 = .ok (.aload 4, 2) := by decide +kernel
theorem dX7_isSomeToMerge_22 : decode cX7_isSomeToMerge 22 = .ok (.invokevirtual 216, 3) := by decide +kernel
theorem dX7_isSomeToMerge_25 : decode cX7_isSomeToMerge 25 = .ok (.ifCond .eq 5, 3) := by decide +kernel
theorem dX7_isSomeToMerge_28 : decode cX7_isSomeToMerge 28 = .ok (.iconst 1, 1) := by decide +kernel
theorem dX7_isSomeToMerge_29 : decode cX7_isSomeToMerge 29 = .ok (.ireturn, 1) := by decide +kernel
theorem dX7_isSomeToMerge_30 : decode cX7_isSomeToMerge 30 = .ok (.iinc 3 1, 3) := by decide +kernel
theorem dX7_isSomeToMerge_33 : decode cX7_isSomeToMerge 33 = .ok (.goto (-23), 3) := by decide +kernel
theorem dX7_isSomeToMerge_36 : decode cX7_isSomeToMerge 36 = .ok (.iconst 0, 1) := by decide +kernel
theorem dX7_isSomeToMerge_37 : decode cX7_isSomeToMerge 37 = .ok (.ireturn, 1) := by decide +kernel
theorem dX7_passToNextSpace_0 : decode cX7_passToNextSpace 0 = .ok (.aload_n 0, 1) := by decide +kernel
theorem dX7_passToNextSpace_1 : decode cX7_passToNextSpace 1 = .ok (.iconst 0, 1) := by decide +kernel
theorem dX7_passToNextSpace_2 : decode cX7_passToNextSpace 2 = .ok (.putfield 213, 3) := by decide +kernel
theorem dX7_passToNextSpace_5 : decode cX7_passToNextSpace 5 = .ok (.aload_n 0, 1) := by decide +kernel
theorem dX7_passToNextSpace_6 : decode cX7_passToNextSpace 6 = .ok (.dup, 1) := by decide +kernel
theorem dX7_passToNextSpace_7 : decode cX7_passToNextSpace 7 = .ok (.getfield 210, 3) := by decide +kernel
theorem dX7_passToNextSpace_10 : decode cX7_passToNextSpace 10 = .ok (.iconst 1, 1) := by decide +kernel
theorem dX7_passToNextSpace_11 : decode cX7_passToNextSpace 11 = .ok (.iadd, 1) := by decide +kernel
theorem dX7_passToNextSpace_12 : decode cX7_passToNextSpace 12 = .ok (.putfield 210, 3) := by decide +kernel
theorem dX7_passToNextSpace_15 : decode cX7_passToNextSpace 15 = .ok (.aload_n 0, 1) := by decide +kernel
theorem dX7_passToNextSpace_16 : decode cX7_passToNextSpace 16 = .ok (.getfield 210, 3) := by decide +kernel
theorem dX7_passToNextSpace_19 : decode cX7_passToNextSpace 19 = .ok (.bipush 6, 2) := by decide +kernel
theorem dX7_passToNextSpace_21 : decode cX7_passToNextSpace 21 = .ok (.if_icmp .lt 75, 3) := by decide +kernel
theorem dX7_passToNextSpace_24 : decode cX7_passToNextSpace 24 = .ok (.aload_n 0, 1) := by decide +kernel
theorem dX7_passToNextSpace_25 : decode cX7_passToNextSpace 25 = .ok (.iconst 0, 1) := by decide +kernel
theorem dX7_passToNextSpace_26 : decode cX7_passToNextSpace 26 = .ok (.putfield 210, 3) := by decide +kernel
theorem dX7_passToNextSpace_29 : decode cX7_passToNextSpace 29 = .ok (.aload_n 0, 1) := by decide +kernel
theorem dX7_passToNextSpace_30 : decode cX7_passToNextSpace 30 = .ok (.getfield 11, 3) := by decide +kernel
theorem dX7_passToNextSpace_33 : decode cX7_passToNextSpace 33 = .ok (.astore_n 1, 1) := by decide +kernel
theorem dX7_passToNextSpace_34 : decode cX7_passToNextSpace 34 = .ok (.aload_n 1, 1) := by decide +kernel
theorem dX7_passToNextSpace_35 : decode cX7_passToNextSpace 35 = .ok (.arraylength, 1) := by decide +kernel
theorem dX7_passToNextSpace_36 : decode cX7_passToNextSpace 36 = .ok (.istore_n 2, 1) := by decide +kernel
theorem dX7_passToNextSpace_37 : decode cX7_passToNextSpace 37 = .ok (.iconst 0, 1) := by decide +kernel
theorem dX7_passToNextSpace_38 : decode cX7_passToNextSpace 38 = .ok (.istore_n 3, 1) := by decide +kernel
theorem dX7_passToNextSpace_39 : decode cX7_passToNextSpace 39 = .ok (.iload_n 3, 1) := by decide +kernel
theorem dX7_passToNextSpace_40 : decode cX7_passToNextSpace 40 = .ok (.iload_n 2, 1) := by decide +kernel
theorem dX7_passToNextSpace_41 : decode cX7_passToNextSpace 41 = .ok (.if_icmp .ge 55, 3) := by decide +kernel
theorem dX7_passToNextSpace_44 : decode cX7_passToNextSpace 44 = .ok (.aload_n 1, 1) := by decide +kernel
theorem dX7_passToNextSpace_45 : decode cX7_passToNextSpace 45 = .ok (.iload_n 3, 1) := by decide +kernel
theorem dX7_passToNextSpace_46 : decode cX7_passToNextSpace 46 = .ok (.aaload, 1) := by decide +kernel
theorem dX7_passToNextSpace_47 : decode cX7_passToNextSpace 47 = .ok (.astore 4, 2) := by decide +kernel
theorem dX7_passToNextSpace_49 : decode cX7_passToNextSpace 49 = .ok (.aload 4, 2) := by decide +kernel
theorem dX7_passToNextSpace_51 : decode cX7_passToNextSpace 51 = .ok (.getfield 93, 3) := by decide +kernel
theorem dX7_passToNextSpace_54 : decode cX7_passToNextSpace 54 = .ok (.astore 5, 2) := by decide +kernel
theorem dX7_passToNextSpace_56 : decode cX7_passToNextSpace 56 = .ok (.aload 5, 2) := by decide +kernel
theorem dX7_passToNextSpace_58 : decode cX7_passToNextSpace 58 = .ok (.arraylength, 1) := by decide +kernel
theorem dX7_passToNextSpace_59 : decode cX7_passToNextSpace 59 = .ok (.istore 6, 2) := by decide +kernel
theorem dX7_passToNextSpace_61 : decode cX7_passToNextSpace 61 = .ok (.iconst 0, 1) := by decide +kernel
theorem dX7_passToNextSpace_62 : decode cX7_passToNextSpace 62 = .ok (.istore 7, 2) := by decide +kernel
theorem dX7_passToNextSpace_64 : decode cX7_passToNextSpace 64 = .ok (.iload 7, 2) := by decide +kernel
theorem dX7_passToNextSpace_66 : decode cX7_passToNextSpace 66 = .ok (.iload 6, 2) := by decide +kernel
theorem dX7_passToNextSpace_68 : decode cX7_passToNextSpace 68 = .ok (.if_icmp .ge 22, 3) := by decide +kernel
theorem dX7_passToNextSpace_71 : decode cX7_passToNextSpace 71 = .ok (.aload 5, 2) := by decide +kernel
theorem dX7_passToNextSpace_73 : decode cX7_passToNextSpace 73 = .ok (.iload 7, 2) := by decide +kernel
theorem dX7_passToNextSpace_75 : decode cX7_passToNextSpace 75 = .ok (.aaload, 1) := by decide +kernel
theorem dX7_passToNextSpace_76 : decode cX7_passToNextSpace 76 = .ok (.astore 8, 2) := by decide +kernel
theorem dX7_passToNextSpace_78 : decode cX7_passToNextSpace 78 = .ok (.aload 8, 2) := by decide +kernel
theorem dX7_passToNextSpace_80 : decode cX7_passToNextSpace 80 = .ok (.iconst 0, 1) := by decide +kernel
theorem dX7_passToNextSpace_81 : decode cX7_passToNextSpace 81 = .ok (.putfield 433, 3) := by decide +kernel
theorem dX7_passToNextSpace_84 : decode cX7_passToNextSpace 84 = .ok (.iinc 7 1, 3) := by decide +kernel
theorem dX7_passToNextSpace_87 : decode cX7_passToNextSpace 87 = .ok (.goto (-23), 3) := by decide +kernel
theorem dX7_passToNextSpace_90 : decode cX7_passToNextSpace 90 = .ok (.iinc 3 1, 3) := by decide +kernel
theorem dX7_passToNextSpace_93 : decode cX7_passToNextSpace 93 = .ok (.goto (-54), 3) := by decide +kernel
theorem dX7_passToNextSpace_96 : decode cX7_passToNextSpace 96 = .ok (.return_, 1) := by decide +kernel
theorem dX7_look_0 : decode cX7_look 0 = .ok (.aload_n 1, 1) := by decide +kernel
theorem dX7_look_1 : decode cX7_look 1 = .ok (.getfield 229, 3) := by decide +kernel
theorem dX7_look_4 : decode cX7_look 4 = .ok (.astore_n 2, 1) := by decide +kernel
theorem dX7_look_5 : decode cX7_look 5 = .ok (.aload_n 2, 1) := by decide +kernel
theorem dX7_look_6 : decode cX7_look 6 = .ok (.ifnull 10, 3) := by decide +kernel
theorem dX7_look_9 : decode cX7_look 9 = .ok (.aload_n 2, 1) := by decide +kernel
theorem dX7_look_10 : decode cX7_look 10 = .ok (.invokevirtual 308, 3) := by decide +kernel
theorem dX7_look_13 : decode cX7_look 13 = .ok (.ifCond .ne 5, 3) := by decide +kernel
theorem dX7_look_16 : decode cX7_look 16 = .ok (.iconst 0, 1) := by decide +kernel
theorem dX7_look_17 : decode cX7_look 17 = .ok (.ireturn, 1) := by decide +kernel
theorem dX7_look_18 : decode cX7_look 18 = .ok (.aload_n 0, 1) := by decide +kernel
theorem dX7_look_19 : decode cX7_look 19 = .ok (.aload_n 2, 1) := by decide +kernel
theorem dX7_look_20 : decode cX7_look 20 = .ok (.invokevirtual 436, 3) := by decide +kernel
theorem dX7_look_23 : decode cX7_look 23 = .ok (.astore_n 3, 1) := by decide +kernel
theorem dX7_look_24 : decode cX7_look 24 = .ok (.aload_n 3, 1) := by decide +kernel
theorem dX7_look_25 : decode cX7_look 25 = .ok (.ifnonnull 56, 3) := by decide +kernel
theorem dX7_look_28 : decode cX7_look 28 = .ok (.aload_n 0, 1) := by decide +kernel
theorem dX7_look_29 : decode cX7_look 29 = .ok (.aload_n 2, 1) := by decide +kernel
theorem dX7_look_30 : decode cX7_look 30 = .ok (.invokevirtual 440, 3) := by decide +kernel
theorem dX7_look_33 : decode cX7_look 33 = .ok (.astore 4, 2) := by decide +kernel
theorem dX7_look_35 : decode cX7_look 35 = .ok (.aload 4, 2) := by decide +kernel
theorem dX7_look_37 : decode cX7_look 37 = .ok (.ifnull 11, 3) := by decide +kernel
theorem dX7_look_40 : decode cX7_look 40 = .ok (.aload 4, 2) := by decide +kernel
theorem dX7_look_42 : decode cX7_look 42 = .ok (.getfield 229, 3) := by decide +kernel
theorem dX7_look_45 : decode cX7_look 45 = .ok (.ifnonnull 10, 3) := by decide +kernel
theorem dX7_look_48 : decode cX7_look 48 = .ok (.aload_n 1, 1) := by decide +kernel
theorem dX7_look_49 : decode cX7_look 49 = .ok (.iconst 1, 1) := by decide +kernel
theorem dX7_look_50 : decode cX7_look 50 = .ok (.putfield 433, 3) := by decide +kernel
theorem dX7_look_53 : decode cX7_look 53 = .ok (.iconst 0, 1) := by decide +kernel
theorem dX7_look_54 : decode cX7_look 54 = .ok (.ireturn, 1) := by decide +kernel
theorem dX7_look_55 : decode cX7_look 55 = .ok (.aload 4, 2) := by decide +kernel
theorem dX7_look_57 : decode cX7_look 57 = .ok (.getfield 229, 3) := by decide +kernel
theorem dX7_look_60 : decode cX7_look 60 = .ok (.astore_n 3, 1) := by decide +kernel
theorem dX7_look_61 : decode cX7_look 61 = .ok (.aload_n 3, 1) := by decide +kernel
theorem dX7_look_62 : decode cX7_look 62 = .ok (.iconst 1, 1) := by decide +kernel
theorem dX7_look_63 : decode cX7_look 63 = .ok (.putfield 352, 3) := by decide +kernel
theorem dX7_look_66 : decode cX7_look 66 = .ok (.aload 4, 2) := by decide +kernel
theorem dX7_look_68 : decode cX7_look 68 = .ok (.invokevirtual 116, 3) := by decide +kernel
theorem dX7_look_71 : decode cX7_look 71 = .ok (.aload_n 0, 1) := by decide +kernel
theorem dX7_look_72 : decode cX7_look 72 = .ok (.aload 4, 2) := by decide +kernel
theorem dX7_look_74 : decode cX7_look 74 = .ok (.getfield 119, 3) := by decide +kernel
theorem dX7_look_77 : decode cX7_look 77 = .ok (.iconst 0, 1) := by decide +kernel
theorem dX7_look_78 : decode cX7_look 78 = .ok (.invokevirtual 122, 3) := by decide +kernel
theorem dX7_look_81 : decode cX7_look 81 = .ok (.aload_n 0, 1) := by decide +kernel
theorem dX7_look_82 : decode cX7_look 82 = .ok (.aload_n 1, 1) := by decide +kernel
theorem dX7_look_83 : decode cX7_look 83 = .ok (.aload_n 3, 1) := by decide +kernel
theorem dX7_look_84 : decode cX7_look 84 = .ok (.iconst 0, 1) := by decide +kernel
theorem dX7_look_85 : decode cX7_look 85 = .ok (.invokevirtual 348, 3) := by decide +kernel
theorem dX7_look_88 : decode cX7_look 88 = .ok (.iconst 1, 1) := by decide +kernel
theorem dX7_look_89 : decode cX7_look 89 = .ok (.ireturn, 1) := by decide +kernel
theorem dX7_mergedTwin_0 : decode cX7_mergedTwin 0 = .ok (.aload_n 0, 1) := by decide +kernel
theorem dX7_mergedTwin_1 : decode cX7_mergedTwin 1 = .ok (.getfield 17, 3) := by decide +kernel
theorem dX7_mergedTwin_4 : decode cX7_mergedTwin 4 = .ok (.astore_n 2, 1) := by decide +kernel
theorem dX7_mergedTwin_5 : decode cX7_mergedTwin 5 = .ok (.aload_n 2, 1) := by decide +kernel
theorem dX7_mergedTwin_6 : decode cX7_mergedTwin 6 = .ok (.arraylength, 1) := by decide +kernel
theorem dX7_mergedTwin_7 : decode cX7_mergedTwin 7 = .ok (.istore_n 3, 1) := by decide +kernel
theorem dX7_mergedTwin_8 : decode cX7_mergedTwin 8 = .ok (.iconst 0, 1) := by decide +kernel
theorem dX7_mergedTwin_9 : decode cX7_mergedTwin 9 = .ok (.istore 4, 2) := by decide +kernel
theorem dX7_mergedTwin_11 : decode cX7_mergedTwin 11 = .ok (.iload 4, 2) := by decide +kernel
theorem dX7_mergedTwin_13 : decode cX7_mergedTwin 13 = .ok (.iload_n 3, 1) := by decide +kernel
theorem dX7_mergedTwin_14 : decode cX7_mergedTwin 14 = .ok (.if_icmp .ge 47, 3) := by decide +kernel
theorem dX7_mergedTwin_17 : decode cX7_mergedTwin 17 = .ok (.aload_n 2, 1) := by decide +kernel
theorem dX7_mergedTwin_18 : decode cX7_mergedTwin 18 = .ok (.iload 4, 2) := by decide +kernel
theorem dX7_mergedTwin_20 : decode cX7_mergedTwin 20 = .ok (.aaload, 1) := by decide +kernel
theorem dX7_mergedTwin_21 : decode cX7_mergedTwin 21 = .ok (.astore 5, 2) := by decide +kernel
theorem dX7_mergedTwin_23 : decode cX7_mergedTwin 23 = .ok (.aload 5, 2) := by decide +kernel
theorem dX7_mergedTwin_25 : decode cX7_mergedTwin 25 = .ok (.getfield 171, 3) := by decide +kernel
theorem dX7_mergedTwin_28 : decode cX7_mergedTwin 28 = .ok (.iconst 1, 1) := by decide +kernel
theorem dX7_mergedTwin_29 : decode cX7_mergedTwin 29 = .ok (.if_icmp .ne 26, 3) := by decide +kernel
theorem dX7_mergedTwin_32 : decode cX7_mergedTwin 32 = .ok (.aload 5, 2) := by decide +kernel
theorem dX7_mergedTwin_34 : decode cX7_mergedTwin 34 = .ok (.getfield 352, 3) := by decide +kernel
theorem dX7_mergedTwin_37 : decode cX7_mergedTwin 37 = .ok (.ifCond .eq 18, 3) := by decide +kernel
theorem dX7_mergedTwin_40 : decode cX7_mergedTwin 40 = .ok (.aload 5, 2) := by decide +kernel
theorem dX7_mergedTwin_42 : decode cX7_mergedTwin 42 = .ok (.getfield 355, 3) := by decide +kernel
theorem dX7_mergedTwin_45 : decode cX7_mergedTwin 45 = .ok (.aload_n 1, 1) := by decide +kernel
theorem dX7_mergedTwin_46 : decode cX7_mergedTwin 46 = .ok (.getfield 355, 3) := by decide +kernel
theorem dX7_mergedTwin_49 : decode cX7_mergedTwin 49 = .ok (.if_icmp .ne 6, 3) := by decide +kernel
theorem dX7_mergedTwin_52 : decode cX7_mergedTwin 52 = .ok (.aload 5, 2) := by decide +kernel
theorem dX7_mergedTwin_54 : decode cX7_mergedTwin 54 = .ok (.areturn, 1) := by decide +kernel
theorem dX7_mergedTwin_55 : decode cX7_mergedTwin 55 = .ok (.iinc 4 1, 3) := by decide +kernel
theorem dX7_mergedTwin_58 : decode cX7_mergedTwin 58 = .ok (.goto (-47), 3) := by decide +kernel
theorem dX7_mergedTwin_61 : decode cX7_mergedTwin 61 = .ok (.aconst_null, 1) := by decide +kernel
theorem dX7_mergedTwin_62 : decode cX7_mergedTwin 62 = .ok (.areturn, 1) := by decide +kernel
theorem dX7_lookedTwin_0 : decode cX7_lookedTwin 0 = .ok (.aload_n 0, 1) := by decide +kernel
theorem dX7_lookedTwin_1 : decode cX7_lookedTwin 1 = .ok (.getfield 11, 3) := by decide +kernel
theorem dX7_lookedTwin_4 : decode cX7_lookedTwin 4 = .ok (.astore_n 2, 1) := by decide +kernel
theorem dX7_lookedTwin_5 : decode cX7_lookedTwin 5 = .ok (.aload_n 2, 1) := by decide +kernel
theorem dX7_lookedTwin_6 : decode cX7_lookedTwin 6 = .ok (.arraylength, 1) := by decide +kernel
theorem dX7_lookedTwin_7 : decode cX7_lookedTwin 7 = .ok (.istore_n 3, 1) := by decide +kernel
theorem dX7_lookedTwin_8 : decode cX7_lookedTwin 8 = .ok (.iconst 0, 1) := by decide +kernel
theorem dX7_lookedTwin_9 : decode cX7_lookedTwin 9 = .ok (.istore 4, 2) := by decide +kernel
theorem dX7_lookedTwin_11 : decode cX7_lookedTwin 11 = .ok (.iload 4, 2) := by decide +kernel
theorem dX7_lookedTwin_13 : decode cX7_lookedTwin 13 = .ok (.iload_n 3, 1) := by decide +kernel
theorem dX7_lookedTwin_14 : decode cX7_lookedTwin 14 = .ok (.if_icmp .ge 103, 3) := by decide +kernel
theorem dX7_lookedTwin_17 : decode cX7_lookedTwin 17 = .ok (.aload_n 2, 1) := by decide +kernel
theorem dX7_lookedTwin_18 : decode cX7_lookedTwin 18 = .ok (.iload 4, 2) := by decide +kernel
theorem dX7_lookedTwin_20 : decode cX7_lookedTwin 20 = .ok (.aaload, 1) := by decide +kernel
theorem dX7_lookedTwin_21 : decode cX7_lookedTwin 21 = .ok (.astore 5, 2) := by decide +kernel
theorem dX7_lookedTwin_23 : decode cX7_lookedTwin 23 = .ok (.aload 5, 2) := by decide +kernel
theorem dX7_lookedTwin_25 : decode cX7_lookedTwin 25 = .ok (.getfield 93, 3) := by decide +kernel
theorem dX7_lookedTwin_28 : decode cX7_lookedTwin 28 = .ok (.astore 6, 2) := by decide +kernel
theorem dX7_lookedTwin_30 : decode cX7_lookedTwin 30 = .ok (.aload 6, 2) := by decide +kernel
theorem dX7_lookedTwin_32 : decode cX7_lookedTwin 32 = .ok (.arraylength, 1) := by decide +kernel
theorem dX7_lookedTwin_33 : decode cX7_lookedTwin 33 = .ok (.istore 7, 2) := by decide +kernel
theorem dX7_lookedTwin_35 : decode cX7_lookedTwin 35 = .ok (.iconst 0, 1) := by decide +kernel
theorem dX7_lookedTwin_36 : decode cX7_lookedTwin 36 = .ok (.istore 8, 2) := by decide +kernel
theorem dX7_lookedTwin_38 : decode cX7_lookedTwin 38 = .ok (.iload 8, 2) := by decide +kernel
theorem dX7_lookedTwin_40 : decode cX7_lookedTwin 40 = .ok (.iload 7, 2) := by decide +kernel
theorem dX7_lookedTwin_42 : decode cX7_lookedTwin 42 = .ok (.if_icmp .ge 69, 3) := by decide +kernel
theorem dX7_lookedTwin_45 : decode cX7_lookedTwin 45 = .ok (.aload 6, 2) := by decide +kernel
theorem dX7_lookedTwin_47 : decode cX7_lookedTwin 47 = .ok (.iload 8, 2) := by decide +kernel
theorem dX7_lookedTwin_49 : decode cX7_lookedTwin 49 = .ok (.aaload, 1) := by decide +kernel
theorem dX7_lookedTwin_50 : decode cX7_lookedTwin 50 = .ok (.astore 9, 2) := by decide +kernel
theorem dX7_lookedTwin_52 : decode cX7_lookedTwin 52 = .ok (.aload 9, 2) := by decide +kernel
theorem dX7_lookedTwin_54 : decode cX7_lookedTwin 54 = .ok (.getfield 433, 3) := by decide +kernel
theorem dX7_lookedTwin_57 : decode cX7_lookedTwin 57 = .ok (.ifCond .eq 11, 3) := by decide +kernel
theorem dX7_lookedTwin_60 : decode cX7_lookedTwin 60 = .ok (.aload 9, 2) := by decide +kernel
theorem dX7_lookedTwin_62 : decode cX7_lookedTwin 62 = .ok (.getfield 229, 3) := by decide +kernel
theorem dX7_lookedTwin_65 : decode cX7_lookedTwin 65 = .ok (.goto 4, 3) := by decide +kernel
theorem dX7_lookedTwin_68 : decode cX7_lookedTwin 68 = .ok (.aconst_null, 1) := by decide +kernel
theorem dX7_lookedTwin_69 : decode cX7_lookedTwin 69 = .ok (.astore 10, 2) := by decide +kernel
theorem dX7_lookedTwin_71 : decode cX7_lookedTwin 71 = .ok (.aload 10, 2) := by decide +kernel
theorem dX7_lookedTwin_73 : decode cX7_lookedTwin 73 = .ok (.ifnull 32, 3) := by decide +kernel
theorem dX7_lookedTwin_76 : decode cX7_lookedTwin 76 = .ok (.aload 10, 2) := by decide +kernel
theorem dX7_lookedTwin_78 : decode cX7_lookedTwin 78 = .ok (.aload_n 1, 1) := by decide +kernel
theorem dX7_lookedTwin_79 : decode cX7_lookedTwin 79 = .ok (.if_acmp .eq 26, 3) := by decide +kernel
theorem dX7_lookedTwin_82 : decode cX7_lookedTwin 82 = .ok (.aload 10, 2) := by decide +kernel
theorem dX7_lookedTwin_84 : decode cX7_lookedTwin 84 = .ok (.invokevirtual 308, 3) := by decide +kernel
theorem dX7_lookedTwin_87 : decode cX7_lookedTwin 87 = .ok (.ifCond .eq 18, 3) := by decide +kernel
theorem dX7_lookedTwin_90 : decode cX7_lookedTwin 90 = .ok (.aload 10, 2) := by decide +kernel
theorem dX7_lookedTwin_92 : decode cX7_lookedTwin 92 = .ok (.getfield 355, 3) := by decide +kernel
theorem dX7_lookedTwin_95 : decode cX7_lookedTwin 95 = .ok (.aload_n 1, 1) := by decide +kernel
theorem dX7_lookedTwin_96 : decode cX7_lookedTwin 96 = .ok (.getfield 355, 3) := by decide +kernel
theorem dX7_lookedTwin_99 : decode cX7_lookedTwin 99 = .ok (.if_icmp .ne 6, 3) := by decide +kernel
theorem dX7_lookedTwin_102 : decode cX7_lookedTwin 102 = .ok (.aload 9, 2) := by decide +kernel
theorem dX7_lookedTwin_104 : decode cX7_lookedTwin 104 = .ok (.areturn, 1) := by decide +kernel
theorem dX7_lookedTwin_105 : decode cX7_lookedTwin 105 = .ok (.iinc 8 1, 3) := by decide +kernel
theorem dX7_lookedTwin_108 : decode cX7_lookedTwin 108 = .ok (.goto (-70), 3) := by decide +kernel
theorem dX7_lookedTwin_111 : decode cX7_lookedTwin 111 = .ok (.iinc 4 1, 3) := by decide +kernel
theorem dX7_lookedTwin_114 : decode cX7_lookedTwin 114 = .ok (.goto (-103), 3) := by decide +kernel
theorem dX7_lookedTwin_117 : decode cX7_lookedTwin 117 = .ok (.aconst_null, 1) := by decide +kernel
theorem dX7_lookedTwin_118 : decode cX7_lookedTwin 118 = .ok (.areturn, 1) := by decide +kernel
