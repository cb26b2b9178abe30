theorem dX11_init_0 : decode cX11_init 0 = .ok (.aload_n 0, 1) := by decide +kernel
theorem dX11_init_1 : decode cX11_init 1 = .ok (.invokespecial 1, 3) := by decide +kernel
theorem dX11_init_4 : decode cX11_init 4 = .ok (.aload_n 0, 1) := by decide +kernel
theorem dX11_init_5 : decode cX11_init 5 = .ok (.bipush 20, 2) := by decide +kernel
theorem dX11_init_7 : decode cX11_init 7 = .ok (.newarray .int, 2) := by decide +kernel
theorem dX11_init_9 : decode cX11_init 9 = .ok (.putfield 7, 3) := by decide +kernel
theorem dX11_init_12 : decode cX11_init 12 = .ok (.aload_n 0, 1) := by decide +kernel
theorem dX11_init_13 : decode cX11_init 13 = .ok (.bipush 20, 2) := by decide +kernel
theorem dX11_init_15 : decode cX11_init 15 = .ok (.newarray .int, 2) := by decide +kernel
theorem dX11_init_17 : decode cX11_init 17 = .ok (.putfield 13, 3) := by decide +kernel
theorem dX11_init_20 : decode cX11_init 20 = .ok (.aload_n 0, 1) := by decide +kernel
theorem dX11_init_21 : decode cX11_init 21 = .ok (.bipush 20, 2) := by decide +kernel
theorem dX11_init_23 : decode cX11_init 23 = .ok (.newarray .int, 2) := by decide +kernel
theorem dX11_init_25 : decode cX11_init 25 = .ok (.putfield 16, 3) := by decide +kernel
theorem dX11_init_28 : decode cX11_init 28 = .ok (.aload_n 0, 1) := by decide +kernel
theorem dX11_init_29 : decode cX11_init 29 = .ok (.bipush 20, 2) := by decide +kernel
theorem dX11_init_31 : decode cX11_init 31 = .ok (.newarray .int, 2) := by decide +kernel
theorem dX11_init_33 : decode cX11_init 33 = .ok (.putfield 19, 3) := by decide +kernel
theorem dX11_init_36 : decode cX11_init 36 = .ok (.aload_n 0, 1) := by decide +kernel
theorem dX11_init_37 : decode cX11_init 37 = .ok (.bipush 20, 2) := by decide +kernel
theorem dX11_init_39 : decode cX11_init 39 = .ok (.newarray .int, 2) := by decide +kernel
theorem dX11_init_41 : decode cX11_init 41 = .ok (.putfield 22, 3) := by decide +kernel
theorem dX11_init_44 : decode cX11_init 44 = .ok (.aload_n 0, 1) := by decide +kernel
theorem dX11_init_45 : decode cX11_init 45 = .ok (.bipush 20, 2) := by decide +kernel
theorem dX11_init_47 : decode cX11_init 47 = .ok (.newarray .int, 2) := by decide +kernel
theorem dX11_init_49 : decode cX11_init 49 = .ok (.putfield 25, 3) := by decide +kernel
theorem dX11_init_52 : decode cX11_init 52 = .ok (.aload_n 0, 1) := by decide +kernel
theorem dX11_init_53 : decode cX11_init 53 = .ok (.bipush 120, 2) := by decide +kernel
theorem dX11_init_55 : decode cX11_init 55 = .ok (.newarray .int, 2) := by decide +kernel
theorem dX11_init_57 : decode cX11_init 57 = .ok (.putfield 28, 3) := by decide +kernel
theorem dX11_init_60 : decode cX11_init 60 = .ok (.aload_n 0, 1) := by decide +kernel
theorem dX11_init_61 : decode cX11_init 61 = .ok (.bipush 18, 2) := by decide +kernel
theorem dX11_init_63 : decode cX11_init 63 = .ok (.newarray .int, 2) := by decide +kernel
theorem dX11_init_65 : decode cX11_init 65 = .ok (.putfield 31, 3) := by decide +kernel
theorem dX11_init_68 : decode cX11_init 68 = .ok (.aload_n 0, 1) := by decide +kernel
theorem dX11_init_69 : decode cX11_init 69 = .ok (.bipush 108, 2) := by decide +kernel
theorem dX11_init_71 : decode cX11_init 71 = .ok (.newarray .int, 2) := by decide +kernel
theorem dX11_init_73 : decode cX11_init 73 = .ok (.putfield 34, 3) := by decide +kernel
theorem dX11_init_76 : decode cX11_init 76 = .ok (.aload_n 0, 1) := by decide +kernel
theorem dX11_init_77 : decode cX11_init 77 = .ok (.iconst 1, 1) := by decide +kernel
theorem dX11_init_78 : decode cX11_init 78 = .ok (.putfield 37, 3) := by decide +kernel
theorem dX11_init_81 : decode cX11_init 81 = .ok (.aload_n 0, 1) := by decide +kernel
theorem dX11_init_82 : decode cX11_init 82 = .ok (.sipush 360, 3) := by decide +kernel
theorem dX11_init_85 : decode cX11_init 85 = .ok (.newarray .int, 2) := by decide +kernel
theorem dX11_init_87 : decode cX11_init 87 = .ok (.putfield 41, 3) := by decide +kernel
theorem dX11_init_90 : decode cX11_init 90 = .ok (.aload_n 0, 1) := by decide +kernel
theorem dX11_init_91 : decode cX11_init 91 = .ok (.sipush 1920, 3) := by decide +kernel
theorem dX11_init_94 : decode cX11_init 94 = .ok (.newarray .int, 2) := by decide +kernel
theorem dX11_init_96 : decode cX11_init 96 = .ok (.putfield 44, 3) := by decide +kernel
theorem dX11_init_99 : decode cX11_init 99 = .ok (.aload_n 0, 1) := by decide +kernel
theorem dX11_init_100 : decode cX11_init 100 = .ok (.bipush 120, 2) := by decide +kernel
theorem dX11_init_102 : decode cX11_init 102 = .ok (.newarray .int, 2) := by decide +kernel
theorem dX11_init_104 : decode cX11_init 104 = .ok (.putfield 47, 3) := by decide +kernel
theorem dX11_init_107 : decode cX11_init 107 = .ok (.aload_n 0, 1) := by decide +kernel
theorem dX11_init_108 : decode cX11_init 108 = .ok (.bipush 120, 2) := by decide +kernel
theorem dX11_init_110 : decode cX11_init 110 = .ok (.newarray .int, 2) := by decide +kernel
theorem dX11_init_112 : decode cX11_init 112 = .ok (.putfield 50, 3) := by decide +kernel
theorem dX11_init_115 : decode cX11_init 115 = .ok (.aload_n 0, 1) := by decide +kernel
theorem dX11_init_116 : decode cX11_init 116 = .ok (.bipush 120, 2) := by decide +kernel
theorem dX11_init_118 : decode cX11_init 118 = .ok (.newarray .int, 2) := by decide +kernel
theorem dX11_init_120 : decode cX11_init 120 = .ok (.putfield 53, 3) := by decide +kernel
theorem dX11_init_123 : decode cX11_init 123 = .ok (.aload_n 0, 1) := by decide +kernel
theorem dX11_init_124 : decode cX11_init 124 = .ok (.bipush 120, 2) := by decide +kernel
theorem dX11_init_126 : decode cX11_init 126 = .ok (.newarray .int, 2) := by decide +kernel
theorem dX11_init_128 : decode cX11_init 128 = .ok (.putfield 56, 3) := by decide +kernel
theorem dX11_init_131 : decode cX11_init 131 = .ok (.aload_n 0, 1) := by decide +kernel
theorem dX11_init_132 : decode cX11_init 132 = .ok (.bipush 16, 2) := by decide +kernel
theorem dX11_init_134 : decode cX11_init 134 = .ok (.newarray .int, 2) := by decide +kernel
theorem dX11_init_136 : decode cX11_init 136 = .ok (.putfield 59, 3) := by decide +kernel
theorem dX11_init_139 : decode cX11_init 139 = .ok (.aload_n 0, 1) := by decide +kernel
theorem dX11_init_140 : decode cX11_init 140 = .ok (.bipush 16, 2) := by decide +kernel
theorem dX11_init_142 : decode cX11_init 142 = .ok (.newarray .int, 2) := by decide +kernel
theorem dX11_init_144 : decode cX11_init 144 = .ok (.putfield 62, 3) := by decide +kernel
theorem dX11_init_147 : decode cX11_init 147 = .ok (.aload_n 0, 1) := by decide +kernel
theorem dX11_init_148 : decode cX11_init 148 = .ok (.iconst 3, 1) := by decide +kernel
theorem dX11_init_149 : decode cX11_init 149 = .ok (.newarray .int, 2) := by decide +kernel
theorem dX11_init_151 : decode cX11_init 151 = .ok (.putfield 65, 3) := by decide +kernel
theorem dX11_init_154 : decode cX11_init 154 = .ok (.aload_n 0, 1) := by decide +kernel
theorem dX11_init_155 : decode cX11_init 155 = .ok (.iconst 4, 1) := by decide +kernel
theorem dX11_init_156 : decode cX11_init 156 = .ok (.newarray .int, 2) := by decide +kernel
theorem dX11_init_158 : decode cX11_init 158 = .ok (.putfield 68, 3) := by decide +kernel
theorem dX11_init_161 : decode cX11_init 161 = .ok (.aload_n 0, 1) := by decide +kernel
theorem dX11_init_162 : decode cX11_init 162 = .ok (.bipush 42, 2) := by decide +kernel
theorem dX11_init_164 : decode cX11_init 164 = .ok (.newarray .int, 2) := by decide +kernel
theorem dX11_init_166 : decode cX11_init 166 = .ok (.putfield 71, 3) := by decide +kernel
theorem dX11_init_169 : decode cX11_init 169 = .ok (.aload_n 0, 1) := by decide +kernel
theorem dX11_init_170 : decode cX11_init 170 = .ok (.bipush 42, 2) := by decide +kernel
theorem dX11_init_172 : decode cX11_init 172 = .ok (.newarray .int, 2) := by decide +kernel
theorem dX11_init_174 : decode cX11_init 174 = .ok (.putfield 74, 3) := by decide +kernel
theorem dX11_init_177 : decode cX11_init 177 = .ok (.aload_n 0, 1) := by decide +kernel
theorem dX11_init_178 : decode cX11_init 178 = .ok (.iconst 3, 1) := by decide +kernel
theorem dX11_init_179 : decode cX11_init 179 = .ok (.newarray .int, 2) := by decide +kernel
theorem dX11_init_181 : decode cX11_init 181 = .ok (.putfield 77, 3) := by decide +kernel
theorem dX11_init_184 : decode cX11_init 184 = .ok (.aload_n 0, 1) := by decide +kernel
theorem dX11_init_185 : decode cX11_init 185 = .ok (.iconst 4, 1) := by decide +kernel
theorem dX11_init_186 : decode cX11_init 186 = .ok (.newarray .int, 2) := by decide +kernel
theorem dX11_init_188 : decode cX11_init 188 = .ok (.putfield 80, 3) := by decide +kernel
theorem dX11_init_191 : decode cX11_init 191 = .ok (.aload_n 0, 1) := by decide +kernel
theorem dX11_init_192 : decode cX11_init 192 = .ok (.iconst 0, 1) := by decide +kernel
theorem dX11_init_193 : decode cX11_init 193 = .ok (.putfield 83, 3) := by decide +kernel
theorem dX11_init_196 : decode cX11_init 196 = .ok (.return_, 1) := by decide +kernel
theorem dX11_in_0 : decode cX11_in 0 = .ok (.iload_n 0, 1) := by decide +kernel
theorem dX11_in_1 : decode cX11_in 1 = .ok (.iload_n 1, 1) := by decide +kernel
theorem dX11_in_2 : decode cX11_in 2 = .ok (.if_icmp .lt 12, 3) := by decide +kernel
theorem dX11_in_5 : decode cX11_in 5 = .ok (.iload_n 0, 1) := by decide +kernel
theorem dX11_in_6 : decode cX11_in 6 = .ok (.iload_n 2, 1) := by decide +kernel
theorem dX11_in_7 : decode cX11_in 7 = .ok (.if_icmp .gt 7, 3) := by decide +kernel
theorem dX11_in_10 : decode cX11_in 10 = .ok (.iconst 1, 1) := by decide +kernel
theorem dX11_in_11 : decode cX11_in 11 = .ok (.goto 4, 3) := by decide +kernel
theorem dX11_in_14 : decode cX11_in 14 = .ok (.iconst 0, 1) := by decide +kernel
theorem dX11_in_15 : decode cX11_in 15 = .ok (.ireturn, 1) := by decide +kernel
theorem dX11_isMachine_0 : decode cX11_isMachine 0 = .ok (.iload_n 0, 1) := by decide +kernel
theorem dX11_isMachine_1 : decode cX11_isMachine 1 = .ok (.iconst 0, 1) := by decide +kernel
theorem dX11_isMachine_2 : decode cX11_isMachine 2 = .ok (.iconst 2, 1) := by decide +kernel
theorem dX11_isMachine_3 : decode cX11_isMachine 3 = .ok (.invokestatic 86, 3) := by decide +kernel
theorem dX11_isMachine_6 : decode cX11_isMachine 6 = .ok (.ireturn, 1) := by decide +kernel
theorem dX11_isPlace_0 : decode cX11_isPlace 0 = .ok (.iload_n 0, 1) := by decide +kernel
theorem dX11_isPlace_1 : decode cX11_isPlace 1 = .ok (.iconst 0, 1) := by decide +kernel
theorem dX11_isPlace_2 : decode cX11_isPlace 2 = .ok (.iconst 5, 1) := by decide +kernel
theorem dX11_isPlace_3 : decode cX11_isPlace 3 = .ok (.invokestatic 86, 3) := by decide +kernel
theorem dX11_isPlace_6 : decode cX11_isPlace 6 = .ok (.ireturn, 1) := by decide +kernel
theorem dX11_isClock_0 : decode cX11_isClock 0 = .ok (.iload_n 0, 1) := by decide +kernel
theorem dX11_isClock_1 : decode cX11_isClock 1 = .ok (.iconst 1, 1) := by decide +kernel
theorem dX11_isClock_2 : decode cX11_isClock 2 = .ok (.iconst 3, 1) := by decide +kernel
theorem dX11_isClock_3 : decode cX11_isClock 3 = .ok (.invokestatic 86, 3) := by decide +kernel
theorem dX11_isClock_6 : decode cX11_isClock 6 = .ok (.ireturn, 1) := by decide +kernel
theorem dX11_isEdge_0 : decode cX11_isEdge 0 = .ok (.iload_n 1, 1) := by decide +kernel
theorem dX11_isEdge_1 : decode cX11_isEdge 1 = .ok (.iconst 0, 1) := by decide +kernel
theorem dX11_isEdge_2 : decode cX11_isEdge 2 = .ok (.aload_n 0, 1) := by decide +kernel
theorem dX11_isEdge_3 : decode cX11_isEdge 3 = .ok (.getfield 90, 3) := by decide +kernel
theorem dX11_isEdge_6 : decode cX11_isEdge 6 = .ok (.iconst 1, 1) := by decide +kernel
theorem dX11_isEdge_7 : decode cX11_isEdge 7 = .ok (.isub, 1) := by decide +kernel
theorem dX11_isEdge_8 : decode cX11_isEdge 8 = .ok (.invokestatic 86, 3) := by decide +kernel
theorem dX11_isEdge_11 : decode cX11_isEdge 11 = .ok (.ireturn, 1) := by decide +kernel
theorem dX11_changed_0 : decode cX11_changed 0 = .ok (.aload_n 0, 1) := by decide +kernel
theorem dX11_changed_1 : decode cX11_changed 1 = .ok (.iconst 1, 1) := by decide +kernel
theorem dX11_changed_2 : decode cX11_changed 2 = .ok (.putfield 37, 3) := by decide +kernel
theorem dX11_changed_5 : decode cX11_changed 5 = .ok (.aload_n 0, 1) := by decide +kernel
theorem dX11_changed_6 : decode cX11_changed 6 = .ok (.iconst 0, 1) := by decide +kernel
theorem dX11_changed_7 : decode cX11_changed 7 = .ok (.putfield 94, 3) := by decide +kernel
theorem dX11_changed_10 : decode cX11_changed 10 = .ok (.aload_n 0, 1) := by decide +kernel
theorem dX11_changed_11 : decode cX11_changed 11 = .ok (.iconst 0, 1) := by decide +kernel
theorem dX11_changed_12 : decode cX11_changed 12 = .ok (.putfield 83, 3) := by decide +kernel
theorem dX11_changed_15 : decode cX11_changed 15 = .ok (.return_, 1) := by decide +kernel
theorem dX11_edge_0 : decode cX11_edge 0 = .ok (.iload_n 1, 1) := by decide +kernel
theorem dX11_edge_1 : decode cX11_edge 1 = .ok (.invokestatic 97, 3) := by decide +kernel
theorem dX11_edge_4 : decode cX11_edge 4 = .ok (.ifCond .eq 17, 3) := by decide +kernel
theorem dX11_edge_7 : decode cX11_edge 7 = .ok (.iload_n 2, 1) := by decide +kernel
theorem dX11_edge_8 : decode cX11_edge 8 = .ok (.invokestatic 101, 3) := by decide +kernel
theorem dX11_edge_11 : decode cX11_edge 11 = .ok (.ifCond .eq 10, 3) := by decide +kernel
theorem dX11_edge_14 : decode cX11_edge 14 = .ok (.iload_n 3, 1) := by decide +kernel
theorem dX11_edge_15 : decode cX11_edge 15 = .ok (.invokestatic 101, 3) := by decide +kernel
theorem dX11_edge_18 : decode cX11_edge 18 = .ok (.ifCond .ne 6, 3) := by decide +kernel
theorem dX11_edge_21 : decode cX11_edge 21 = .ok (.bipush (-101), 2) := by decide +kernel
theorem dX11_edge_23 : decode cX11_edge 23 = .ok (.ireturn, 1) := by decide +kernel
theorem dX11_edge_24 : decode cX11_edge 24 = .ok (.iload 4, 2) := by decide +kernel
theorem dX11_edge_26 : decode cX11_edge 26 = .ok (.bipush (-4), 2) := by decide +kernel
theorem dX11_edge_28 : decode cX11_edge 28 = .ok (.iconst 4, 1) := by decide +kernel
theorem dX11_edge_29 : decode cX11_edge 29 = .ok (.invokestatic 86, 3) := by decide +kernel
theorem dX11_edge_32 : decode cX11_edge 32 = .ok (.ifCond .eq 11, 3) := by decide +kernel
theorem dX11_edge_35 : decode cX11_edge 35 = .ok (.iload 5, 2) := by decide +kernel
theorem dX11_edge_37 : decode cX11_edge 37 = .ok (.bipush (-15), 2) := by decide +kernel
theorem dX11_edge_39 : decode cX11_edge 39 = .ok (.iand, 1) := by decide +kernel
theorem dX11_edge_40 : decode cX11_edge 40 = .ok (.ifCond .eq 6, 3) := by decide +kernel
theorem dX11_edge_43 : decode cX11_edge 43 = .ok (.bipush (-102), 2) := by decide +kernel
theorem dX11_edge_45 : decode cX11_edge 45 = .ok (.ireturn, 1) := by decide +kernel
theorem dX11_edge_46 : decode cX11_edge 46 = .ok (.aload_n 0, 1) := by decide +kernel
theorem dX11_edge_47 : decode cX11_edge 47 = .ok (.getfield 90, 3) := by decide +kernel
theorem dX11_edge_50 : decode cX11_edge 50 = .ok (.bipush 20, 2) := by decide +kernel
theorem dX11_edge_52 : decode cX11_edge 52 = .ok (.if_icmp .ne 6, 3) := by decide +kernel
theorem dX11_edge_55 : decode cX11_edge 55 = .ok (.bipush (-104), 2) := by decide +kernel
theorem dX11_edge_57 : decode cX11_edge 57 = .ok (.ireturn, 1) := by decide +kernel
theorem dX11_edge_58 : decode cX11_edge 58 = .ok (.aload_n 0, 1) := by decide +kernel
theorem dX11_edge_59 : decode cX11_edge 59 = .ok (.getfield 7, 3) := by decide +kernel
theorem dX11_edge_62 : decode cX11_edge 62 = .ok (.aload_n 0, 1) := by decide +kernel
theorem dX11_edge_63 : decode cX11_edge 63 = .ok (.getfield 90, 3) := by decide +kernel
theorem dX11_edge_66 : decode cX11_edge 66 = .ok (.iload_n 1, 1) := by decide +kernel
theorem dX11_edge_67 : decode cX11_edge 67 = .ok (.iastore, 1) := by decide +kernel
theorem dX11_edge_68 : decode cX11_edge 68 = .ok (.aload_n 0, 1) := by decide +kernel
theorem dX11_edge_69 : decode cX11_edge 69 = .ok (.getfield 13, 3) := by decide +kernel
theorem dX11_edge_72 : decode cX11_edge 72 = .ok (.aload_n 0, 1) := by decide +kernel
theorem dX11_edge_73 : decode cX11_edge 73 = .ok (.getfield 90, 3) := by decide +kernel
theorem dX11_edge_76 : decode cX11_edge 76 = .ok (.iload_n 2, 1) := by decide +kernel
theorem dX11_edge_77 : decode cX11_edge 77 = .ok (.iastore, 1) := by decide +kernel
theorem dX11_edge_78 : decode cX11_edge 78 = .ok (.aload_n 0, 1) := by decide +kernel
theorem dX11_edge_79 : decode cX11_edge 79 = .ok (.getfield 16, 3) := by decide +kernel
theorem dX11_edge_82 : decode cX11_edge 82 = .ok (.aload_n 0, 1) := by decide +kernel
theorem dX11_edge_83 : decode cX11_edge 83 = .ok (.getfield 90, 3) := by decide +kernel
theorem dX11_edge_86 : decode cX11_edge 86 = .ok (.iload_n 3, 1) := by decide +kernel
theorem dX11_edge_87 : decode cX11_edge 87 = .ok (.iastore, 1) := by decide +kernel
theorem dX11_edge_88 : decode cX11_edge 88 = .ok (.aload_n 0, 1) := by decide +kernel
theorem dX11_edge_89 : decode cX11_edge 89 = .ok (.getfield 19, 3) := by decide +kernel
theorem dX11_edge_92 : decode cX11_edge 92 = .ok (.aload_n 0, 1) := by decide +kernel
theorem dX11_edge_93 : decode cX11_edge 93 = .ok (.getfield 90, 3) := by decide +kernel
theorem dX11_edge_96 : decode cX11_edge 96 = .ok (.iload 4, 2) := by decide +kernel
theorem dX11_edge_98 : decode cX11_edge 98 = .ok (.iastore, 1) := by decide +kernel
theorem dX11_edge_99 : decode cX11_edge 99 = .ok (.aload_n 0, 1) := by decide +kernel
theorem dX11_edge_100 : decode cX11_edge 100 = .ok (.getfield 22, 3) := by decide +kernel
theorem dX11_edge_103 : decode cX11_edge 103 = .ok (.aload_n 0, 1) := by decide +kernel
theorem dX11_edge_104 : decode cX11_edge 104 = .ok (.getfield 90, 3) := by decide +kernel
theorem dX11_edge_107 : decode cX11_edge 107 = .ok (.iload 5, 2) := by decide +kernel
theorem dX11_edge_109 : decode cX11_edge 109 = .ok (.iastore, 1) := by decide +kernel
theorem dX11_edge_110 : decode cX11_edge 110 = .ok (.aload_n 0, 1) := by decide +kernel
theorem dX11_edge_111 : decode cX11_edge 111 = .ok (.getfield 25, 3) := by decide +kernel
theorem dX11_edge_114 : decode cX11_edge 114 = .ok (.aload_n 0, 1) := by decide +kernel
theorem dX11_edge_115 : decode cX11_edge 115 = .ok (.getfield 90, 3) := by decide +kernel
theorem dX11_edge_118 : decode cX11_edge 118 = .ok (.iconst 0, 1) := by decide +kernel
theorem dX11_edge_119 : decode cX11_edge 119 = .ok (.iastore, 1) := by decide +kernel
theorem dX11_edge_120 : decode cX11_edge 120 = .ok (.aload_n 0, 1) := by decide +kernel
theorem dX11_edge_121 : decode cX11_edge 121 = .ok (.dup, 1) := by decide +kernel
theorem dX11_edge_122 : decode cX11_edge 122 = .ok (.getfield 90, 3) := by decide +kernel
theorem dX11_edge_125 : decode cX11_edge 125 = .ok (.iconst 1, 1) := by decide +kernel
theorem dX11_edge_126 : decode cX11_edge 126 = .ok (.iadd, 1) := by decide +kernel
theorem dX11_edge_127 : decode cX11_edge 127 = .ok (.putfield 90, 3) := by decide +kernel
theorem dX11_edge_130 : decode cX11_edge 130 = .ok (.aload_n 0, 1) := by decide +kernel
theorem dX11_edge_131 : decode cX11_edge 131 = .ok (.invokevirtual 104, 3) := by decide +kernel
theorem dX11_edge_134 : decode cX11_edge 134 = .ok (.aload_n 0, 1) := by decide +kernel
theorem dX11_edge_135 : decode cX11_edge 135 = .ok (.getfield 90, 3) := by decide +kernel
theorem dX11_edge_138 : decode cX11_edge 138 = .ok (.iconst 1, 1) := by decide +kernel
theorem dX11_edge_139 : decode cX11_edge 139 = .ok (.isub, 1) := by decide +kernel
theorem dX11_edge_140 : decode cX11_edge 140 = .ok (.ireturn, 1) := by decide +kernel
theorem dX11_guard_0 : decode cX11_guard 0 = .ok (.aload_n 0, 1) := by decide +kernel
theorem dX11_guard_1 : decode cX11_guard 1 = .ok (.iload_n 1, 1) := by decide +kernel
theorem dX11_guard_2 : decode cX11_guard 2 = .ok (.invokevirtual 107, 3) := by decide +kernel
theorem dX11_guard_5 : decode cX11_guard 5 = .ok (.ifCond .eq 10, 3) := by decide +kernel
theorem dX11_guard_8 : decode cX11_guard 8 = .ok (.iload_n 2, 1) := by decide +kernel
theorem dX11_guard_9 : decode cX11_guard 9 = .ok (.invokestatic 110, 3) := by decide +kernel
theorem dX11_guard_12 : decode cX11_guard 12 = .ok (.ifCond .ne 6, 3) := by decide +kernel
theorem dX11_guard_15 : decode cX11_guard 15 = .ok (.bipush (-101), 2) := by decide +kernel
theorem dX11_guard_17 : decode cX11_guard 17 = .ok (.ireturn, 1) := by decide +kernel
theorem dX11_guard_18 : decode cX11_guard 18 = .ok (.iload_n 3, 1) := by decide +kernel
theorem dX11_guard_19 : decode cX11_guard 19 = .ok (.iconst 0, 1) := by decide +kernel
theorem dX11_guard_20 : decode cX11_guard 20 = .ok (.iconst 4, 1) := by decide +kernel
theorem dX11_guard_21 : decode cX11_guard 21 = .ok (.invokestatic 86, 3) := by decide +kernel
theorem dX11_guard_24 : decode cX11_guard 24 = .ok (.ifCond .eq 15, 3) := by decide +kernel
theorem dX11_guard_27 : decode cX11_guard 27 = .ok (.iload 4, 2) := by decide +kernel
theorem dX11_guard_29 : decode cX11_guard 29 = .ok (.iconst 0, 1) := by decide +kernel
theorem dX11_guard_30 : decode cX11_guard 30 = .ok (.sipush 1000, 3) := by decide +kernel
theorem dX11_guard_33 : decode cX11_guard 33 = .ok (.invokestatic 86, 3) := by decide +kernel
theorem dX11_guard_36 : decode cX11_guard 36 = .ok (.ifCond .ne 6, 3) := by decide +kernel
theorem dX11_guard_39 : decode cX11_guard 39 = .ok (.bipush (-102), 2) := by decide +kernel
theorem dX11_guard_41 : decode cX11_guard 41 = .ok (.ireturn, 1) := by decide +kernel
theorem dX11_guard_42 : decode cX11_guard 42 = .ok (.aload_n 0, 1) := by decide +kernel
theorem dX11_guard_43 : decode cX11_guard 43 = .ok (.getfield 25, 3) := by decide +kernel
theorem dX11_guard_46 : decode cX11_guard 46 = .ok (.iload_n 1, 1) := by decide +kernel
theorem dX11_guard_47 : decode cX11_guard 47 = .ok (.iaload, 1) := by decide +kernel
theorem dX11_guard_48 : decode cX11_guard 48 = .ok (.iconst 2, 1) := by decide +kernel
theorem dX11_guard_49 : decode cX11_guard 49 = .ok (.if_icmp .ne 6, 3) := by decide +kernel
theorem dX11_guard_52 : decode cX11_guard 52 = .ok (.bipush (-104), 2) := by decide +kernel
theorem dX11_guard_54 : decode cX11_guard 54 = .ok (.ireturn, 1) := by decide +kernel
theorem dX11_guard_55 : decode cX11_guard 55 = .ok (.bipush 6, 2) := by decide +kernel
theorem dX11_guard_57 : decode cX11_guard 57 = .ok (.iload_n 1, 1) := by decide +kernel
theorem dX11_guard_58 : decode cX11_guard 58 = .ok (.imul, 1) := by decide +kernel
theorem dX11_guard_59 : decode cX11_guard 59 = .ok (.iconst 3, 1) := by decide +kernel
theorem dX11_guard_60 : decode cX11_guard 60 = .ok (.aload_n 0, 1) := by decide +kernel
theorem dX11_guard_61 : decode cX11_guard 61 = .ok (.getfield 25, 3) := by decide +kernel
theorem dX11_guard_64 : decode cX11_guard 64 = .ok (.iload_n 1, 1) := by decide +kernel
theorem dX11_guard_65 : decode cX11_guard 65 = .ok (.iaload, 1) := by decide +kernel
theorem dX11_guard_66 : decode cX11_guard 66 = .ok (.imul, 1) := by decide +kernel
theorem dX11_guard_67 : decode cX11_guard 67 = .ok (.iadd, 1) := by decide +kernel
theorem dX11_guard_68 : decode cX11_guard 68 = .ok (.istore 5, 2) := by decide +kernel
theorem dX11_guard_70 : decode cX11_guard 70 = .ok (.aload_n 0, 1) := by decide +kernel
theorem dX11_guard_71 : decode cX11_guard 71 = .ok (.getfield 28, 3) := by decide +kernel
theorem dX11_guard_74 : decode cX11_guard 74 = .ok (.iload 5, 2) := by decide +kernel
theorem dX11_guard_76 : decode cX11_guard 76 = .ok (.iload_n 2, 1) := by decide +kernel
theorem dX11_guard_77 : decode cX11_guard 77 = .ok (.iastore, 1) := by decide +kernel
theorem dX11_guard_78 : decode cX11_guard 78 = .ok (.aload_n 0, 1) := by decide +kernel
theorem dX11_guard_79 : decode cX11_guard 79 = .ok (.getfield 28, 3) := by decide +kernel
theorem dX11_guard_82 : decode cX11_guard 82 = .ok (.iload 5, 2) := by decide +kernel
theorem dX11_guard_84 : decode cX11_guard 84 = .ok (.iconst 1, 1) := by decide +kernel
theorem dX11_guard_85 : decode cX11_guard 85 = .ok (.iadd, 1) := by decide +kernel
theorem dX11_guard_86 : decode cX11_guard 86 = .ok (.iload_n 3, 1) := by decide +kernel
theorem dX11_guard_87 : decode cX11_guard 87 = .ok (.iastore, 1) := by decide +kernel
theorem dX11_guard_88 : decode cX11_guard 88 = .ok (.aload_n 0, 1) := by decide +kernel
theorem dX11_guard_89 : decode cX11_guard 89 = .ok (.getfield 28, 3) := by decide +kernel
theorem dX11_guard_92 : decode cX11_guard 92 = .ok (.iload 5, 2) := by decide +kernel
theorem dX11_guard_94 : decode cX11_guard 94 = .ok (.iconst 2, 1) := by decide +kernel
theorem dX11_guard_95 : decode cX11_guard 95 = .ok (.iadd, 1) := by decide +kernel
theorem dX11_guard_96 : decode cX11_guard 96 = .ok (.iload 4, 2) := by decide +kernel
theorem dX11_guard_98 : decode cX11_guard 98 = .ok (.iastore, 1) := by decide +kernel
theorem dX11_guard_99 : decode cX11_guard 99 = .ok (.aload_n 0, 1) := by decide +kernel
theorem dX11_guard_100 : decode cX11_guard 100 = .ok (.getfield 25, 3) := by decide +kernel
theorem dX11_guard_103 : decode cX11_guard 103 = .ok (.iload_n 1, 1) := by decide +kernel
theorem dX11_guard_104 : decode cX11_guard 104 = .ok (.dup2, 1) := by decide +kernel
theorem dX11_guard_105 : decode cX11_guard 105 = .ok (.iaload, 1) := by decide +kernel
theorem dX11_guard_106 : decode cX11_guard 106 = .ok (.iconst 1, 1) := by decide +kernel
theorem dX11_guard_107 : decode cX11_guard 107 = .ok (.iadd, 1) := by decide +kernel
theorem dX11_guard_108 : decode cX11_guard 108 = .ok (.iastore, 1) := by decide +kernel
theorem dX11_guard_109 : decode cX11_guard 109 = .ok (.aload_n 0, 1) := by decide +kernel
theorem dX11_guard_110 : decode cX11_guard 110 = .ok (.invokevirtual 104, 3) := by decide +kernel
theorem dX11_guard_113 : decode cX11_guard 113 = .ok (.aload_n 0, 1) := by decide +kernel
theorem dX11_guard_114 : decode cX11_guard 114 = .ok (.getfield 25, 3) := by decide +kernel
theorem dX11_guard_117 : decode cX11_guard 117 = .ok (.iload_n 1, 1) := by decide +kernel
theorem dX11_guard_118 : decode cX11_guard 118 = .ok (.iaload, 1) := by decide +kernel
theorem dX11_guard_119 : decode cX11_guard 119 = .ok (.ireturn, 1) := by decide +kernel
theorem dX11_limit_0 : decode cX11_limit 0 = .ok (.iload_n 1, 1) := by decide +kernel
theorem dX11_limit_1 : decode cX11_limit 1 = .ok (.invokestatic 97, 3) := by decide +kernel
theorem dX11_limit_4 : decode cX11_limit 4 = .ok (.ifCond .eq 17, 3) := by decide +kernel
theorem dX11_limit_7 : decode cX11_limit 7 = .ok (.iload_n 2, 1) := by decide +kernel
theorem dX11_limit_8 : decode cX11_limit 8 = .ok (.invokestatic 101, 3) := by decide +kernel
theorem dX11_limit_11 : decode cX11_limit 11 = .ok (.ifCond .eq 10, 3) := by decide +kernel
theorem dX11_limit_14 : decode cX11_limit 14 = .ok (.iload_n 3, 1) := by decide +kernel
theorem dX11_limit_15 : decode cX11_limit 15 = .ok (.invokestatic 110, 3) := by decide +kernel
theorem dX11_limit_18 : decode cX11_limit 18 = .ok (.ifCond .ne 6, 3) := by decide +kernel
theorem dX11_limit_21 : decode cX11_limit 21 = .ok (.bipush (-101), 2) := by decide +kernel
theorem dX11_limit_23 : decode cX11_limit 23 = .ok (.ireturn, 1) := by decide +kernel
theorem dX11_limit_24 : decode cX11_limit 24 = .ok (.iload 4, 2) := by decide +kernel
theorem dX11_limit_26 : decode cX11_limit 26 = .ok (.iconst 0, 1) := by decide +kernel
theorem dX11_limit_27 : decode cX11_limit 27 = .ok (.iconst 1, 1) := by decide +kernel
theorem dX11_limit_28 : decode cX11_limit 28 = .ok (.invokestatic 86, 3) := by decide +kernel
theorem dX11_limit_31 : decode cX11_limit 31 = .ok (.ifCond .eq 15, 3) := by decide +kernel
theorem dX11_limit_34 : decode cX11_limit 34 = .ok (.iload 5, 2) := by decide +kernel
theorem dX11_limit_36 : decode cX11_limit 36 = .ok (.iconst 0, 1) := by decide +kernel
theorem dX11_limit_37 : decode cX11_limit 37 = .ok (.sipush 1000, 3) := by decide +kernel
theorem dX11_limit_40 : decode cX11_limit 40 = .ok (.invokestatic 86, 3) := by decide +kernel
theorem dX11_limit_43 : decode cX11_limit 43 = .ok (.ifCond .ne 6, 3) := by decide +kernel
theorem dX11_limit_46 : decode cX11_limit 46 = .ok (.bipush (-102), 2) := by decide +kernel
theorem dX11_limit_48 : decode cX11_limit 48 = .ok (.ireturn, 1) := by decide +kernel
theorem dX11_limit_49 : decode cX11_limit 49 = .ok (.bipush 6, 2) := by decide +kernel
theorem dX11_limit_51 : decode cX11_limit 51 = .ok (.iload_n 1, 1) := by decide +kernel
theorem dX11_limit_52 : decode cX11_limit 52 = .ok (.imul, 1) := by decide +kernel
theorem dX11_limit_53 : decode cX11_limit 53 = .ok (.iload_n 2, 1) := by decide +kernel
theorem dX11_limit_54 : decode cX11_limit 54 = .ok (.iadd, 1) := by decide +kernel
theorem dX11_limit_55 : decode cX11_limit 55 = .ok (.istore 6, 2) := by decide +kernel
theorem dX11_limit_57 : decode cX11_limit 57 = .ok (.aload_n 0, 1) := by decide +kernel
theorem dX11_limit_58 : decode cX11_limit 58 = .ok (.getfield 31, 3) := by decide +kernel
theorem dX11_limit_61 : decode cX11_limit 61 = .ok (.iload 6, 2) := by decide +kernel
theorem dX11_limit_63 : decode cX11_limit 63 = .ok (.iaload, 1) := by decide +kernel
theorem dX11_limit_64 : decode cX11_limit 64 = .ok (.iconst 2, 1) := by decide +kernel
theorem dX11_limit_65 : decode cX11_limit 65 = .ok (.if_icmp .ne 6, 3) := by decide +kernel
theorem dX11_limit_68 : decode cX11_limit 68 = .ok (.bipush (-104), 2) := by decide +kernel
theorem dX11_limit_70 : decode cX11_limit 70 = .ok (.ireturn, 1) := by decide +kernel
theorem dX11_limit_71 : decode cX11_limit 71 = .ok (.bipush 6, 2) := by decide +kernel
theorem dX11_limit_73 : decode cX11_limit 73 = .ok (.iload 6, 2) := by decide +kernel
theorem dX11_limit_75 : decode cX11_limit 75 = .ok (.imul, 1) := by decide +kernel
theorem dX11_limit_76 : decode cX11_limit 76 = .ok (.iconst 3, 1) := by decide +kernel
theorem dX11_limit_77 : decode cX11_limit 77 = .ok (.aload_n 0, 1) := by decide +kernel
theorem dX11_limit_78 : decode cX11_limit 78 = .ok (.getfield 31, 3) := by decide +kernel
theorem dX11_limit_81 : decode cX11_limit 81 = .ok (.iload 6, 2) := by decide +kernel
theorem dX11_limit_83 : decode cX11_limit 83 = .ok (.iaload, 1) := by decide +kernel
theorem dX11_limit_84 : decode cX11_limit 84 = .ok (.imul, 1) := by decide +kernel
theorem dX11_limit_85 : decode cX11_limit 85 = .ok (.iadd, 1) := by decide +kernel
theorem dX11_limit_86 : decode cX11_limit 86 = .ok (.istore 7, 2) := by decide +kernel
theorem dX11_limit_88 : decode cX11_limit 88 = .ok (.aload_n 0, 1) := by decide +kernel
theorem dX11_limit_89 : decode cX11_limit 89 = .ok (.getfield 34, 3) := by decide +kernel
theorem dX11_limit_92 : decode cX11_limit 92 = .ok (.iload 7, 2) := by decide +kernel
theorem dX11_limit_94 : decode cX11_limit 94 = .ok (.iload_n 3, 1) := by decide +kernel
theorem dX11_limit_95 : decode cX11_limit 95 = .ok (.iastore, 1) := by decide +kernel
theorem dX11_limit_96 : decode cX11_limit 96 = .ok (.aload_n 0, 1) := by decide +kernel
theorem dX11_limit_97 : decode cX11_limit 97 = .ok (.getfield 34, 3) := by decide +kernel
theorem dX11_limit_100 : decode cX11_limit 100 = .ok (.iload 7, 2) := by decide +kernel
theorem dX11_limit_102 : decode cX11_limit 102 = .ok (.iconst 1, 1) := by decide +kernel
theorem dX11_limit_103 : decode cX11_limit 103 = .ok (.iadd, 1) := by decide +kernel
theorem dX11_limit_104 : decode cX11_limit 104 = .ok (.iload 4, 2) := by decide +kernel
theorem dX11_limit_106 : decode cX11_limit 106 = .ok (.iastore, 1) := by decide +kernel
theorem dX11_limit_107 : decode cX11_limit 107 = .ok (.aload_n 0, 1) := by decide +kernel
theorem dX11_limit_108 : decode cX11_limit 108 = .ok (.getfield 34, 3) := by decide +kernel
theorem dX11_limit_111 : decode cX11_limit 111 = .ok (.iload 7, 2) := by decide +kernel
theorem dX11_limit_113 : decode cX11_limit 113 = .ok (.iconst 2, 1) := by decide +kernel
theorem dX11_limit_114 : decode cX11_limit 114 = .ok (.iadd, 1) := by decide +kernel
theorem dX11_limit_115 : decode cX11_limit 115 = .ok (.iload 5, 2) := by decide +kernel
theorem dX11_limit_117 : decode cX11_limit 117 = .ok (.iastore, 1) := by decide +kernel
theorem dX11_limit_118 : decode cX11_limit 118 = .ok (.aload_n 0, 1) := by decide +kernel
theorem dX11_limit_119 : decode cX11_limit 119 = .ok (.getfield 31, 3) := by decide +kernel
theorem dX11_limit_122 : decode cX11_limit 122 = .ok (.iload 6, 2) := by decide +kernel
theorem dX11_limit_124 : decode cX11_limit 124 = .ok (.dup2, 1) := by decide +kernel
theorem dX11_limit_125 : decode cX11_limit 125 = .ok (.iaload, 1) := by decide +kernel
theorem dX11_limit_126 : decode cX11_limit 126 = .ok (.iconst 1, 1) := by decide +kernel
theorem dX11_limit_127 : decode cX11_limit 127 = .ok (.iadd, 1) := by decide +kernel
theorem dX11_limit_128 : decode cX11_limit 128 = .ok (.iastore, 1) := by decide +kernel
theorem dX11_limit_129 : decode cX11_limit 129 = .ok (.aload_n 0, 1) := by decide +kernel
theorem dX11_limit_130 : decode cX11_limit 130 = .ok (.invokevirtual 104, 3) := by decide +kernel
theorem dX11_limit_133 : decode cX11_limit 133 = .ok (.aload_n 0, 1) := by decide +kernel
theorem dX11_limit_134 : decode cX11_limit 134 = .ok (.getfield 31, 3) := by decide +kernel
theorem dX11_limit_137 : decode cX11_limit 137 = .ok (.iload 6, 2) := by decide +kernel
theorem dX11_limit_139 : decode cX11_limit 139 = .ok (.iaload, 1) := by decide +kernel
theorem dX11_limit_140 : decode cX11_limit 140 = .ok (.ireturn, 1) := by decide +kernel
theorem dX11_wipe_0 : decode cX11_wipe 0 = .ok (.aload_n 0, 1) := by decide +kernel
theorem dX11_wipe_1 : decode cX11_wipe 1 = .ok (.getfield 90, 3) := by decide +kernel
theorem dX11_wipe_4 : decode cX11_wipe 4 = .ok (.istore_n 1, 1) := by decide +kernel
theorem dX11_wipe_5 : decode cX11_wipe 5 = .ok (.aload_n 0, 1) := by decide +kernel
theorem dX11_wipe_6 : decode cX11_wipe 6 = .ok (.iconst 0, 1) := by decide +kernel
theorem dX11_wipe_7 : decode cX11_wipe 7 = .ok (.putfield 90, 3) := by decide +kernel
theorem dX11_wipe_10 : decode cX11_wipe 10 = .ok (.iconst 0, 1) := by decide +kernel
theorem dX11_wipe_11 : decode cX11_wipe 11 = .ok (.istore_n 2, 1) := by decide +kernel
theorem dX11_wipe_12 : decode cX11_wipe 12 = .ok (.iload_n 2, 1) := by decide +kernel
theorem dX11_wipe_13 : decode cX11_wipe 13 = .ok (.bipush 18, 2) := by decide +kernel
theorem dX11_wipe_15 : decode cX11_wipe 15 = .ok (.if_icmp .ge 16, 3) := by decide +kernel
theorem dX11_wipe_18 : decode cX11_wipe 18 = .ok (.aload_n 0, 1) := by decide +kernel
theorem dX11_wipe_19 : decode cX11_wipe 19 = .ok (.getfield 31, 3) := by decide +kernel
theorem dX11_wipe_22 : decode cX11_wipe 22 = .ok (.iload_n 2, 1) := by decide +kernel
theorem dX11_wipe_23 : decode cX11_wipe 23 = .ok (.iconst 0, 1) := by decide +kernel
theorem dX11_wipe_24 : decode cX11_wipe 24 = .ok (.iastore, 1) := by decide +kernel
theorem dX11_wipe_25 : decode cX11_wipe 25 = .ok (.iinc 2 1, 3) := by decide +kernel
theorem dX11_wipe_28 : decode cX11_wipe 28 = .ok (.goto (-16), 3) := by decide +kernel
theorem dX11_wipe_31 : decode cX11_wipe 31 = .ok (.aload_n 0, 1) := by decide +kernel
theorem dX11_wipe_32 : decode cX11_wipe 32 = .ok (.invokevirtual 104, 3) := by decide +kernel
theorem dX11_wipe_35 : decode cX11_wipe 35 = .ok (.iload_n 1, 1) := by decide +kernel
theorem dX11_wipe_36 : decode cX11_wipe 36 = .ok (.ireturn, 1) := by decide +kernel
theorem dX11_sum_0 : decode cX11_sum 0 = .ok (.iload_n 0, 1) := by decide +kernel
theorem dX11_sum_1 : decode cX11_sum 1 = .ok (.ldc 113, 2) := by decide +kernel
theorem dX11_sum_3 : decode cX11_sum 3 = .ok (.if_icmp .eq 9, 3) := by decide +kernel
theorem dX11_sum_6 : decode cX11_sum 6 = .ok (.iload_n 1, 1) := by decide +kernel
theorem dX11_sum_7 : decode cX11_sum 7 = .ok (.ldc 113, 2) := by decide +kernel
theorem dX11_sum_9 : decode cX11_sum 9 = .ok (.if_icmp .ne 6, 3) := by decide +kernel
theorem dX11_sum_12 : decode cX11_sum 12 = .ok (.ldc 113, 2) := by decide +kernel
theorem dX11_sum_14 : decode cX11_sum 14 = .ok (.ireturn, 1) := by decide +kernel
theorem dX11_sum_15 : decode cX11_sum 15 = .ok (.iconst 2, 1) := by decide +kernel
theorem dX11_sum_16 : decode cX11_sum 16 = .ok (.iload_n 0, 1) := by decide +kernel
theorem dX11_sum_17 : decode cX11_sum 17 = .ok (.iconst 1, 1) := by decide +kernel
theorem dX11_sum_18 : decode cX11_sum 18 = .ok (.ishr, 1) := by decide +kernel
theorem dX11_sum_19 : decode cX11_sum 19 = .ok (.iload_n 1, 1) := by decide +kernel
theorem dX11_sum_20 : decode cX11_sum 20 = .ok (.iconst 1, 1) := by decide +kernel
theorem dX11_sum_21 : decode cX11_sum 21 = .ok (.ishr, 1) := by decide +kernel
theorem dX11_sum_22 : decode cX11_sum 22 = .ok (.iadd, 1) := by decide +kernel
theorem dX11_sum_23 : decode cX11_sum 23 = .ok (.imul, 1) := by decide +kernel
theorem dX11_sum_24 : decode cX11_sum 24 = .ok (.iload_n 0, 1) := by decide +kernel
theorem dX11_sum_25 : decode cX11_sum 25 = .ok (.iload_n 1, 1) := by decide +kernel
theorem dX11_sum_26 : decode cX11_sum 26 = .ok (.iand, 1) := by decide +kernel
theorem dX11_sum_27 : decode cX11_sum 27 = .ok (.iconst 1, 1) := by decide +kernel
theorem dX11_sum_28 : decode cX11_sum 28 = .ok (.iand, 1) := by decide +kernel
theorem dX11_sum_29 : decode cX11_sum 29 = .ok (.iadd, 1) := by decide +kernel
theorem dX11_sum_30 : decode cX11_sum 30 = .ok (.ireturn, 1) := by decide +kernel
theorem dX11_close_0 : decode cX11_close 0 = .ok (.iconst 0, 1) := by decide +kernel
theorem dX11_close_1 : decode cX11_close 1 = .ok (.istore_n 1, 1) := by decide +kernel
theorem dX11_close_2 : decode cX11_close 2 = .ok (.iload_n 1, 1) := by decide +kernel
theorem dX11_close_3 : decode cX11_close 3 = .ok (.iconst 4, 1) := by decide +kernel
theorem dX11_close_4 : decode cX11_close 4 = .ok (.if_icmp .ge 100, 3) := by decide +kernel
theorem dX11_close_7 : decode cX11_close 7 = .ok (.iconst 0, 1) := by decide +kernel
theorem dX11_close_8 : decode cX11_close 8 = .ok (.istore_n 2, 1) := by decide +kernel
theorem dX11_close_9 : decode cX11_close 9 = .ok (.iload_n 2, 1) := by decide +kernel
theorem dX11_close_10 : decode cX11_close 10 = .ok (.iconst 4, 1) := by decide +kernel
theorem dX11_close_11 : decode cX11_close 11 = .ok (.if_icmp .ge 87, 3) := by decide +kernel
theorem dX11_close_14 : decode cX11_close 14 = .ok (.iconst 0, 1) := by decide +kernel
theorem dX11_close_15 : decode cX11_close 15 = .ok (.istore_n 3, 1) := by decide +kernel
theorem dX11_close_16 : decode cX11_close 16 = .ok (.iload_n 3, 1) := by decide +kernel
theorem dX11_close_17 : decode cX11_close 17 = .ok (.iconst 4, 1) := by decide +kernel
theorem dX11_close_18 : decode cX11_close 18 = .ok (.if_icmp .ge 74, 3) := by decide +kernel
theorem dX11_close_21 : decode cX11_close 21 = .ok (.aload_n 0, 1) := by decide +kernel
theorem dX11_close_22 : decode cX11_close 22 = .ok (.getfield 59, 3) := by decide +kernel
theorem dX11_close_25 : decode cX11_close 25 = .ok (.iconst 4, 1) := by decide +kernel
theorem dX11_close_26 : decode cX11_close 26 = .ok (.iload_n 2, 1) := by decide +kernel
theorem dX11_close_27 : decode cX11_close 27 = .ok (.imul, 1) := by decide +kernel
theorem dX11_close_28 : decode cX11_close 28 = .ok (.iload_n 1, 1) := by decide +kernel
theorem dX11_close_29 : decode cX11_close 29 = .ok (.iadd, 1) := by decide +kernel
theorem dX11_close_30 : decode cX11_close 30 = .ok (.iaload, 1) := by decide +kernel
theorem dX11_close_31 : decode cX11_close 31 = .ok (.aload_n 0, 1) := by decide +kernel
theorem dX11_close_32 : decode cX11_close 32 = .ok (.getfield 59, 3) := by decide +kernel
theorem dX11_close_35 : decode cX11_close 35 = .ok (.iconst 4, 1) := by decide +kernel
theorem dX11_close_36 : decode cX11_close 36 = .ok (.iload_n 1, 1) := by decide +kernel
theorem dX11_close_37 : decode cX11_close 37 = .ok (.imul, 1) := by decide +kernel
theorem dX11_close_38 : decode cX11_close 38 = .ok (.iload_n 3, 1) := by decide +kernel
theorem dX11_close_39 : decode cX11_close 39 = .ok (.iadd, 1) := by decide +kernel
theorem dX11_close_40 : decode cX11_close 40 = .ok (.iaload, 1) := by decide +kernel
theorem dX11_close_41 : decode cX11_close 41 = .ok (.invokestatic 114, 3) := by decide +kernel
theorem dX11_close_44 : decode cX11_close 44 = .ok (.istore 4, 2) := by decide +kernel
theorem dX11_close_46 : decode cX11_close 46 = .ok (.aload_n 0, 1) := by decide +kernel
theorem dX11_close_47 : decode cX11_close 47 = .ok (.getfield 59, 3) := by decide +kernel
theorem dX11_close_50 : decode cX11_close 50 = .ok (.iconst 4, 1) := by decide +kernel
theorem dX11_close_51 : decode cX11_close 51 = .ok (.iload_n 2, 1) := by decide +kernel
theorem dX11_close_52 : decode cX11_close 52 = .ok (.imul, 1) := by decide +kernel
theorem dX11_close_53 : decode cX11_close 53 = .ok (.iload_n 3, 1) := by decide +kernel
theorem dX11_close_54 : decode cX11_close 54 = .ok (.iadd, 1) := by decide +kernel
theorem dX11_close_55 : decode cX11_close 55 = .ok (.iload 4, 2) := by decide +kernel
theorem dX11_close_57 : decode cX11_close 57 = .ok (.aload_n 0, 1) := by decide +kernel
theorem dX11_close_58 : decode cX11_close 58 = .ok (.getfield 59, 3) := by decide +kernel
theorem dX11_close_61 : decode cX11_close 61 = .ok (.iconst 4, 1) := by decide +kernel
theorem dX11_close_62 : decode cX11_close 62 = .ok (.iload_n 2, 1) := by decide +kernel
theorem dX11_close_63 : decode cX11_close 63 = .ok (.imul, 1) := by decide +kernel
theorem dX11_close_64 : decode cX11_close 64 = .ok (.iload_n 3, 1) := by decide +kernel
theorem dX11_close_65 : decode cX11_close 65 = .ok (.iadd, 1) := by decide +kernel
theorem dX11_close_66 : decode cX11_close 66 = .ok (.iaload, 1) := by decide +kernel
theorem dX11_close_67 : decode cX11_close 67 = .ok (.if_icmp .ge 8, 3) := by decide +kernel
theorem dX11_close_70 : decode cX11_close 70 = .ok (.iload 4, 2) := by decide +kernel
theorem dX11_close_72 : decode cX11_close 72 = .ok (.goto 13, 3) := by decide +kernel
theorem dX11_close_75 : decode cX11_close 75 = .ok (.aload_n 0, 1) := by decide +kernel
theorem dX11_close_76 : decode cX11_close 76 = .ok (.getfield 59, 3) := by decide +kernel
theorem dX11_close_79 : decode cX11_close 79 = .ok (.iconst 4, 1) := by decide +kernel
theorem dX11_close_80 : decode cX11_close 80 = .ok (.iload_n 2, 1) := by decide +kernel
theorem dX11_close_81 : decode cX11_close 81 = .ok (.imul, 1) := by decide +kernel
theorem dX11_close_82 : decode cX11_close 82 = .ok (.iload_n 3, 1) := by decide +kernel
theorem dX11_close_83 : decode cX11_close 83 = .ok (.iadd, 1) := by decide +kernel
theorem dX11_close_84 : decode cX11_close 84 = .ok (.iaload, 1) := by decide +kernel
theorem dX11_close_85 : decode cX11_close 85 = .ok (.iastore, 1) := by decide +kernel
theorem dX11_close_86 : decode cX11_close 86 = .ok (.iinc 3 1, 3) := by decide +kernel
theorem dX11_close_89 : decode cX11_close 89 = .ok (.goto (-73), 3) := by decide +kernel
theorem dX11_close_92 : decode cX11_close 92 = .ok (.iinc 2 1, 3) := by decide +kernel
theorem dX11_close_95 : decode cX11_close 95 = .ok (.goto (-86), 3) := by decide +kernel
theorem dX11_close_98 : decode cX11_close 98 = .ok (.iinc 1 1, 3) := by decide +kernel
theorem dX11_close_101 : decode cX11_close 101 = .ok (.goto (-99), 3) := by decide +kernel
theorem dX11_close_104 : decode cX11_close 104 = .ok (.iconst 1, 1) := by decide +kernel
theorem dX11_close_105 : decode cX11_close 105 = .ok (.istore_n 1, 1) := by decide +kernel
theorem dX11_close_106 : decode cX11_close 106 = .ok (.iconst 0, 1) := by decide +kernel
theorem dX11_close_107 : decode cX11_close 107 = .ok (.istore_n 2, 1) := by decide +kernel
theorem dX11_close_108 : decode cX11_close 108 = .ok (.iload_n 2, 1) := by decide +kernel
theorem dX11_close_109 : decode cX11_close 109 = .ok (.iconst 4, 1) := by decide +kernel
theorem dX11_close_110 : decode cX11_close 110 = .ok (.if_icmp .ge 31, 3) := by decide +kernel
theorem dX11_close_113 : decode cX11_close 113 = .ok (.iload_n 1, 1) := by decide +kernel
theorem dX11_close_114 : decode cX11_close 114 = .ok (.ifCond .eq 19, 3) := by decide +kernel
theorem dX11_close_117 : decode cX11_close 117 = .ok (.aload_n 0, 1) := by decide +kernel
theorem dX11_close_118 : decode cX11_close 118 = .ok (.getfield 59, 3) := by decide +kernel
theorem dX11_close_121 : decode cX11_close 121 = .ok (.iconst 5, 1) := by decide +kernel
theorem dX11_close_122 : decode cX11_close 122 = .ok (.iload_n 2, 1) := by decide +kernel
theorem dX11_close_123 : decode cX11_close 123 = .ok (.imul, 1) := by decide +kernel
theorem dX11_close_124 : decode cX11_close 124 = .ok (.iaload, 1) := by decide +kernel
theorem dX11_close_125 : decode cX11_close 125 = .ok (.iconst 1, 1) := by decide +kernel
theorem dX11_close_126 : decode cX11_close 126 = .ok (.if_icmp .ne 7, 3) := by decide +kernel
theorem dX11_close_129 : decode cX11_close 129 = .ok (.iconst 1, 1) := by decide +kernel
theorem dX11_close_130 : decode cX11_close 130 = .ok (.goto 4, 3) := by decide +kernel
theorem dX11_close_133 : decode cX11_close 133 = .ok (.iconst 0, 1) := by decide +kernel
theorem dX11_close_134 : decode cX11_close 134 = .ok (.istore_n 1, 1) := by decide +kernel
theorem dX11_close_135 : decode cX11_close 135 = .ok (.iinc 2 1, 3) := by decide +kernel
theorem dX11_close_138 : decode cX11_close 138 = .ok (.goto (-30), 3) := by decide +kernel
theorem dX11_close_141 : decode cX11_close 141 = .ok (.iload_n 1, 1) := by decide +kernel
theorem dX11_close_142 : decode cX11_close 142 = .ok (.ireturn, 1) := by decide +kernel
theorem dX11_bind_0 : decode cX11_bind 0 = .ok (.aload_n 0, 1) := by decide +kernel
theorem dX11_bind_1 : decode cX11_bind 1 = .ok (.getfield 59, 3) := by decide +kernel
theorem dX11_bind_4 : decode cX11_bind 4 = .ok (.iconst 4, 1) := by decide +kernel
theorem dX11_bind_5 : decode cX11_bind 5 = .ok (.iload_n 1, 1) := by decide +kernel
theorem dX11_bind_6 : decode cX11_bind 6 = .ok (.imul, 1) := by decide +kernel
theorem dX11_bind_7 : decode cX11_bind 7 = .ok (.iload_n 2, 1) := by decide +kernel
theorem dX11_bind_8 : decode cX11_bind 8 = .ok (.iadd, 1) := by decide +kernel
theorem dX11_bind_9 : decode cX11_bind 9 = .ok (.iload_n 3, 1) := by decide +kernel
theorem dX11_bind_10 : decode cX11_bind 10 = .ok (.aload_n 0, 1) := by decide +kernel
theorem dX11_bind_11 : decode cX11_bind 11 = .ok (.getfield 59, 3) := by decide +kernel
theorem dX11_bind_14 : decode cX11_bind 14 = .ok (.iconst 4, 1) := by decide +kernel
theorem dX11_bind_15 : decode cX11_bind 15 = .ok (.iload_n 1, 1) := by decide +kernel
theorem dX11_bind_16 : decode cX11_bind 16 = .ok (.imul, 1) := by decide +kernel
theorem dX11_bind_17 : decode cX11_bind 17 = .ok (.iload_n 2, 1) := by decide +kernel
theorem dX11_bind_18 : decode cX11_bind 18 = .ok (.iadd, 1) := by decide +kernel
theorem dX11_bind_19 : decode cX11_bind 19 = .ok (.iaload, 1) := by decide +kernel
theorem dX11_bind_20 : decode cX11_bind 20 = .ok (.if_icmp .ge 7, 3) := by decide +kernel
theorem dX11_bind_23 : decode cX11_bind 23 = .ok (.iload_n 3, 1) := by decide +kernel
theorem dX11_bind_24 : decode cX11_bind 24 = .ok (.goto 13, 3) := by decide +kernel
theorem dX11_bind_27 : decode cX11_bind 27 = .ok (.aload_n 0, 1) := by decide +kernel
theorem dX11_bind_28 : decode cX11_bind 28 = .ok (.getfield 59, 3) := by decide +kernel
theorem dX11_bind_31 : decode cX11_bind 31 = .ok (.iconst 4, 1) := by decide +kernel
theorem dX11_bind_32 : decode cX11_bind 32 = .ok (.iload_n 1, 1) := by decide +kernel
theorem dX11_bind_33 : decode cX11_bind 33 = .ok (.imul, 1) := by decide +kernel
theorem dX11_bind_34 : decode cX11_bind 34 = .ok (.iload_n 2, 1) := by decide +kernel
theorem dX11_bind_35 : decode cX11_bind 35 = .ok (.iadd, 1) := by decide +kernel
theorem dX11_bind_36 : decode cX11_bind 36 = .ok (.iaload, 1) := by decide +kernel
theorem dX11_bind_37 : decode cX11_bind 37 = .ok (.iastore, 1) := by decide +kernel
theorem dX11_bind_38 : decode cX11_bind 38 = .ok (.return_, 1) := by decide +kernel
theorem dX11_test_0 : decode cX11_test 0 = .ok (.iload_n 2, 1) := by decide +kernel
theorem dX11_test_1 : decode cX11_test 1 = .ok (.iconst 3, 1) := by decide +kernel
theorem dX11_test_2 : decode cX11_test 2 = .ok (.if_icmp .ge 22, 3) := by decide +kernel
theorem dX11_test_5 : decode cX11_test 5 = .ok (.aload_n 0, 1) := by decide +kernel
theorem dX11_test_6 : decode cX11_test 6 = .ok (.iload_n 1, 1) := by decide +kernel
theorem dX11_test_7 : decode cX11_test 7 = .ok (.iconst 0, 1) := by decide +kernel
theorem dX11_test_8 : decode cX11_test 8 = .ok (.iconst 2, 1) := by decide +kernel
theorem dX11_test_9 : decode cX11_test 9 = .ok (.iload_n 3, 1) := by decide +kernel
theorem dX11_test_10 : decode cX11_test 10 = .ok (.imul, 1) := by decide +kernel
theorem dX11_test_11 : decode cX11_test 11 = .ok (.iload_n 2, 1) := by decide +kernel
theorem dX11_test_12 : decode cX11_test 12 = .ok (.ifCond .ne 7, 3) := by decide +kernel
theorem dX11_test_15 : decode cX11_test 15 = .ok (.iconst 0, 1) := by decide +kernel
theorem dX11_test_16 : decode cX11_test 16 = .ok (.goto 4, 3) := by decide +kernel
theorem dX11_test_19 : decode cX11_test 19 = .ok (.iconst 1, 1) := by decide +kernel
theorem dX11_test_20 : decode cX11_test 20 = .ok (.iadd, 1) := by decide +kernel
theorem dX11_test_21 : decode cX11_test 21 = .ok (.invokevirtual 118, 3) := by decide +kernel
theorem dX11_test_24 : decode cX11_test 24 = .ok (.iload_n 2, 1) := by decide +kernel
theorem dX11_test_25 : decode cX11_test 25 = .ok (.iconst 1, 1) := by decide +kernel
theorem dX11_test_26 : decode cX11_test 26 = .ok (.if_icmp .le 24, 3) := by decide +kernel
theorem dX11_test_29 : decode cX11_test 29 = .ok (.aload_n 0, 1) := by decide +kernel
theorem dX11_test_30 : decode cX11_test 30 = .ok (.iconst 0, 1) := by decide +kernel
theorem dX11_test_31 : decode cX11_test 31 = .ok (.iload_n 1, 1) := by decide +kernel
theorem dX11_test_32 : decode cX11_test 32 = .ok (.bipush (-2), 2) := by decide +kernel
theorem dX11_test_34 : decode cX11_test 34 = .ok (.iload_n 3, 1) := by decide +kernel
theorem dX11_test_35 : decode cX11_test 35 = .ok (.imul, 1) := by decide +kernel
theorem dX11_test_36 : decode cX11_test 36 = .ok (.iload_n 2, 1) := by decide +kernel
theorem dX11_test_37 : decode cX11_test 37 = .ok (.iconst 4, 1) := by decide +kernel
theorem dX11_test_38 : decode cX11_test 38 = .ok (.if_icmp .ne 7, 3) := by decide +kernel
theorem dX11_test_41 : decode cX11_test 41 = .ok (.iconst 0, 1) := by decide +kernel
theorem dX11_test_42 : decode cX11_test 42 = .ok (.goto 4, 3) := by decide +kernel
theorem dX11_test_45 : decode cX11_test 45 = .ok (.iconst 1, 1) := by decide +kernel
theorem dX11_test_46 : decode cX11_test 46 = .ok (.iadd, 1) := by decide +kernel
theorem dX11_test_47 : decode cX11_test 47 = .ok (.invokevirtual 118, 3) := by decide +kernel
theorem dX11_test_50 : decode cX11_test 50 = .ok (.return_, 1) := by decide +kernel
theorem dX11_keepLimits_0 : decode cX11_keepLimits 0 = .ok (.iconst 0, 1) := by decide +kernel
theorem dX11_keepLimits_1 : decode cX11_keepLimits 1 = .ok (.istore_n 1, 1) := by decide +kernel
theorem dX11_keepLimits_2 : decode cX11_keepLimits 2 = .ok (.iload_n 1, 1) := by decide +kernel
theorem dX11_keepLimits_3 : decode cX11_keepLimits 3 = .ok (.iconst 3, 1) := by decide +kernel
theorem dX11_keepLimits_4 : decode cX11_keepLimits 4 = .ok (.if_icmp .ge 78, 3) := by decide +kernel
theorem dX11_keepLimits_7 : decode cX11_keepLimits 7 = .ok (.bipush 6, 2) := by decide +kernel
theorem dX11_keepLimits_9 : decode cX11_keepLimits 9 = .ok (.iload_n 1, 1) := by decide +kernel
theorem dX11_keepLimits_10 : decode cX11_keepLimits 10 = .ok (.imul, 1) := by decide +kernel
theorem dX11_keepLimits_11 : decode cX11_keepLimits 11 = .ok (.aload_n 0, 1) := by decide +kernel
theorem dX11_keepLimits_12 : decode cX11_keepLimits 12 = .ok (.getfield 65, 3) := by decide +kernel
theorem dX11_keepLimits_15 : decode cX11_keepLimits 15 = .ok (.iload_n 1, 1) := by decide +kernel
theorem dX11_keepLimits_16 : decode cX11_keepLimits 16 = .ok (.iaload, 1) := by decide +kernel
theorem dX11_keepLimits_17 : decode cX11_keepLimits 17 = .ok (.iadd, 1) := by decide +kernel
theorem dX11_keepLimits_18 : decode cX11_keepLimits 18 = .ok (.istore_n 2, 1) := by decide +kernel
theorem dX11_keepLimits_19 : decode cX11_keepLimits 19 = .ok (.iconst 0, 1) := by decide +kernel
theorem dX11_keepLimits_20 : decode cX11_keepLimits 20 = .ok (.istore_n 3, 1) := by decide +kernel
theorem dX11_keepLimits_21 : decode cX11_keepLimits 21 = .ok (.iload_n 3, 1) := by decide +kernel
theorem dX11_keepLimits_22 : decode cX11_keepLimits 22 = .ok (.aload_n 0, 1) := by decide +kernel
theorem dX11_keepLimits_23 : decode cX11_keepLimits 23 = .ok (.getfield 31, 3) := by decide +kernel
theorem dX11_keepLimits_26 : decode cX11_keepLimits 26 = .ok (.iload_n 2, 1) := by decide +kernel
theorem dX11_keepLimits_27 : decode cX11_keepLimits 27 = .ok (.iaload, 1) := by decide +kernel
theorem dX11_keepLimits_28 : decode cX11_keepLimits 28 = .ok (.if_icmp .ge 48, 3) := by decide +kernel
theorem dX11_keepLimits_31 : decode cX11_keepLimits 31 = .ok (.bipush 6, 2) := by decide +kernel
theorem dX11_keepLimits_33 : decode cX11_keepLimits 33 = .ok (.iload_n 2, 1) := by decide +kernel
theorem dX11_keepLimits_34 : decode cX11_keepLimits 34 = .ok (.imul, 1) := by decide +kernel
theorem dX11_keepLimits_35 : decode cX11_keepLimits 35 = .ok (.iconst 3, 1) := by decide +kernel
theorem dX11_keepLimits_36 : decode cX11_keepLimits 36 = .ok (.iload_n 3, 1) := by decide +kernel
theorem dX11_keepLimits_37 : decode cX11_keepLimits 37 = .ok (.imul, 1) := by decide +kernel
theorem dX11_keepLimits_38 : decode cX11_keepLimits 38 = .ok (.iadd, 1) := by decide +kernel
theorem dX11_keepLimits_39 : decode cX11_keepLimits 39 = .ok (.istore 4, 2) := by decide +kernel
theorem dX11_keepLimits_41 : decode cX11_keepLimits 41 = .ok (.aload_n 0, 1) := by decide +kernel
theorem dX11_keepLimits_42 : decode cX11_keepLimits 42 = .ok (.aload_n 0, 1) := by decide +kernel
theorem dX11_keepLimits_43 : decode cX11_keepLimits 43 = .ok (.getfield 34, 3) := by decide +kernel
theorem dX11_keepLimits_46 : decode cX11_keepLimits 46 = .ok (.iload 4, 2) := by decide +kernel
theorem dX11_keepLimits_48 : decode cX11_keepLimits 48 = .ok (.iaload, 1) := by decide +kernel
theorem dX11_keepLimits_49 : decode cX11_keepLimits 49 = .ok (.aload_n 0, 1) := by decide +kernel
theorem dX11_keepLimits_50 : decode cX11_keepLimits 50 = .ok (.getfield 34, 3) := by decide +kernel
theorem dX11_keepLimits_53 : decode cX11_keepLimits 53 = .ok (.iload 4, 2) := by decide +kernel
theorem dX11_keepLimits_55 : decode cX11_keepLimits 55 = .ok (.iconst 1, 1) := by decide +kernel
theorem dX11_keepLimits_56 : decode cX11_keepLimits 56 = .ok (.iadd, 1) := by decide +kernel
theorem dX11_keepLimits_57 : decode cX11_keepLimits 57 = .ok (.iaload, 1) := by decide +kernel
theorem dX11_keepLimits_58 : decode cX11_keepLimits 58 = .ok (.aload_n 0, 1) := by decide +kernel
theorem dX11_keepLimits_59 : decode cX11_keepLimits 59 = .ok (.getfield 34, 3) := by decide +kernel
theorem dX11_keepLimits_62 : decode cX11_keepLimits 62 = .ok (.iload 4, 2) := by decide +kernel
theorem dX11_keepLimits_64 : decode cX11_keepLimits 64 = .ok (.iconst 2, 1) := by decide +kernel
theorem dX11_keepLimits_65 : decode cX11_keepLimits 65 = .ok (.iadd, 1) := by decide +kernel
theorem dX11_keepLimits_66 : decode cX11_keepLimits 66 = .ok (.iaload, 1) := by decide +kernel
theorem dX11_keepLimits_67 : decode cX11_keepLimits 67 = .ok (.invokevirtual 122, 3) := by decide +kernel
theorem dX11_keepLimits_70 : decode cX11_keepLimits 70 = .ok (.iinc 3 1, 3) := by decide +kernel
theorem dX11_keepLimits_73 : decode cX11_keepLimits 73 = .ok (.goto (-52), 3) := by decide +kernel
theorem dX11_keepLimits_76 : decode cX11_keepLimits 76 = .ok (.iinc 1 1, 3) := by decide +kernel
theorem dX11_keepLimits_79 : decode cX11_keepLimits 79 = .ok (.goto (-77), 3) := by decide +kernel
theorem dX11_keepLimits_82 : decode cX11_keepLimits 82 = .ok (.aload_n 0, 1) := by decide +kernel
theorem dX11_keepLimits_83 : decode cX11_keepLimits 83 = .ok (.invokevirtual 125, 3) := by decide +kernel
theorem dX11_keepLimits_86 : decode cX11_keepLimits 86 = .ok (.ireturn, 1) := by decide +kernel
theorem dX11_keepGuards_0 : decode cX11_keepGuards 0 = .ok (.iconst 0, 1) := by decide +kernel
theorem dX11_keepGuards_1 : decode cX11_keepGuards 1 = .ok (.istore_n 2, 1) := by decide +kernel
theorem dX11_keepGuards_2 : decode cX11_keepGuards 2 = .ok (.iload_n 2, 1) := by decide +kernel
theorem dX11_keepGuards_3 : decode cX11_keepGuards 3 = .ok (.aload_n 0, 1) := by decide +kernel
theorem dX11_keepGuards_4 : decode cX11_keepGuards 4 = .ok (.getfield 25, 3) := by decide +kernel
theorem dX11_keepGuards_7 : decode cX11_keepGuards 7 = .ok (.iload_n 1, 1) := by decide +kernel
theorem dX11_keepGuards_8 : decode cX11_keepGuards 8 = .ok (.iaload, 1) := by decide +kernel
theorem dX11_keepGuards_9 : decode cX11_keepGuards 9 = .ok (.if_icmp .ge 44, 3) := by decide +kernel
theorem dX11_keepGuards_12 : decode cX11_keepGuards 12 = .ok (.bipush 6, 2) := by decide +kernel
theorem dX11_keepGuards_14 : decode cX11_keepGuards 14 = .ok (.iload_n 1, 1) := by decide +kernel
theorem dX11_keepGuards_15 : decode cX11_keepGuards 15 = .ok (.imul, 1) := by decide +kernel
theorem dX11_keepGuards_16 : decode cX11_keepGuards 16 = .ok (.iconst 3, 1) := by decide +kernel
theorem dX11_keepGuards_17 : decode cX11_keepGuards 17 = .ok (.iload_n 2, 1) := by decide +kernel
theorem dX11_keepGuards_18 : decode cX11_keepGuards 18 = .ok (.imul, 1) := by decide +kernel
theorem dX11_keepGuards_19 : decode cX11_keepGuards 19 = .ok (.iadd, 1) := by decide +kernel
theorem dX11_keepGuards_20 : decode cX11_keepGuards 20 = .ok (.istore_n 3, 1) := by decide +kernel
theorem dX11_keepGuards_21 : decode cX11_keepGuards 21 = .ok (.aload_n 0, 1) := by decide +kernel
theorem dX11_keepGuards_22 : decode cX11_keepGuards 22 = .ok (.aload_n 0, 1) := by decide +kernel
theorem dX11_keepGuards_23 : decode cX11_keepGuards 23 = .ok (.getfield 28, 3) := by decide +kernel
theorem dX11_keepGuards_26 : decode cX11_keepGuards 26 = .ok (.iload_n 3, 1) := by decide +kernel
theorem dX11_keepGuards_27 : decode cX11_keepGuards 27 = .ok (.iaload, 1) := by decide +kernel
theorem dX11_keepGuards_28 : decode cX11_keepGuards 28 = .ok (.aload_n 0, 1) := by decide +kernel
theorem dX11_keepGuards_29 : decode cX11_keepGuards 29 = .ok (.getfield 28, 3) := by decide +kernel
theorem dX11_keepGuards_32 : decode cX11_keepGuards 32 = .ok (.iload_n 3, 1) := by decide +kernel
theorem dX11_keepGuards_33 : decode cX11_keepGuards 33 = .ok (.iconst 1, 1) := by decide +kernel
theorem dX11_keepGuards_34 : decode cX11_keepGuards 34 = .ok (.iadd, 1) := by decide +kernel
theorem dX11_keepGuards_35 : decode cX11_keepGuards 35 = .ok (.iaload, 1) := by decide +kernel
theorem dX11_keepGuards_36 : decode cX11_keepGuards 36 = .ok (.aload_n 0, 1) := by decide +kernel
theorem dX11_keepGuards_37 : decode cX11_keepGuards 37 = .ok (.getfield 28, 3) := by decide +kernel
theorem dX11_keepGuards_40 : decode cX11_keepGuards 40 = .ok (.iload_n 3, 1) := by decide +kernel
theorem dX11_keepGuards_41 : decode cX11_keepGuards 41 = .ok (.iconst 2, 1) := by decide +kernel
theorem dX11_keepGuards_42 : decode cX11_keepGuards 42 = .ok (.iadd, 1) := by decide +kernel
theorem dX11_keepGuards_43 : decode cX11_keepGuards 43 = .ok (.iaload, 1) := by decide +kernel
theorem dX11_keepGuards_44 : decode cX11_keepGuards 44 = .ok (.invokevirtual 122, 3) := by decide +kernel
theorem dX11_keepGuards_47 : decode cX11_keepGuards 47 = .ok (.iinc 2 1, 3) := by decide +kernel
theorem dX11_keepGuards_50 : decode cX11_keepGuards 50 = .ok (.goto (-48), 3) := by decide +kernel
theorem dX11_keepGuards_53 : decode cX11_keepGuards 53 = .ok (.aload_n 0, 1) := by decide +kernel
theorem dX11_keepGuards_54 : decode cX11_keepGuards 54 = .ok (.invokevirtual 125, 3) := by decide +kernel
theorem dX11_keepGuards_57 : decode cX11_keepGuards 57 = .ok (.ireturn, 1) := by decide +kernel
theorem dX11_set_0 : decode cX11_set 0 = .ok (.iconst 1, 1) := by decide +kernel
theorem dX11_set_1 : decode cX11_set 1 = .ok (.istore_n 2, 1) := by decide +kernel
theorem dX11_set_2 : decode cX11_set 2 = .ok (.iload_n 2, 1) := by decide +kernel
theorem dX11_set_3 : decode cX11_set 3 = .ok (.iconst 4, 1) := by decide +kernel
theorem dX11_set_4 : decode cX11_set 4 = .ok (.if_icmp .ge 74, 3) := by decide +kernel
theorem dX11_set_7 : decode cX11_set 7 = .ok (.iload_n 1, 1) := by decide +kernel
theorem dX11_set_8 : decode cX11_set 8 = .ok (.iload_n 2, 1) := by decide +kernel
theorem dX11_set_9 : decode cX11_set 9 = .ok (.ishr, 1) := by decide +kernel
theorem dX11_set_10 : decode cX11_set 10 = .ok (.iconst 1, 1) := by decide +kernel
theorem dX11_set_11 : decode cX11_set 11 = .ok (.iand, 1) := by decide +kernel
theorem dX11_set_12 : decode cX11_set 12 = .ok (.iconst 1, 1) := by decide +kernel
theorem dX11_set_13 : decode cX11_set 13 = .ok (.if_icmp .ne 59, 3) := by decide +kernel
theorem dX11_set_16 : decode cX11_set 16 = .ok (.iconst 0, 1) := by decide +kernel
theorem dX11_set_17 : decode cX11_set 17 = .ok (.istore_n 3, 1) := by decide +kernel
theorem dX11_set_18 : decode cX11_set 18 = .ok (.iload_n 3, 1) := by decide +kernel
theorem dX11_set_19 : decode cX11_set 19 = .ok (.iconst 4, 1) := by decide +kernel
theorem dX11_set_20 : decode cX11_set 20 = .ok (.if_icmp .ge 43, 3) := by decide +kernel
theorem dX11_set_23 : decode cX11_set 23 = .ok (.aload_n 0, 1) := by decide +kernel
theorem dX11_set_24 : decode cX11_set 24 = .ok (.getfield 59, 3) := by decide +kernel
theorem dX11_set_27 : decode cX11_set 27 = .ok (.iconst 4, 1) := by decide +kernel
theorem dX11_set_28 : decode cX11_set 28 = .ok (.iload_n 2, 1) := by decide +kernel
theorem dX11_set_29 : decode cX11_set 29 = .ok (.imul, 1) := by decide +kernel
theorem dX11_set_30 : decode cX11_set 30 = .ok (.iload_n 3, 1) := by decide +kernel
theorem dX11_set_31 : decode cX11_set 31 = .ok (.iadd, 1) := by decide +kernel
theorem dX11_set_32 : decode cX11_set 32 = .ok (.aload_n 0, 1) := by decide +kernel
theorem dX11_set_33 : decode cX11_set 33 = .ok (.getfield 59, 3) := by decide +kernel
theorem dX11_set_36 : decode cX11_set 36 = .ok (.iload_n 3, 1) := by decide +kernel
theorem dX11_set_37 : decode cX11_set 37 = .ok (.iaload, 1) := by decide +kernel
theorem dX11_set_38 : decode cX11_set 38 = .ok (.iastore, 1) := by decide +kernel
theorem dX11_set_39 : decode cX11_set 39 = .ok (.aload_n 0, 1) := by decide +kernel
theorem dX11_set_40 : decode cX11_set 40 = .ok (.getfield 59, 3) := by decide +kernel
theorem dX11_set_43 : decode cX11_set 43 = .ok (.iconst 4, 1) := by decide +kernel
theorem dX11_set_44 : decode cX11_set 44 = .ok (.iload_n 3, 1) := by decide +kernel
theorem dX11_set_45 : decode cX11_set 45 = .ok (.imul, 1) := by decide +kernel
theorem dX11_set_46 : decode cX11_set 46 = .ok (.iload_n 2, 1) := by decide +kernel
theorem dX11_set_47 : decode cX11_set 47 = .ok (.iadd, 1) := by decide +kernel
theorem dX11_set_48 : decode cX11_set 48 = .ok (.aload_n 0, 1) := by decide +kernel
theorem dX11_set_49 : decode cX11_set 49 = .ok (.getfield 59, 3) := by decide +kernel
theorem dX11_set_52 : decode cX11_set 52 = .ok (.iconst 4, 1) := by decide +kernel
theorem dX11_set_53 : decode cX11_set 53 = .ok (.iload_n 3, 1) := by decide +kernel
theorem dX11_set_54 : decode cX11_set 54 = .ok (.imul, 1) := by decide +kernel
theorem dX11_set_55 : decode cX11_set 55 = .ok (.iaload, 1) := by decide +kernel
theorem dX11_set_56 : decode cX11_set 56 = .ok (.iastore, 1) := by decide +kernel
theorem dX11_set_57 : decode cX11_set 57 = .ok (.iinc 3 1, 3) := by decide +kernel
theorem dX11_set_60 : decode cX11_set 60 = .ok (.goto (-42), 3) := by decide +kernel
theorem dX11_set_63 : decode cX11_set 63 = .ok (.aload_n 0, 1) := by decide +kernel
theorem dX11_set_64 : decode cX11_set 64 = .ok (.getfield 59, 3) := by decide +kernel
theorem dX11_set_67 : decode cX11_set 67 = .ok (.iconst 5, 1) := by decide +kernel
theorem dX11_set_68 : decode cX11_set 68 = .ok (.iload_n 2, 1) := by decide +kernel
theorem dX11_set_69 : decode cX11_set 69 = .ok (.imul, 1) := by decide +kernel
theorem dX11_set_70 : decode cX11_set 70 = .ok (.iconst 1, 1) := by decide +kernel
theorem dX11_set_71 : decode cX11_set 71 = .ok (.iastore, 1) := by decide +kernel
theorem dX11_set_72 : decode cX11_set 72 = .ok (.iinc 2 1, 3) := by decide +kernel
theorem dX11_set_75 : decode cX11_set 75 = .ok (.goto (-73), 3) := by decide +kernel
theorem dX11_set_78 : decode cX11_set 78 = .ok (.return_, 1) := by decide +kernel
theorem dX11_greatestOf_0 : decode cX11_greatestOf 0 = .ok (.iconst 0, 1) := by decide +kernel
theorem dX11_greatestOf_1 : decode cX11_greatestOf 1 = .ok (.istore_n 2, 1) := by decide +kernel
theorem dX11_greatestOf_2 : decode cX11_greatestOf 2 = .ok (.iconst 0, 1) := by decide +kernel
theorem dX11_greatestOf_3 : decode cX11_greatestOf 3 = .ok (.istore_n 3, 1) := by decide +kernel
theorem dX11_greatestOf_4 : decode cX11_greatestOf 4 = .ok (.iload_n 3, 1) := by decide +kernel
theorem dX11_greatestOf_5 : decode cX11_greatestOf 5 = .ok (.aload_n 0, 1) := by decide +kernel
theorem dX11_greatestOf_6 : decode cX11_greatestOf 6 = .ok (.getfield 90, 3) := by decide +kernel
theorem dX11_greatestOf_9 : decode cX11_greatestOf 9 = .ok (.if_icmp .ge 78, 3) := by decide +kernel
theorem dX11_greatestOf_12 : decode cX11_greatestOf 12 = .ok (.iconst 0, 1) := by decide +kernel
theorem dX11_greatestOf_13 : decode cX11_greatestOf 13 = .ok (.istore 4, 2) := by decide +kernel
theorem dX11_greatestOf_15 : decode cX11_greatestOf 15 = .ok (.iload 4, 2) := by decide +kernel
theorem dX11_greatestOf_17 : decode cX11_greatestOf 17 = .ok (.aload_n 0, 1) := by decide +kernel
theorem dX11_greatestOf_18 : decode cX11_greatestOf 18 = .ok (.getfield 25, 3) := by decide +kernel
theorem dX11_greatestOf_21 : decode cX11_greatestOf 21 = .ok (.iload_n 3, 1) := by decide +kernel
theorem dX11_greatestOf_22 : decode cX11_greatestOf 22 = .ok (.iaload, 1) := by decide +kernel
theorem dX11_greatestOf_23 : decode cX11_greatestOf 23 = .ok (.if_icmp .ge 58, 3) := by decide +kernel
theorem dX11_greatestOf_26 : decode cX11_greatestOf 26 = .ok (.bipush 6, 2) := by decide +kernel
theorem dX11_greatestOf_28 : decode cX11_greatestOf 28 = .ok (.iload_n 3, 1) := by decide +kernel
theorem dX11_greatestOf_29 : decode cX11_greatestOf 29 = .ok (.imul, 1) := by decide +kernel
theorem dX11_greatestOf_30 : decode cX11_greatestOf 30 = .ok (.iconst 3, 1) := by decide +kernel
theorem dX11_greatestOf_31 : decode cX11_greatestOf 31 = .ok (.iload 4, 2) := by decide +kernel
theorem dX11_greatestOf_33 : decode cX11_greatestOf 33 = .ok (.imul, 1) := by decide +kernel
theorem dX11_greatestOf_34 : decode cX11_greatestOf 34 = .ok (.iadd, 1) := by decide +kernel
theorem dX11_greatestOf_35 : decode cX11_greatestOf 35 = .ok (.istore 5, 2) := by decide +kernel
theorem dX11_greatestOf_37 : decode cX11_greatestOf 37 = .ok (.aload_n 0, 1) := by decide +kernel
theorem dX11_greatestOf_38 : decode cX11_greatestOf 38 = .ok (.getfield 28, 3) := by decide +kernel
theorem dX11_greatestOf_41 : decode cX11_greatestOf 41 = .ok (.iload 5, 2) := by decide +kernel
theorem dX11_greatestOf_43 : decode cX11_greatestOf 43 = .ok (.iaload, 1) := by decide +kernel
theorem dX11_greatestOf_44 : decode cX11_greatestOf 44 = .ok (.iload_n 1, 1) := by decide +kernel
theorem dX11_greatestOf_45 : decode cX11_greatestOf 45 = .ok (.if_icmp .ne 28, 3) := by decide +kernel
theorem dX11_greatestOf_48 : decode cX11_greatestOf 48 = .ok (.aload_n 0, 1) := by decide +kernel
theorem dX11_greatestOf_49 : decode cX11_greatestOf 49 = .ok (.getfield 28, 3) := by decide +kernel
theorem dX11_greatestOf_52 : decode cX11_greatestOf 52 = .ok (.iload 5, 2) := by decide +kernel
theorem dX11_greatestOf_54 : decode cX11_greatestOf 54 = .ok (.iconst 2, 1) := by decide +kernel
theorem dX11_greatestOf_55 : decode cX11_greatestOf 55 = .ok (.iadd, 1) := by decide +kernel
theorem dX11_greatestOf_56 : decode cX11_greatestOf 56 = .ok (.iaload, 1) := by decide +kernel
theorem dX11_greatestOf_57 : decode cX11_greatestOf 57 = .ok (.iload_n 2, 1) := by decide +kernel
theorem dX11_greatestOf_58 : decode cX11_greatestOf 58 = .ok (.if_icmp .le 15, 3) := by decide +kernel
theorem dX11_greatestOf_61 : decode cX11_greatestOf 61 = .ok (.aload_n 0, 1) := by decide +kernel
theorem dX11_greatestOf_62 : decode cX11_greatestOf 62 = .ok (.getfield 28, 3) := by decide +kernel
theorem dX11_greatestOf_65 : decode cX11_greatestOf 65 = .ok (.iload 5, 2) := by decide +kernel
theorem dX11_greatestOf_67 : decode cX11_greatestOf 67 = .ok (.iconst 2, 1) := by decide +kernel
theorem dX11_greatestOf_68 : decode cX11_greatestOf 68 = .ok (.iadd, 1) := by decide +kernel
theorem dX11_greatestOf_69 : decode cX11_greatestOf 69 = .ok (.iaload, 1) := by decide +kernel
theorem dX11_greatestOf_70 : decode cX11_greatestOf 70 = .ok (.goto 4, 3) := by decide +kernel
theorem dX11_greatestOf_73 : decode cX11_greatestOf 73 = .ok (.iload_n 2, 1) := by decide +kernel
theorem dX11_greatestOf_74 : decode cX11_greatestOf 74 = .ok (.istore_n 2, 1) := by decide +kernel
theorem dX11_greatestOf_75 : decode cX11_greatestOf 75 = .ok (.iinc 4 1, 3) := by decide +kernel
theorem dX11_greatestOf_78 : decode cX11_greatestOf 78 = .ok (.goto (-63), 3) := by decide +kernel
theorem dX11_greatestOf_81 : decode cX11_greatestOf 81 = .ok (.iinc 3 1, 3) := by decide +kernel
theorem dX11_greatestOf_84 : decode cX11_greatestOf 84 = .ok (.goto (-80), 3) := by decide +kernel
theorem dX11_greatestOf_87 : decode cX11_greatestOf 87 = .ok (.iconst 0, 1) := by decide +kernel
theorem dX11_greatestOf_88 : decode cX11_greatestOf 88 = .ok (.istore_n 3, 1) := by decide +kernel
theorem dX11_greatestOf_89 : decode cX11_greatestOf 89 = .ok (.iload_n 3, 1) := by decide +kernel
theorem dX11_greatestOf_90 : decode cX11_greatestOf 90 = .ok (.bipush 18, 2) := by decide +kernel
theorem dX11_greatestOf_92 : decode cX11_greatestOf 92 = .ok (.if_icmp .ge 78, 3) := by decide +kernel
theorem dX11_greatestOf_95 : decode cX11_greatestOf 95 = .ok (.iconst 0, 1) := by decide +kernel
theorem dX11_greatestOf_96 : decode cX11_greatestOf 96 = .ok (.istore 4, 2) := by decide +kernel
theorem dX11_greatestOf_98 : decode cX11_greatestOf 98 = .ok (.iload 4, 2) := by decide +kernel
theorem dX11_greatestOf_100 : decode cX11_greatestOf 100 = .ok (.aload_n 0, 1) := by decide +kernel
theorem dX11_greatestOf_101 : decode cX11_greatestOf 101 = .ok (.getfield 31, 3) := by decide +kernel
theorem dX11_greatestOf_104 : decode cX11_greatestOf 104 = .ok (.iload_n 3, 1) := by decide +kernel
theorem dX11_greatestOf_105 : decode cX11_greatestOf 105 = .ok (.iaload, 1) := by decide +kernel
theorem dX11_greatestOf_106 : decode cX11_greatestOf 106 = .ok (.if_icmp .ge 58, 3) := by decide +kernel
theorem dX11_greatestOf_109 : decode cX11_greatestOf 109 = .ok (.bipush 6, 2) := by decide +kernel
theorem dX11_greatestOf_111 : decode cX11_greatestOf 111 = .ok (.iload_n 3, 1) := by decide +kernel
theorem dX11_greatestOf_112 : decode cX11_greatestOf 112 = .ok (.imul, 1) := by decide +kernel
theorem dX11_greatestOf_113 : decode cX11_greatestOf 113 = .ok (.iconst 3, 1) := by decide +kernel
theorem dX11_greatestOf_114 : decode cX11_greatestOf 114 = .ok (.iload 4, 2) := by decide +kernel
theorem dX11_greatestOf_116 : decode cX11_greatestOf 116 = .ok (.imul, 1) := by decide +kernel
theorem dX11_greatestOf_117 : decode cX11_greatestOf 117 = .ok (.iadd, 1) := by decide +kernel
theorem dX11_greatestOf_118 : decode cX11_greatestOf 118 = .ok (.istore 5, 2) := by decide +kernel
theorem dX11_greatestOf_120 : decode cX11_greatestOf 120 = .ok (.aload_n 0, 1) := by decide +kernel
theorem dX11_greatestOf_121 : decode cX11_greatestOf 121 = .ok (.getfield 34, 3) := by decide +kernel
theorem dX11_greatestOf_124 : decode cX11_greatestOf 124 = .ok (.iload 5, 2) := by decide +kernel
theorem dX11_greatestOf_126 : decode cX11_greatestOf 126 = .ok (.iaload, 1) := by decide +kernel
theorem dX11_greatestOf_127 : decode cX11_greatestOf 127 = .ok (.iload_n 1, 1) := by decide +kernel
theorem dX11_greatestOf_128 : decode cX11_greatestOf 128 = .ok (.if_icmp .ne 28, 3) := by decide +kernel
theorem dX11_greatestOf_131 : decode cX11_greatestOf 131 = .ok (.aload_n 0, 1) := by decide +kernel
theorem dX11_greatestOf_132 : decode cX11_greatestOf 132 = .ok (.getfield 34, 3) := by decide +kernel
theorem dX11_greatestOf_135 : decode cX11_greatestOf 135 = .ok (.iload 5, 2) := by decide +kernel
theorem dX11_greatestOf_137 : decode cX11_greatestOf 137 = .ok (.iconst 2, 1) := by decide +kernel
theorem dX11_greatestOf_138 : decode cX11_greatestOf 138 = .ok (.iadd, 1) := by decide +kernel
theorem dX11_greatestOf_139 : decode cX11_greatestOf 139 = .ok (.iaload, 1) := by decide +kernel
theorem dX11_greatestOf_140 : decode cX11_greatestOf 140 = .ok (.iload_n 2, 1) := by decide +kernel
theorem dX11_greatestOf_141 : decode cX11_greatestOf 141 = .ok (.if_icmp .le 15, 3) := by decide +kernel
theorem dX11_greatestOf_144 : decode cX11_greatestOf 144 = .ok (.aload_n 0, 1) := by decide +kernel
theorem dX11_greatestOf_145 : decode cX11_greatestOf 145 = .ok (.getfield 34, 3) := by decide +kernel
theorem dX11_greatestOf_148 : decode cX11_greatestOf 148 = .ok (.iload 5, 2) := by decide +kernel
theorem dX11_greatestOf_150 : decode cX11_greatestOf 150 = .ok (.iconst 2, 1) := by decide +kernel
theorem dX11_greatestOf_151 : decode cX11_greatestOf 151 = .ok (.iadd, 1) := by decide +kernel
theorem dX11_greatestOf_152 : decode cX11_greatestOf 152 = .ok (.iaload, 1) := by decide +kernel
theorem dX11_greatestOf_153 : decode cX11_greatestOf 153 = .ok (.goto 4, 3) := by decide +kernel
theorem dX11_greatestOf_156 : decode cX11_greatestOf 156 = .ok (.iload_n 2, 1) := by decide +kernel
theorem dX11_greatestOf_157 : decode cX11_greatestOf 157 = .ok (.istore_n 2, 1) := by decide +kernel
theorem dX11_greatestOf_158 : decode cX11_greatestOf 158 = .ok (.iinc 4 1, 3) := by decide +kernel
theorem dX11_greatestOf_161 : decode cX11_greatestOf 161 = .ok (.goto (-63), 3) := by decide +kernel
theorem dX11_greatestOf_164 : decode cX11_greatestOf 164 = .ok (.iinc 3 1, 3) := by decide +kernel
theorem dX11_greatestOf_167 : decode cX11_greatestOf 167 = .ok (.goto (-78), 3) := by decide +kernel
theorem dX11_greatestOf_170 : decode cX11_greatestOf 170 = .ok (.iload_n 2, 1) := by decide +kernel
theorem dX11_greatestOf_171 : decode cX11_greatestOf 171 = .ok (.ireturn, 1) := by decide +kernel
theorem dX11_widen_0 : decode cX11_widen 0 = .ok (.iconst 0, 1) := by decide +kernel
theorem dX11_widen_1 : decode cX11_widen 1 = .ok (.istore_n 1, 1) := by decide +kernel
theorem dX11_widen_2 : decode cX11_widen 2 = .ok (.iload_n 1, 1) := by decide +kernel
theorem dX11_widen_3 : decode cX11_widen 3 = .ok (.bipush 16, 2) := by decide +kernel
theorem dX11_widen_5 : decode cX11_widen 5 = .ok (.if_icmp .ge 21, 3) := by decide +kernel
theorem dX11_widen_8 : decode cX11_widen 8 = .ok (.aload_n 0, 1) := by decide +kernel
theorem dX11_widen_9 : decode cX11_widen 9 = .ok (.getfield 62, 3) := by decide +kernel
theorem dX11_widen_12 : decode cX11_widen 12 = .ok (.iload_n 1, 1) := by decide +kernel
theorem dX11_widen_13 : decode cX11_widen 13 = .ok (.aload_n 0, 1) := by decide +kernel
theorem dX11_widen_14 : decode cX11_widen 14 = .ok (.getfield 59, 3) := by decide +kernel
theorem dX11_widen_17 : decode cX11_widen 17 = .ok (.iload_n 1, 1) := by decide +kernel
theorem dX11_widen_18 : decode cX11_widen 18 = .ok (.iaload, 1) := by decide +kernel
theorem dX11_widen_19 : decode cX11_widen 19 = .ok (.iastore, 1) := by decide +kernel
theorem dX11_widen_20 : decode cX11_widen 20 = .ok (.iinc 1 1, 3) := by decide +kernel
theorem dX11_widen_23 : decode cX11_widen 23 = .ok (.goto (-21), 3) := by decide +kernel
theorem dX11_widen_26 : decode cX11_widen 26 = .ok (.iconst 1, 1) := by decide +kernel
theorem dX11_widen_27 : decode cX11_widen 27 = .ok (.istore_n 1, 1) := by decide +kernel
theorem dX11_widen_28 : decode cX11_widen 28 = .ok (.iload_n 1, 1) := by decide +kernel
theorem dX11_widen_29 : decode cX11_widen 29 = .ok (.iconst 4, 1) := by decide +kernel
theorem dX11_widen_30 : decode cX11_widen 30 = .ok (.if_icmp .ge 114, 3) := by decide +kernel
theorem dX11_widen_33 : decode cX11_widen 33 = .ok (.aload_n 0, 1) := by decide +kernel
theorem dX11_widen_34 : decode cX11_widen 34 = .ok (.iload_n 1, 1) := by decide +kernel
theorem dX11_widen_35 : decode cX11_widen 35 = .ok (.invokevirtual 129, 3) := by decide +kernel
theorem dX11_widen_38 : decode cX11_widen 38 = .ok (.istore_n 2, 1) := by decide +kernel
theorem dX11_widen_39 : decode cX11_widen 39 = .ok (.iconst 0, 1) := by decide +kernel
theorem dX11_widen_40 : decode cX11_widen 40 = .ok (.istore_n 3, 1) := by decide +kernel
theorem dX11_widen_41 : decode cX11_widen 41 = .ok (.iload_n 3, 1) := by decide +kernel
theorem dX11_widen_42 : decode cX11_widen 42 = .ok (.iconst 4, 1) := by decide +kernel
theorem dX11_widen_43 : decode cX11_widen 43 = .ok (.if_icmp .ge 95, 3) := by decide +kernel
theorem dX11_widen_46 : decode cX11_widen 46 = .ok (.iload_n 3, 1) := by decide +kernel
theorem dX11_widen_47 : decode cX11_widen 47 = .ok (.iload_n 1, 1) := by decide +kernel
theorem dX11_widen_48 : decode cX11_widen 48 = .ok (.if_icmp .eq 84, 3) := by decide +kernel
theorem dX11_widen_51 : decode cX11_widen 51 = .ok (.aload_n 0, 1) := by decide +kernel
theorem dX11_widen_52 : decode cX11_widen 52 = .ok (.getfield 62, 3) := by decide +kernel
theorem dX11_widen_55 : decode cX11_widen 55 = .ok (.iconst 4, 1) := by decide +kernel
theorem dX11_widen_56 : decode cX11_widen 56 = .ok (.iload_n 1, 1) := by decide +kernel
theorem dX11_widen_57 : decode cX11_widen 57 = .ok (.imul, 1) := by decide +kernel
theorem dX11_widen_58 : decode cX11_widen 58 = .ok (.iload_n 3, 1) := by decide +kernel
theorem dX11_widen_59 : decode cX11_widen 59 = .ok (.iadd, 1) := by decide +kernel
theorem dX11_widen_60 : decode cX11_widen 60 = .ok (.iaload, 1) := by decide +kernel
theorem dX11_widen_61 : decode cX11_widen 61 = .ok (.istore 4, 2) := by decide +kernel
theorem dX11_widen_63 : decode cX11_widen 63 = .ok (.iload 4, 2) := by decide +kernel
theorem dX11_widen_65 : decode cX11_widen 65 = .ok (.ldc 113, 2) := by decide +kernel
theorem dX11_widen_67 : decode cX11_widen 67 = .ok (.if_icmp .eq 23, 3) := by decide +kernel
theorem dX11_widen_70 : decode cX11_widen 70 = .ok (.iload 4, 2) := by decide +kernel
theorem dX11_widen_72 : decode cX11_widen 72 = .ok (.iconst 1, 1) := by decide +kernel
theorem dX11_widen_73 : decode cX11_widen 73 = .ok (.ishr, 1) := by decide +kernel
theorem dX11_widen_74 : decode cX11_widen 74 = .ok (.iload_n 2, 1) := by decide +kernel
theorem dX11_widen_75 : decode cX11_widen 75 = .ok (.if_icmp .le 15, 3) := by decide +kernel
theorem dX11_widen_78 : decode cX11_widen 78 = .ok (.aload_n 0, 1) := by decide +kernel
theorem dX11_widen_79 : decode cX11_widen 79 = .ok (.getfield 59, 3) := by decide +kernel
theorem dX11_widen_82 : decode cX11_widen 82 = .ok (.iconst 4, 1) := by decide +kernel
theorem dX11_widen_83 : decode cX11_widen 83 = .ok (.iload_n 1, 1) := by decide +kernel
theorem dX11_widen_84 : decode cX11_widen 84 = .ok (.imul, 1) := by decide +kernel
theorem dX11_widen_85 : decode cX11_widen 85 = .ok (.iload_n 3, 1) := by decide +kernel
theorem dX11_widen_86 : decode cX11_widen 86 = .ok (.iadd, 1) := by decide +kernel
theorem dX11_widen_87 : decode cX11_widen 87 = .ok (.ldc 113, 2) := by decide +kernel
theorem dX11_widen_89 : decode cX11_widen 89 = .ok (.iastore, 1) := by decide +kernel
theorem dX11_widen_90 : decode cX11_widen 90 = .ok (.aload_n 0, 1) := by decide +kernel
theorem dX11_widen_91 : decode cX11_widen 91 = .ok (.getfield 62, 3) := by decide +kernel
theorem dX11_widen_94 : decode cX11_widen 94 = .ok (.iconst 4, 1) := by decide +kernel
theorem dX11_widen_95 : decode cX11_widen 95 = .ok (.iload_n 3, 1) := by decide +kernel
theorem dX11_widen_96 : decode cX11_widen 96 = .ok (.imul, 1) := by decide +kernel
theorem dX11_widen_97 : decode cX11_widen 97 = .ok (.iload_n 1, 1) := by decide +kernel
theorem dX11_widen_98 : decode cX11_widen 98 = .ok (.iadd, 1) := by decide +kernel
theorem dX11_widen_99 : decode cX11_widen 99 = .ok (.iaload, 1) := by decide +kernel
theorem dX11_widen_100 : decode cX11_widen 100 = .ok (.istore 5, 2) := by decide +kernel
theorem dX11_widen_102 : decode cX11_widen 102 = .ok (.iload 5, 2) := by decide +kernel
theorem dX11_widen_104 : decode cX11_widen 104 = .ok (.ldc 113, 2) := by decide +kernel
theorem dX11_widen_106 : decode cX11_widen 106 = .ok (.if_icmp .eq 26, 3) := by decide +kernel
theorem dX11_widen_109 : decode cX11_widen 109 = .ok (.iload 5, 2) := by decide +kernel
theorem dX11_widen_111 : decode cX11_widen 111 = .ok (.iconst 1, 1) := by decide +kernel
theorem dX11_widen_112 : decode cX11_widen 112 = .ok (.ishr, 1) := by decide +kernel
theorem dX11_widen_113 : decode cX11_widen 113 = .ok (.iload_n 2, 1) := by decide +kernel
theorem dX11_widen_114 : decode cX11_widen 114 = .ok (.ineg, 1) := by decide +kernel
theorem dX11_widen_115 : decode cX11_widen 115 = .ok (.if_icmp .ge 17, 3) := by decide +kernel
theorem dX11_widen_118 : decode cX11_widen 118 = .ok (.aload_n 0, 1) := by decide +kernel
theorem dX11_widen_119 : decode cX11_widen 119 = .ok (.getfield 59, 3) := by decide +kernel
theorem dX11_widen_122 : decode cX11_widen 122 = .ok (.iconst 4, 1) := by decide +kernel
theorem dX11_widen_123 : decode cX11_widen 123 = .ok (.iload_n 3, 1) := by decide +kernel
theorem dX11_widen_124 : decode cX11_widen 124 = .ok (.imul, 1) := by decide +kernel
theorem dX11_widen_125 : decode cX11_widen 125 = .ok (.iload_n 1, 1) := by decide +kernel
theorem dX11_widen_126 : decode cX11_widen 126 = .ok (.iadd, 1) := by decide +kernel
theorem dX11_widen_127 : decode cX11_widen 127 = .ok (.bipush (-2), 2) := by decide +kernel
theorem dX11_widen_129 : decode cX11_widen 129 = .ok (.iload_n 2, 1) := by decide +kernel
theorem dX11_widen_130 : decode cX11_widen 130 = .ok (.imul, 1) := by decide +kernel
theorem dX11_widen_131 : decode cX11_widen 131 = .ok (.iastore, 1) := by decide +kernel
theorem dX11_widen_132 : decode cX11_widen 132 = .ok (.iinc 3 1, 3) := by decide +kernel
theorem dX11_widen_135 : decode cX11_widen 135 = .ok (.goto (-94), 3) := by decide +kernel
theorem dX11_widen_138 : decode cX11_widen 138 = .ok (.iinc 1 1, 3) := by decide +kernel
theorem dX11_widen_141 : decode cX11_widen 141 = .ok (.goto (-113), 3) := by decide +kernel
theorem dX11_widen_144 : decode cX11_widen 144 = .ok (.aload_n 0, 1) := by decide +kernel
theorem dX11_widen_145 : decode cX11_widen 145 = .ok (.invokevirtual 125, 3) := by decide +kernel
theorem dX11_widen_148 : decode cX11_widen 148 = .ok (.ireturn, 1) := by decide +kernel
theorem dX11_later_0 : decode cX11_later 0 = .ok (.iconst 1, 1) := by decide +kernel
theorem dX11_later_1 : decode cX11_later 1 = .ok (.istore_n 1, 1) := by decide +kernel
theorem dX11_later_2 : decode cX11_later 2 = .ok (.iload_n 1, 1) := by decide +kernel
theorem dX11_later_3 : decode cX11_later 3 = .ok (.iconst 4, 1) := by decide +kernel
theorem dX11_later_4 : decode cX11_later 4 = .ok (.if_icmp .ge 19, 3) := by decide +kernel
theorem dX11_later_7 : decode cX11_later 7 = .ok (.aload_n 0, 1) := by decide +kernel
theorem dX11_later_8 : decode cX11_later 8 = .ok (.getfield 59, 3) := by decide +kernel
theorem dX11_later_11 : decode cX11_later 11 = .ok (.iconst 4, 1) := by decide +kernel
theorem dX11_later_12 : decode cX11_later 12 = .ok (.iload_n 1, 1) := by decide +kernel
theorem dX11_later_13 : decode cX11_later 13 = .ok (.imul, 1) := by decide +kernel
theorem dX11_later_14 : decode cX11_later 14 = .ok (.ldc 113, 2) := by decide +kernel
theorem dX11_later_16 : decode cX11_later 16 = .ok (.iastore, 1) := by decide +kernel
theorem dX11_later_17 : decode cX11_later 17 = .ok (.iinc 1 1, 3) := by decide +kernel
theorem dX11_later_20 : decode cX11_later 20 = .ok (.goto (-18), 3) := by decide +kernel
theorem dX11_later_23 : decode cX11_later 23 = .ok (.aload_n 0, 1) := by decide +kernel
theorem dX11_later_24 : decode cX11_later 24 = .ok (.invokevirtual 133, 3) := by decide +kernel
theorem dX11_later_27 : decode cX11_later 27 = .ok (.ifCond .eq 14, 3) := by decide +kernel
theorem dX11_later_30 : decode cX11_later 30 = .ok (.aload_n 0, 1) := by decide +kernel
theorem dX11_later_31 : decode cX11_later 31 = .ok (.invokevirtual 136, 3) := by decide +kernel
theorem dX11_later_34 : decode cX11_later 34 = .ok (.ifCond .eq 7, 3) := by decide +kernel
theorem dX11_later_37 : decode cX11_later 37 = .ok (.iconst 1, 1) := by decide +kernel
theorem dX11_later_38 : decode cX11_later 38 = .ok (.goto 4, 3) := by decide +kernel
theorem dX11_later_41 : decode cX11_later 41 = .ok (.iconst 0, 1) := by decide +kernel
theorem dX11_later_42 : decode cX11_later 42 = .ok (.ireturn, 1) := by decide +kernel
theorem dX11_isMove_0 : decode cX11_isMove 0 = .ok (.iload_n 2, 1) := by decide +kernel
theorem dX11_isMove_1 : decode cX11_isMove 1 = .ok (.iconst (-1), 1) := by decide +kernel
theorem dX11_isMove_2 : decode cX11_isMove 2 = .ok (.if_icmp .ne 20, 3) := by decide +kernel
theorem dX11_isMove_5 : decode cX11_isMove 5 = .ok (.aload_n 0, 1) := by decide +kernel
theorem dX11_isMove_6 : decode cX11_isMove 6 = .ok (.getfield 19, 3) := by decide +kernel
theorem dX11_isMove_9 : decode cX11_isMove 9 = .ok (.iload_n 1, 1) := by decide +kernel
theorem dX11_isMove_10 : decode cX11_isMove 10 = .ok (.iaload, 1) := by decide +kernel
theorem dX11_isMove_11 : decode cX11_isMove 11 = .ok (.ifCond .ne 7, 3) := by decide +kernel
theorem dX11_isMove_14 : decode cX11_isMove 14 = .ok (.iconst 1, 1) := by decide +kernel
theorem dX11_isMove_15 : decode cX11_isMove 15 = .ok (.goto 52, 3) := by decide +kernel
theorem dX11_isMove_18 : decode cX11_isMove 18 = .ok (.iconst 0, 1) := by decide +kernel
theorem dX11_isMove_19 : decode cX11_isMove 19 = .ok (.goto 48, 3) := by decide +kernel
theorem dX11_isMove_22 : decode cX11_isMove 22 = .ok (.aload_n 0, 1) := by decide +kernel
theorem dX11_isMove_23 : decode cX11_isMove 23 = .ok (.getfield 19, 3) := by decide +kernel
theorem dX11_isMove_26 : decode cX11_isMove 26 = .ok (.iload_n 1, 1) := by decide +kernel
theorem dX11_isMove_27 : decode cX11_isMove 27 = .ok (.iaload, 1) := by decide +kernel
theorem dX11_isMove_28 : decode cX11_isMove 28 = .ok (.ifCond .le 38, 3) := by decide +kernel
theorem dX11_isMove_31 : decode cX11_isMove 31 = .ok (.aload_n 0, 1) := by decide +kernel
theorem dX11_isMove_32 : decode cX11_isMove 32 = .ok (.getfield 19, 3) := by decide +kernel
theorem dX11_isMove_35 : decode cX11_isMove 35 = .ok (.iload_n 2, 1) := by decide +kernel
theorem dX11_isMove_36 : decode cX11_isMove 36 = .ok (.iaload, 1) := by decide +kernel
theorem dX11_isMove_37 : decode cX11_isMove 37 = .ok (.aload_n 0, 1) := by decide +kernel
theorem dX11_isMove_38 : decode cX11_isMove 38 = .ok (.getfield 19, 3) := by decide +kernel
theorem dX11_isMove_41 : decode cX11_isMove 41 = .ok (.iload_n 1, 1) := by decide +kernel
theorem dX11_isMove_42 : decode cX11_isMove 42 = .ok (.iaload, 1) := by decide +kernel
theorem dX11_isMove_43 : decode cX11_isMove 43 = .ok (.ineg, 1) := by decide +kernel
theorem dX11_isMove_44 : decode cX11_isMove 44 = .ok (.if_icmp .ne 22, 3) := by decide +kernel
theorem dX11_isMove_47 : decode cX11_isMove 47 = .ok (.aload_n 0, 1) := by decide +kernel
theorem dX11_isMove_48 : decode cX11_isMove 48 = .ok (.getfield 7, 3) := by decide +kernel
theorem dX11_isMove_51 : decode cX11_isMove 51 = .ok (.iload_n 1, 1) := by decide +kernel
theorem dX11_isMove_52 : decode cX11_isMove 52 = .ok (.iaload, 1) := by decide +kernel
theorem dX11_isMove_53 : decode cX11_isMove 53 = .ok (.aload_n 0, 1) := by decide +kernel
theorem dX11_isMove_54 : decode cX11_isMove 54 = .ok (.getfield 7, 3) := by decide +kernel
theorem dX11_isMove_57 : decode cX11_isMove 57 = .ok (.iload_n 2, 1) := by decide +kernel
theorem dX11_isMove_58 : decode cX11_isMove 58 = .ok (.iaload, 1) := by decide +kernel
theorem dX11_isMove_59 : decode cX11_isMove 59 = .ok (.if_icmp .eq 7, 3) := by decide +kernel
theorem dX11_isMove_62 : decode cX11_isMove 62 = .ok (.iconst 1, 1) := by decide +kernel
theorem dX11_isMove_63 : decode cX11_isMove 63 = .ok (.goto 4, 3) := by decide +kernel
theorem dX11_isMove_66 : decode cX11_isMove 66 = .ok (.iconst 0, 1) := by decide +kernel
theorem dX11_isMove_67 : decode cX11_isMove 67 = .ok (.ireturn, 1) := by decide +kernel
theorem dX11_isMet_0 : decode cX11_isMet 0 = .ok (.iconst 0, 1) := by decide +kernel
theorem dX11_isMet_1 : decode cX11_isMet 1 = .ok (.istore_n 1, 1) := by decide +kernel
theorem dX11_isMet_2 : decode cX11_isMet 2 = .ok (.iload_n 1, 1) := by decide +kernel
theorem dX11_isMet_3 : decode cX11_isMet 3 = .ok (.aload_n 0, 1) := by decide +kernel
theorem dX11_isMet_4 : decode cX11_isMet 4 = .ok (.getfield 94, 3) := by decide +kernel
theorem dX11_isMet_7 : decode cX11_isMet 7 = .ok (.if_icmp .ge 103, 3) := by decide +kernel
theorem dX11_isMet_10 : decode cX11_isMet 10 = .ok (.iconst 1, 1) := by decide +kernel
theorem dX11_isMet_11 : decode cX11_isMet 11 = .ok (.istore_n 2, 1) := by decide +kernel
theorem dX11_isMet_12 : decode cX11_isMet 12 = .ok (.iconst 0, 1) := by decide +kernel
theorem dX11_isMet_13 : decode cX11_isMet 13 = .ok (.istore_n 3, 1) := by decide +kernel
theorem dX11_isMet_14 : decode cX11_isMet 14 = .ok (.iload_n 3, 1) := by decide +kernel
theorem dX11_isMet_15 : decode cX11_isMet 15 = .ok (.iconst 3, 1) := by decide +kernel
theorem dX11_isMet_16 : decode cX11_isMet 16 = .ok (.if_icmp .ge 38, 3) := by decide +kernel
theorem dX11_isMet_19 : decode cX11_isMet 19 = .ok (.iload_n 2, 1) := by decide +kernel
theorem dX11_isMet_20 : decode cX11_isMet 20 = .ok (.ifCond .eq 26, 3) := by decide +kernel
theorem dX11_isMet_23 : decode cX11_isMet 23 = .ok (.aload_n 0, 1) := by decide +kernel
theorem dX11_isMet_24 : decode cX11_isMet 24 = .ok (.getfield 41, 3) := by decide +kernel
theorem dX11_isMet_27 : decode cX11_isMet 27 = .ok (.iconst 3, 1) := by decide +kernel
theorem dX11_isMet_28 : decode cX11_isMet 28 = .ok (.iload_n 1, 1) := by decide +kernel
theorem dX11_isMet_29 : decode cX11_isMet 29 = .ok (.imul, 1) := by decide +kernel
theorem dX11_isMet_30 : decode cX11_isMet 30 = .ok (.iload_n 3, 1) := by decide +kernel
theorem dX11_isMet_31 : decode cX11_isMet 31 = .ok (.iadd, 1) := by decide +kernel
theorem dX11_isMet_32 : decode cX11_isMet 32 = .ok (.iaload, 1) := by decide +kernel
theorem dX11_isMet_33 : decode cX11_isMet 33 = .ok (.aload_n 0, 1) := by decide +kernel
theorem dX11_isMet_34 : decode cX11_isMet 34 = .ok (.getfield 65, 3) := by decide +kernel
theorem dX11_isMet_37 : decode cX11_isMet 37 = .ok (.iload_n 3, 1) := by decide +kernel
theorem dX11_isMet_38 : decode cX11_isMet 38 = .ok (.iaload, 1) := by decide +kernel
theorem dX11_isMet_39 : decode cX11_isMet 39 = .ok (.if_icmp .ne 7, 3) := by decide +kernel
theorem dX11_isMet_42 : decode cX11_isMet 42 = .ok (.iconst 1, 1) := by decide +kernel
theorem dX11_isMet_43 : decode cX11_isMet 43 = .ok (.goto 4, 3) := by decide +kernel
theorem dX11_isMet_46 : decode cX11_isMet 46 = .ok (.iconst 0, 1) := by decide +kernel
theorem dX11_isMet_47 : decode cX11_isMet 47 = .ok (.istore_n 2, 1) := by decide +kernel
theorem dX11_isMet_48 : decode cX11_isMet 48 = .ok (.iinc 3 1, 3) := by decide +kernel
theorem dX11_isMet_51 : decode cX11_isMet 51 = .ok (.goto (-37), 3) := by decide +kernel
theorem dX11_isMet_54 : decode cX11_isMet 54 = .ok (.iconst 0, 1) := by decide +kernel
theorem dX11_isMet_55 : decode cX11_isMet 55 = .ok (.istore_n 3, 1) := by decide +kernel
theorem dX11_isMet_56 : decode cX11_isMet 56 = .ok (.iload_n 3, 1) := by decide +kernel
theorem dX11_isMet_57 : decode cX11_isMet 57 = .ok (.bipush 16, 2) := by decide +kernel
theorem dX11_isMet_59 : decode cX11_isMet 59 = .ok (.if_icmp .ge 39, 3) := by decide +kernel
theorem dX11_isMet_62 : decode cX11_isMet 62 = .ok (.iload_n 2, 1) := by decide +kernel
theorem dX11_isMet_63 : decode cX11_isMet 63 = .ok (.ifCond .eq 27, 3) := by decide +kernel
theorem dX11_isMet_66 : decode cX11_isMet 66 = .ok (.aload_n 0, 1) := by decide +kernel
theorem dX11_isMet_67 : decode cX11_isMet 67 = .ok (.getfield 59, 3) := by decide +kernel
theorem dX11_isMet_70 : decode cX11_isMet 70 = .ok (.iload_n 3, 1) := by decide +kernel
theorem dX11_isMet_71 : decode cX11_isMet 71 = .ok (.iaload, 1) := by decide +kernel
theorem dX11_isMet_72 : decode cX11_isMet 72 = .ok (.aload_n 0, 1) := by decide +kernel
theorem dX11_isMet_73 : decode cX11_isMet 73 = .ok (.getfield 44, 3) := by decide +kernel
theorem dX11_isMet_76 : decode cX11_isMet 76 = .ok (.bipush 16, 2) := by decide +kernel
theorem dX11_isMet_78 : decode cX11_isMet 78 = .ok (.iload_n 1, 1) := by decide +kernel
theorem dX11_isMet_79 : decode cX11_isMet 79 = .ok (.imul, 1) := by decide +kernel
theorem dX11_isMet_80 : decode cX11_isMet 80 = .ok (.iload_n 3, 1) := by decide +kernel
theorem dX11_isMet_81 : decode cX11_isMet 81 = .ok (.iadd, 1) := by decide +kernel
theorem dX11_isMet_82 : decode cX11_isMet 82 = .ok (.iaload, 1) := by decide +kernel
theorem dX11_isMet_83 : decode cX11_isMet 83 = .ok (.if_icmp .gt 7, 3) := by decide +kernel
theorem dX11_isMet_86 : decode cX11_isMet 86 = .ok (.iconst 1, 1) := by decide +kernel
theorem dX11_isMet_87 : decode cX11_isMet 87 = .ok (.goto 4, 3) := by decide +kernel
theorem dX11_isMet_90 : decode cX11_isMet 90 = .ok (.iconst 0, 1) := by decide +kernel
theorem dX11_isMet_91 : decode cX11_isMet 91 = .ok (.istore_n 2, 1) := by decide +kernel
theorem dX11_isMet_92 : decode cX11_isMet 92 = .ok (.iinc 3 1, 3) := by decide +kernel
theorem dX11_isMet_95 : decode cX11_isMet 95 = .ok (.goto (-39), 3) := by decide +kernel
theorem dX11_isMet_98 : decode cX11_isMet 98 = .ok (.iload_n 2, 1) := by decide +kernel
theorem dX11_isMet_99 : decode cX11_isMet 99 = .ok (.ifCond .eq 5, 3) := by decide +kernel
theorem dX11_isMet_102 : decode cX11_isMet 102 = .ok (.iconst 1, 1) := by decide +kernel
theorem dX11_isMet_103 : decode cX11_isMet 103 = .ok (.ireturn, 1) := by decide +kernel
theorem dX11_isMet_104 : decode cX11_isMet 104 = .ok (.iinc 1 1, 3) := by decide +kernel
theorem dX11_isMet_107 : decode cX11_isMet 107 = .ok (.goto (-105), 3) := by decide +kernel
theorem dX11_isMet_110 : decode cX11_isMet 110 = .ok (.iconst 0, 1) := by decide +kernel
theorem dX11_isMet_111 : decode cX11_isMet 111 = .ok (.ireturn, 1) := by decide +kernel
theorem dX11_meet_0 : decode cX11_meet 0 = .ok (.iconst 0, 1) := by decide +kernel
theorem dX11_meet_1 : decode cX11_meet 1 = .ok (.istore 4, 2) := by decide +kernel
theorem dX11_meet_3 : decode cX11_meet 3 = .ok (.iload 4, 2) := by decide +kernel
theorem dX11_meet_5 : decode cX11_meet 5 = .ok (.iconst 3, 1) := by decide +kernel
theorem dX11_meet_6 : decode cX11_meet 6 = .ok (.if_icmp .ge 30, 3) := by decide +kernel
theorem dX11_meet_9 : decode cX11_meet 9 = .ok (.aload_n 0, 1) := by decide +kernel
theorem dX11_meet_10 : decode cX11_meet 10 = .ok (.getfield 41, 3) := by decide +kernel
theorem dX11_meet_13 : decode cX11_meet 13 = .ok (.iconst 3, 1) := by decide +kernel
theorem dX11_meet_14 : decode cX11_meet 14 = .ok (.aload_n 0, 1) := by decide +kernel
theorem dX11_meet_15 : decode cX11_meet 15 = .ok (.getfield 94, 3) := by decide +kernel
theorem dX11_meet_18 : decode cX11_meet 18 = .ok (.imul, 1) := by decide +kernel
theorem dX11_meet_19 : decode cX11_meet 19 = .ok (.iload 4, 2) := by decide +kernel
theorem dX11_meet_21 : decode cX11_meet 21 = .ok (.iadd, 1) := by decide +kernel
theorem dX11_meet_22 : decode cX11_meet 22 = .ok (.aload_n 0, 1) := by decide +kernel
theorem dX11_meet_23 : decode cX11_meet 23 = .ok (.getfield 65, 3) := by decide +kernel
theorem dX11_meet_26 : decode cX11_meet 26 = .ok (.iload 4, 2) := by decide +kernel
theorem dX11_meet_28 : decode cX11_meet 28 = .ok (.iaload, 1) := by decide +kernel
theorem dX11_meet_29 : decode cX11_meet 29 = .ok (.iastore, 1) := by decide +kernel
theorem dX11_meet_30 : decode cX11_meet 30 = .ok (.iinc 4 1, 3) := by decide +kernel
theorem dX11_meet_33 : decode cX11_meet 33 = .ok (.goto (-30), 3) := by decide +kernel
theorem dX11_meet_36 : decode cX11_meet 36 = .ok (.iconst 0, 1) := by decide +kernel
theorem dX11_meet_37 : decode cX11_meet 37 = .ok (.istore 4, 2) := by decide +kernel
theorem dX11_meet_39 : decode cX11_meet 39 = .ok (.iload 4, 2) := by decide +kernel
theorem dX11_meet_41 : decode cX11_meet 41 = .ok (.bipush 16, 2) := by decide +kernel
theorem dX11_meet_43 : decode cX11_meet 43 = .ok (.if_icmp .ge 31, 3) := by decide +kernel
theorem dX11_meet_46 : decode cX11_meet 46 = .ok (.aload_n 0, 1) := by decide +kernel
theorem dX11_meet_47 : decode cX11_meet 47 = .ok (.getfield 44, 3) := by decide +kernel
theorem dX11_meet_50 : decode cX11_meet 50 = .ok (.bipush 16, 2) := by decide +kernel
theorem dX11_meet_52 : decode cX11_meet 52 = .ok (.aload_n 0, 1) := by decide +kernel
theorem dX11_meet_53 : decode cX11_meet 53 = .ok (.getfield 94, 3) := by decide +kernel
theorem dX11_meet_56 : decode cX11_meet 56 = .ok (.imul, 1) := by decide +kernel
theorem dX11_meet_57 : decode cX11_meet 57 = .ok (.iload 4, 2) := by decide +kernel
theorem dX11_meet_59 : decode cX11_meet 59 = .ok (.iadd, 1) := by decide +kernel
theorem dX11_meet_60 : decode cX11_meet 60 = .ok (.aload_n 0, 1) := by decide +kernel
theorem dX11_meet_61 : decode cX11_meet 61 = .ok (.getfield 59, 3) := by decide +kernel
theorem dX11_meet_64 : decode cX11_meet 64 = .ok (.iload 4, 2) := by decide +kernel
theorem dX11_meet_66 : decode cX11_meet 66 = .ok (.iaload, 1) := by decide +kernel
theorem dX11_meet_67 : decode cX11_meet 67 = .ok (.iastore, 1) := by decide +kernel
theorem dX11_meet_68 : decode cX11_meet 68 = .ok (.iinc 4 1, 3) := by decide +kernel
theorem dX11_meet_71 : decode cX11_meet 71 = .ok (.goto (-32), 3) := by decide +kernel
theorem dX11_meet_74 : decode cX11_meet 74 = .ok (.aload_n 0, 1) := by decide +kernel
theorem dX11_meet_75 : decode cX11_meet 75 = .ok (.getfield 47, 3) := by decide +kernel
theorem dX11_meet_78 : decode cX11_meet 78 = .ok (.aload_n 0, 1) := by decide +kernel
theorem dX11_meet_79 : decode cX11_meet 79 = .ok (.getfield 94, 3) := by decide +kernel
theorem dX11_meet_82 : decode cX11_meet 82 = .ok (.iload_n 1, 1) := by decide +kernel
theorem dX11_meet_83 : decode cX11_meet 83 = .ok (.iastore, 1) := by decide +kernel
theorem dX11_meet_84 : decode cX11_meet 84 = .ok (.aload_n 0, 1) := by decide +kernel
theorem dX11_meet_85 : decode cX11_meet 85 = .ok (.getfield 50, 3) := by decide +kernel
theorem dX11_meet_88 : decode cX11_meet 88 = .ok (.aload_n 0, 1) := by decide +kernel
theorem dX11_meet_89 : decode cX11_meet 89 = .ok (.getfield 94, 3) := by decide +kernel
theorem dX11_meet_92 : decode cX11_meet 92 = .ok (.iload_n 2, 1) := by decide +kernel
theorem dX11_meet_93 : decode cX11_meet 93 = .ok (.iastore, 1) := by decide +kernel
theorem dX11_meet_94 : decode cX11_meet 94 = .ok (.aload_n 0, 1) := by decide +kernel
theorem dX11_meet_95 : decode cX11_meet 95 = .ok (.getfield 53, 3) := by decide +kernel
theorem dX11_meet_98 : decode cX11_meet 98 = .ok (.aload_n 0, 1) := by decide +kernel
theorem dX11_meet_99 : decode cX11_meet 99 = .ok (.getfield 94, 3) := by decide +kernel
theorem dX11_meet_102 : decode cX11_meet 102 = .ok (.iload_n 3, 1) := by decide +kernel
theorem dX11_meet_103 : decode cX11_meet 103 = .ok (.iastore, 1) := by decide +kernel
theorem dX11_meet_104 : decode cX11_meet 104 = .ok (.aload_n 0, 1) := by decide +kernel
theorem dX11_meet_105 : decode cX11_meet 105 = .ok (.getfield 56, 3) := by decide +kernel
theorem dX11_meet_108 : decode cX11_meet 108 = .ok (.aload_n 0, 1) := by decide +kernel
theorem dX11_meet_109 : decode cX11_meet 109 = .ok (.getfield 94, 3) := by decide +kernel
theorem dX11_meet_112 : decode cX11_meet 112 = .ok (.iload_n 1, 1) := by decide +kernel
theorem dX11_meet_113 : decode cX11_meet 113 = .ok (.iconst (-1), 1) := by decide +kernel
theorem dX11_meet_114 : decode cX11_meet 114 = .ok (.if_icmp .ne 7, 3) := by decide +kernel
theorem dX11_meet_117 : decode cX11_meet 117 = .ok (.iconst 0, 1) := by decide +kernel
theorem dX11_meet_118 : decode cX11_meet 118 = .ok (.goto 11, 3) := by decide +kernel
theorem dX11_meet_121 : decode cX11_meet 121 = .ok (.aload_n 0, 1) := by decide +kernel
theorem dX11_meet_122 : decode cX11_meet 122 = .ok (.getfield 56, 3) := by decide +kernel
theorem dX11_meet_125 : decode cX11_meet 125 = .ok (.iload_n 1, 1) := by decide +kernel
theorem dX11_meet_126 : decode cX11_meet 126 = .ok (.iaload, 1) := by decide +kernel
theorem dX11_meet_127 : decode cX11_meet 127 = .ok (.iconst 1, 1) := by decide +kernel
theorem dX11_meet_128 : decode cX11_meet 128 = .ok (.iadd, 1) := by decide +kernel
theorem dX11_meet_129 : decode cX11_meet 129 = .ok (.iastore, 1) := by decide +kernel
theorem dX11_meet_130 : decode cX11_meet 130 = .ok (.aload_n 0, 1) := by decide +kernel
theorem dX11_meet_131 : decode cX11_meet 131 = .ok (.dup, 1) := by decide +kernel
theorem dX11_meet_132 : decode cX11_meet 132 = .ok (.getfield 94, 3) := by decide +kernel
theorem dX11_meet_135 : decode cX11_meet 135 = .ok (.iconst 1, 1) := by decide +kernel
theorem dX11_meet_136 : decode cX11_meet 136 = .ok (.iadd, 1) := by decide +kernel
theorem dX11_meet_137 : decode cX11_meet 137 = .ok (.putfield 94, 3) := by decide +kernel
theorem dX11_meet_140 : decode cX11_meet 140 = .ok (.return_, 1) := by decide +kernel
theorem dX11_follows_0 : decode cX11_follows 0 = .ok (.iconst 0, 1) := by decide +kernel
theorem dX11_follows_1 : decode cX11_follows 1 = .ok (.istore 4, 2) := by decide +kernel
theorem dX11_follows_3 : decode cX11_follows 3 = .ok (.iload 4, 2) := by decide +kernel
theorem dX11_follows_5 : decode cX11_follows 5 = .ok (.iconst 3, 1) := by decide +kernel
theorem dX11_follows_6 : decode cX11_follows 6 = .ok (.if_icmp .ge 27, 3) := by decide +kernel
theorem dX11_follows_9 : decode cX11_follows 9 = .ok (.aload_n 0, 1) := by decide +kernel
theorem dX11_follows_10 : decode cX11_follows 10 = .ok (.getfield 65, 3) := by decide +kernel
theorem dX11_follows_13 : decode cX11_follows 13 = .ok (.iload 4, 2) := by decide +kernel
theorem dX11_follows_15 : decode cX11_follows 15 = .ok (.aload_n 0, 1) := by decide +kernel
theorem dX11_follows_16 : decode cX11_follows 16 = .ok (.getfield 41, 3) := by decide +kernel
theorem dX11_follows_19 : decode cX11_follows 19 = .ok (.iconst 3, 1) := by decide +kernel
theorem dX11_follows_20 : decode cX11_follows 20 = .ok (.iload_n 1, 1) := by decide +kernel
theorem dX11_follows_21 : decode cX11_follows 21 = .ok (.imul, 1) := by decide +kernel
theorem dX11_follows_22 : decode cX11_follows 22 = .ok (.iload 4, 2) := by decide +kernel
theorem dX11_follows_24 : decode cX11_follows 24 = .ok (.iadd, 1) := by decide +kernel
theorem dX11_follows_25 : decode cX11_follows 25 = .ok (.iaload, 1) := by decide +kernel
theorem dX11_follows_26 : decode cX11_follows 26 = .ok (.iastore, 1) := by decide +kernel
theorem dX11_follows_27 : decode cX11_follows 27 = .ok (.iinc 4 1, 3) := by decide +kernel
theorem dX11_follows_30 : decode cX11_follows 30 = .ok (.goto (-27), 3) := by decide +kernel
theorem dX11_follows_33 : decode cX11_follows 33 = .ok (.aload_n 0, 1) := by decide +kernel
theorem dX11_follows_34 : decode cX11_follows 34 = .ok (.getfield 65, 3) := by decide +kernel
theorem dX11_follows_37 : decode cX11_follows 37 = .ok (.aload_n 0, 1) := by decide +kernel
theorem dX11_follows_38 : decode cX11_follows 38 = .ok (.getfield 7, 3) := by decide +kernel
theorem dX11_follows_41 : decode cX11_follows 41 = .ok (.iload_n 2, 1) := by decide +kernel
theorem dX11_follows_42 : decode cX11_follows 42 = .ok (.iaload, 1) := by decide +kernel
theorem dX11_follows_43 : decode cX11_follows 43 = .ok (.iaload, 1) := by decide +kernel
theorem dX11_follows_44 : decode cX11_follows 44 = .ok (.aload_n 0, 1) := by decide +kernel
theorem dX11_follows_45 : decode cX11_follows 45 = .ok (.getfield 13, 3) := by decide +kernel
theorem dX11_follows_48 : decode cX11_follows 48 = .ok (.iload_n 2, 1) := by decide +kernel
theorem dX11_follows_49 : decode cX11_follows 49 = .ok (.iaload, 1) := by decide +kernel
theorem dX11_follows_50 : decode cX11_follows 50 = .ok (.if_icmp .ne 28, 3) := by decide +kernel
theorem dX11_follows_53 : decode cX11_follows 53 = .ok (.iload_n 3, 1) := by decide +kernel
theorem dX11_follows_54 : decode cX11_follows 54 = .ok (.iconst (-1), 1) := by decide +kernel
theorem dX11_follows_55 : decode cX11_follows 55 = .ok (.if_icmp .eq 25, 3) := by decide +kernel
theorem dX11_follows_58 : decode cX11_follows 58 = .ok (.aload_n 0, 1) := by decide +kernel
theorem dX11_follows_59 : decode cX11_follows 59 = .ok (.getfield 65, 3) := by decide +kernel
theorem dX11_follows_62 : decode cX11_follows 62 = .ok (.aload_n 0, 1) := by decide +kernel
theorem dX11_follows_63 : decode cX11_follows 63 = .ok (.getfield 7, 3) := by decide +kernel
theorem dX11_follows_66 : decode cX11_follows 66 = .ok (.iload_n 3, 1) := by decide +kernel
theorem dX11_follows_67 : decode cX11_follows 67 = .ok (.iaload, 1) := by decide +kernel
theorem dX11_follows_68 : decode cX11_follows 68 = .ok (.iaload, 1) := by decide +kernel
theorem dX11_follows_69 : decode cX11_follows 69 = .ok (.aload_n 0, 1) := by decide +kernel
theorem dX11_follows_70 : decode cX11_follows 70 = .ok (.getfield 13, 3) := by decide +kernel
theorem dX11_follows_73 : decode cX11_follows 73 = .ok (.iload_n 3, 1) := by decide +kernel
theorem dX11_follows_74 : decode cX11_follows 74 = .ok (.iaload, 1) := by decide +kernel
theorem dX11_follows_75 : decode cX11_follows 75 = .ok (.if_icmp .eq 5, 3) := by decide +kernel
theorem dX11_follows_78 : decode cX11_follows 78 = .ok (.iconst 0, 1) := by decide +kernel
theorem dX11_follows_79 : decode cX11_follows 79 = .ok (.ireturn, 1) := by decide +kernel
theorem dX11_follows_80 : decode cX11_follows 80 = .ok (.iconst 0, 1) := by decide +kernel
theorem dX11_follows_81 : decode cX11_follows 81 = .ok (.istore 4, 2) := by decide +kernel
theorem dX11_follows_83 : decode cX11_follows 83 = .ok (.iload 4, 2) := by decide +kernel
theorem dX11_follows_85 : decode cX11_follows 85 = .ok (.bipush 16, 2) := by decide +kernel
theorem dX11_follows_87 : decode cX11_follows 87 = .ok (.if_icmp .ge 28, 3) := by decide +kernel
theorem dX11_follows_90 : decode cX11_follows 90 = .ok (.aload_n 0, 1) := by decide +kernel
theorem dX11_follows_91 : decode cX11_follows 91 = .ok (.getfield 59, 3) := by decide +kernel
theorem dX11_follows_94 : decode cX11_follows 94 = .ok (.iload 4, 2) := by decide +kernel
theorem dX11_follows_96 : decode cX11_follows 96 = .ok (.aload_n 0, 1) := by decide +kernel
theorem dX11_follows_97 : decode cX11_follows 97 = .ok (.getfield 44, 3) := by decide +kernel
theorem dX11_follows_100 : decode cX11_follows 100 = .ok (.bipush 16, 2) := by decide +kernel
theorem dX11_follows_102 : decode cX11_follows 102 = .ok (.iload_n 1, 1) := by decide +kernel
theorem dX11_follows_103 : decode cX11_follows 103 = .ok (.imul, 1) := by decide +kernel
theorem dX11_follows_104 : decode cX11_follows 104 = .ok (.iload 4, 2) := by decide +kernel
theorem dX11_follows_106 : decode cX11_follows 106 = .ok (.iadd, 1) := by decide +kernel
theorem dX11_follows_107 : decode cX11_follows 107 = .ok (.iaload, 1) := by decide +kernel
theorem dX11_follows_108 : decode cX11_follows 108 = .ok (.iastore, 1) := by decide +kernel
theorem dX11_follows_109 : decode cX11_follows 109 = .ok (.iinc 4 1, 3) := by decide +kernel
theorem dX11_follows_112 : decode cX11_follows 112 = .ok (.goto (-29), 3) := by decide +kernel
theorem dX11_follows_115 : decode cX11_follows 115 = .ok (.aload_n 0, 1) := by decide +kernel
theorem dX11_follows_116 : decode cX11_follows 116 = .ok (.iload_n 2, 1) := by decide +kernel
theorem dX11_follows_117 : decode cX11_follows 117 = .ok (.invokevirtual 139, 3) := by decide +kernel
theorem dX11_follows_120 : decode cX11_follows 120 = .ok (.ifCond .eq 16, 3) := by decide +kernel
theorem dX11_follows_123 : decode cX11_follows 123 = .ok (.iload_n 3, 1) := by decide +kernel
theorem dX11_follows_124 : decode cX11_follows 124 = .ok (.iconst (-1), 1) := by decide +kernel
theorem dX11_follows_125 : decode cX11_follows 125 = .ok (.if_icmp .eq 13, 3) := by decide +kernel
theorem dX11_follows_128 : decode cX11_follows 128 = .ok (.aload_n 0, 1) := by decide +kernel
theorem dX11_follows_129 : decode cX11_follows 129 = .ok (.iload_n 3, 1) := by decide +kernel
theorem dX11_follows_130 : decode cX11_follows 130 = .ok (.invokevirtual 139, 3) := by decide +kernel
theorem dX11_follows_133 : decode cX11_follows 133 = .ok (.ifCond .ne 5, 3) := by decide +kernel
theorem dX11_follows_136 : decode cX11_follows 136 = .ok (.iconst 0, 1) := by decide +kernel
theorem dX11_follows_137 : decode cX11_follows 137 = .ok (.ireturn, 1) := by decide +kernel
theorem dX11_follows_138 : decode cX11_follows 138 = .ok (.aload_n 0, 1) := by decide +kernel
theorem dX11_follows_139 : decode cX11_follows 139 = .ok (.aload_n 0, 1) := by decide +kernel
theorem dX11_follows_140 : decode cX11_follows 140 = .ok (.getfield 22, 3) := by decide +kernel
theorem dX11_follows_143 : decode cX11_follows 143 = .ok (.iload_n 2, 1) := by decide +kernel
theorem dX11_follows_144 : decode cX11_follows 144 = .ok (.iaload, 1) := by decide +kernel
theorem dX11_follows_145 : decode cX11_follows 145 = .ok (.iload_n 3, 1) := by decide +kernel
theorem dX11_follows_146 : decode cX11_follows 146 = .ok (.iconst (-1), 1) := by decide +kernel
theorem dX11_follows_147 : decode cX11_follows 147 = .ok (.if_icmp .ne 7, 3) := by decide +kernel
theorem dX11_follows_150 : decode cX11_follows 150 = .ok (.iconst 0, 1) := by decide +kernel
theorem dX11_follows_151 : decode cX11_follows 151 = .ok (.goto 9, 3) := by decide +kernel
theorem dX11_follows_154 : decode cX11_follows 154 = .ok (.aload_n 0, 1) := by decide +kernel
theorem dX11_follows_155 : decode cX11_follows 155 = .ok (.getfield 22, 3) := by decide +kernel
theorem dX11_follows_158 : decode cX11_follows 158 = .ok (.iload_n 3, 1) := by decide +kernel
theorem dX11_follows_159 : decode cX11_follows 159 = .ok (.iaload, 1) := by decide +kernel
theorem dX11_follows_160 : decode cX11_follows 160 = .ok (.ior, 1) := by decide +kernel
theorem dX11_follows_161 : decode cX11_follows 161 = .ok (.invokevirtual 142, 3) := by decide +kernel
theorem dX11_follows_164 : decode cX11_follows 164 = .ok (.aload_n 0, 1) := by decide +kernel
theorem dX11_follows_165 : decode cX11_follows 165 = .ok (.getfield 65, 3) := by decide +kernel
theorem dX11_follows_168 : decode cX11_follows 168 = .ok (.aload_n 0, 1) := by decide +kernel
theorem dX11_follows_169 : decode cX11_follows 169 = .ok (.getfield 7, 3) := by decide +kernel
theorem dX11_follows_172 : decode cX11_follows 172 = .ok (.iload_n 2, 1) := by decide +kernel
theorem dX11_follows_173 : decode cX11_follows 173 = .ok (.iaload, 1) := by decide +kernel
theorem dX11_follows_174 : decode cX11_follows 174 = .ok (.aload_n 0, 1) := by decide +kernel
theorem dX11_follows_175 : decode cX11_follows 175 = .ok (.getfield 16, 3) := by decide +kernel
theorem dX11_follows_178 : decode cX11_follows 178 = .ok (.iload_n 2, 1) := by decide +kernel
theorem dX11_follows_179 : decode cX11_follows 179 = .ok (.iaload, 1) := by decide +kernel
theorem dX11_follows_180 : decode cX11_follows 180 = .ok (.iastore, 1) := by decide +kernel
theorem dX11_follows_181 : decode cX11_follows 181 = .ok (.iload_n 3, 1) := by decide +kernel
theorem dX11_follows_182 : decode cX11_follows 182 = .ok (.iconst (-1), 1) := by decide +kernel
theorem dX11_follows_183 : decode cX11_follows 183 = .ok (.if_icmp .eq 20, 3) := by decide +kernel
theorem dX11_follows_186 : decode cX11_follows 186 = .ok (.aload_n 0, 1) := by decide +kernel
theorem dX11_follows_187 : decode cX11_follows 187 = .ok (.getfield 65, 3) := by decide +kernel
theorem dX11_follows_190 : decode cX11_follows 190 = .ok (.aload_n 0, 1) := by decide +kernel
theorem dX11_follows_191 : decode cX11_follows 191 = .ok (.getfield 7, 3) := by decide +kernel
theorem dX11_follows_194 : decode cX11_follows 194 = .ok (.iload_n 3, 1) := by decide +kernel
theorem dX11_follows_195 : decode cX11_follows 195 = .ok (.iaload, 1) := by decide +kernel
theorem dX11_follows_196 : decode cX11_follows 196 = .ok (.aload_n 0, 1) := by decide +kernel
theorem dX11_follows_197 : decode cX11_follows 197 = .ok (.getfield 16, 3) := by decide +kernel
theorem dX11_follows_200 : decode cX11_follows 200 = .ok (.iload_n 3, 1) := by decide +kernel
theorem dX11_follows_201 : decode cX11_follows 201 = .ok (.iaload, 1) := by decide +kernel
theorem dX11_follows_202 : decode cX11_follows 202 = .ok (.iastore, 1) := by decide +kernel
theorem dX11_follows_203 : decode cX11_follows 203 = .ok (.aload_n 0, 1) := by decide +kernel
theorem dX11_follows_204 : decode cX11_follows 204 = .ok (.invokevirtual 133, 3) := by decide +kernel
theorem dX11_follows_207 : decode cX11_follows 207 = .ok (.ifCond .eq 14, 3) := by decide +kernel
theorem dX11_follows_210 : decode cX11_follows 210 = .ok (.aload_n 0, 1) := by decide +kernel
theorem dX11_follows_211 : decode cX11_follows 211 = .ok (.invokevirtual 146, 3) := by decide +kernel
theorem dX11_follows_214 : decode cX11_follows 214 = .ok (.ifCond .eq 7, 3) := by decide +kernel
theorem dX11_follows_217 : decode cX11_follows 217 = .ok (.iconst 1, 1) := by decide +kernel
theorem dX11_follows_218 : decode cX11_follows 218 = .ok (.goto 4, 3) := by decide +kernel
theorem dX11_follows_221 : decode cX11_follows 221 = .ok (.iconst 0, 1) := by decide +kernel
theorem dX11_follows_222 : decode cX11_follows 222 = .ok (.ireturn, 1) := by decide +kernel
theorem dX11_explore_0 : decode cX11_explore 0 = .ok (.iload_n 1, 1) := by decide +kernel
theorem dX11_explore_1 : decode cX11_explore 1 = .ok (.iconst 1, 1) := by decide +kernel
theorem dX11_explore_2 : decode cX11_explore 2 = .ok (.bipush 120, 2) := by decide +kernel
theorem dX11_explore_4 : decode cX11_explore 4 = .ok (.invokestatic 86, 3) := by decide +kernel
theorem dX11_explore_7 : decode cX11_explore 7 = .ok (.ifCond .ne 6, 3) := by decide +kernel
theorem dX11_explore_10 : decode cX11_explore 10 = .ok (.bipush (-102), 2) := by decide +kernel
theorem dX11_explore_12 : decode cX11_explore 12 = .ok (.ireturn, 1) := by decide +kernel
theorem dX11_explore_13 : decode cX11_explore 13 = .ok (.aload_n 0, 1) := by decide +kernel
theorem dX11_explore_14 : decode cX11_explore 14 = .ok (.getfield 149, 3) := by decide +kernel
theorem dX11_explore_17 : decode cX11_explore 17 = .ok (.bipush 40, 2) := by decide +kernel
theorem dX11_explore_19 : decode cX11_explore 19 = .ok (.if_icmp .ne 6, 3) := by decide +kernel
theorem dX11_explore_22 : decode cX11_explore 22 = .ok (.bipush (-104), 2) := by decide +kernel
theorem dX11_explore_24 : decode cX11_explore 24 = .ok (.ireturn, 1) := by decide +kernel
theorem dX11_explore_25 : decode cX11_explore 25 = .ok (.aload_n 0, 1) := by decide +kernel
theorem dX11_explore_26 : decode cX11_explore 26 = .ok (.dup, 1) := by decide +kernel
theorem dX11_explore_27 : decode cX11_explore 27 = .ok (.getfield 149, 3) := by decide +kernel
theorem dX11_explore_30 : decode cX11_explore 30 = .ok (.iconst 1, 1) := by decide +kernel
theorem dX11_explore_31 : decode cX11_explore 31 = .ok (.iadd, 1) := by decide +kernel
theorem dX11_explore_32 : decode cX11_explore 32 = .ok (.putfield 149, 3) := by decide +kernel
theorem dX11_explore_35 : decode cX11_explore 35 = .ok (.aload_n 0, 1) := by decide +kernel
theorem dX11_explore_36 : decode cX11_explore 36 = .ok (.iconst 0, 1) := by decide +kernel
theorem dX11_explore_37 : decode cX11_explore 37 = .ok (.putfield 37, 3) := by decide +kernel
theorem dX11_explore_40 : decode cX11_explore 40 = .ok (.aload_n 0, 1) := by decide +kernel
theorem dX11_explore_41 : decode cX11_explore 41 = .ok (.iconst 0, 1) := by decide +kernel
theorem dX11_explore_42 : decode cX11_explore 42 = .ok (.putfield 94, 3) := by decide +kernel
theorem dX11_explore_45 : decode cX11_explore 45 = .ok (.iconst 0, 1) := by decide +kernel
theorem dX11_explore_46 : decode cX11_explore 46 = .ok (.istore_n 2, 1) := by decide +kernel
theorem dX11_explore_47 : decode cX11_explore 47 = .ok (.iload_n 2, 1) := by decide +kernel
theorem dX11_explore_48 : decode cX11_explore 48 = .ok (.iconst 3, 1) := by decide +kernel
theorem dX11_explore_49 : decode cX11_explore 49 = .ok (.if_icmp .ge 16, 3) := by decide +kernel
theorem dX11_explore_52 : decode cX11_explore 52 = .ok (.aload_n 0, 1) := by decide +kernel
theorem dX11_explore_53 : decode cX11_explore 53 = .ok (.getfield 65, 3) := by decide +kernel
theorem dX11_explore_56 : decode cX11_explore 56 = .ok (.iload_n 2, 1) := by decide +kernel
theorem dX11_explore_57 : decode cX11_explore 57 = .ok (.iconst 0, 1) := by decide +kernel
theorem dX11_explore_58 : decode cX11_explore 58 = .ok (.iastore, 1) := by decide +kernel
theorem dX11_explore_59 : decode cX11_explore 59 = .ok (.iinc 2 1, 3) := by decide +kernel
theorem dX11_explore_62 : decode cX11_explore 62 = .ok (.goto (-15), 3) := by decide +kernel
theorem dX11_explore_65 : decode cX11_explore 65 = .ok (.iconst 0, 1) := by decide +kernel
theorem dX11_explore_66 : decode cX11_explore 66 = .ok (.istore_n 2, 1) := by decide +kernel
theorem dX11_explore_67 : decode cX11_explore 67 = .ok (.iload_n 2, 1) := by decide +kernel
theorem dX11_explore_68 : decode cX11_explore 68 = .ok (.bipush 16, 2) := by decide +kernel
theorem dX11_explore_70 : decode cX11_explore 70 = .ok (.if_icmp .ge 16, 3) := by decide +kernel
theorem dX11_explore_73 : decode cX11_explore 73 = .ok (.aload_n 0, 1) := by decide +kernel
theorem dX11_explore_74 : decode cX11_explore 74 = .ok (.getfield 59, 3) := by decide +kernel
theorem dX11_explore_77 : decode cX11_explore 77 = .ok (.iload_n 2, 1) := by decide +kernel
theorem dX11_explore_78 : decode cX11_explore 78 = .ok (.iconst 1, 1) := by decide +kernel
theorem dX11_explore_79 : decode cX11_explore 79 = .ok (.iastore, 1) := by decide +kernel
theorem dX11_explore_80 : decode cX11_explore 80 = .ok (.iinc 2 1, 3) := by decide +kernel
theorem dX11_explore_83 : decode cX11_explore 83 = .ok (.goto (-16), 3) := by decide +kernel
theorem dX11_explore_86 : decode cX11_explore 86 = .ok (.aload_n 0, 1) := by decide +kernel
theorem dX11_explore_87 : decode cX11_explore 87 = .ok (.invokevirtual 133, 3) := by decide +kernel
theorem dX11_explore_90 : decode cX11_explore 90 = .ok (.ifCond .eq 17, 3) := by decide +kernel
theorem dX11_explore_93 : decode cX11_explore 93 = .ok (.aload_n 0, 1) := by decide +kernel
theorem dX11_explore_94 : decode cX11_explore 94 = .ok (.invokevirtual 146, 3) := by decide +kernel
theorem dX11_explore_97 : decode cX11_explore 97 = .ok (.ifCond .eq 10, 3) := by decide +kernel
theorem dX11_explore_100 : decode cX11_explore 100 = .ok (.aload_n 0, 1) := by decide +kernel
theorem dX11_explore_101 : decode cX11_explore 101 = .ok (.iconst (-1), 1) := by decide +kernel
theorem dX11_explore_102 : decode cX11_explore 102 = .ok (.iconst (-1), 1) := by decide +kernel
theorem dX11_explore_103 : decode cX11_explore 103 = .ok (.iconst (-1), 1) := by decide +kernel
theorem dX11_explore_104 : decode cX11_explore 104 = .ok (.invokevirtual 152, 3) := by decide +kernel
theorem dX11_explore_107 : decode cX11_explore 107 = .ok (.iconst 0, 1) := by decide +kernel
theorem dX11_explore_108 : decode cX11_explore 108 = .ok (.istore_n 2, 1) := by decide +kernel
theorem dX11_explore_109 : decode cX11_explore 109 = .ok (.iload_n 2, 1) := by decide +kernel
theorem dX11_explore_110 : decode cX11_explore 110 = .ok (.aload_n 0, 1) := by decide +kernel
theorem dX11_explore_111 : decode cX11_explore 111 = .ok (.getfield 94, 3) := by decide +kernel
theorem dX11_explore_114 : decode cX11_explore 114 = .ok (.if_icmp .ge 102, 3) := by decide +kernel
theorem dX11_explore_117 : decode cX11_explore 117 = .ok (.iconst 0, 1) := by decide +kernel
theorem dX11_explore_118 : decode cX11_explore 118 = .ok (.istore_n 3, 1) := by decide +kernel
theorem dX11_explore_119 : decode cX11_explore 119 = .ok (.iload_n 3, 1) := by decide +kernel
theorem dX11_explore_120 : decode cX11_explore 120 = .ok (.aload_n 0, 1) := by decide +kernel
theorem dX11_explore_121 : decode cX11_explore 121 = .ok (.getfield 90, 3) := by decide +kernel
theorem dX11_explore_124 : decode cX11_explore 124 = .ok (.if_icmp .ge 86, 3) := by decide +kernel
theorem dX11_explore_127 : decode cX11_explore 127 = .ok (.aload_n 0, 1) := by decide +kernel
theorem dX11_explore_128 : decode cX11_explore 128 = .ok (.getfield 56, 3) := by decide +kernel
theorem dX11_explore_131 : decode cX11_explore 131 = .ok (.iload_n 2, 1) := by decide +kernel
theorem dX11_explore_132 : decode cX11_explore 132 = .ok (.iaload, 1) := by decide +kernel
theorem dX11_explore_133 : decode cX11_explore 133 = .ok (.bipush 40, 2) := by decide +kernel
theorem dX11_explore_135 : decode cX11_explore 135 = .ok (.if_icmp .ge 75, 3) := by decide +kernel
theorem dX11_explore_138 : decode cX11_explore 138 = .ok (.iconst (-1), 1) := by decide +kernel
theorem dX11_explore_139 : decode cX11_explore 139 = .ok (.istore 4, 2) := by decide +kernel
theorem dX11_explore_141 : decode cX11_explore 141 = .ok (.iload 4, 2) := by decide +kernel
theorem dX11_explore_143 : decode cX11_explore 143 = .ok (.aload_n 0, 1) := by decide +kernel
theorem dX11_explore_144 : decode cX11_explore 144 = .ok (.getfield 90, 3) := by decide +kernel
theorem dX11_explore_147 : decode cX11_explore 147 = .ok (.if_icmp .ge 57, 3) := by decide +kernel
theorem dX11_explore_150 : decode cX11_explore 150 = .ok (.aload_n 0, 1) := by decide +kernel
theorem dX11_explore_151 : decode cX11_explore 151 = .ok (.iload_n 3, 1) := by decide +kernel
theorem dX11_explore_152 : decode cX11_explore 152 = .ok (.iload 4, 2) := by decide +kernel
theorem dX11_explore_154 : decode cX11_explore 154 = .ok (.invokevirtual 155, 3) := by decide +kernel
theorem dX11_explore_157 : decode cX11_explore 157 = .ok (.ifCond .eq 41, 3) := by decide +kernel
theorem dX11_explore_160 : decode cX11_explore 160 = .ok (.aload_n 0, 1) := by decide +kernel
theorem dX11_explore_161 : decode cX11_explore 161 = .ok (.iload_n 2, 1) := by decide +kernel
theorem dX11_explore_162 : decode cX11_explore 162 = .ok (.iload_n 3, 1) := by decide +kernel
theorem dX11_explore_163 : decode cX11_explore 163 = .ok (.iload 4, 2) := by decide +kernel
theorem dX11_explore_165 : decode cX11_explore 165 = .ok (.invokevirtual 159, 3) := by decide +kernel
theorem dX11_explore_168 : decode cX11_explore 168 = .ok (.ifCond .eq 30, 3) := by decide +kernel
theorem dX11_explore_171 : decode cX11_explore 171 = .ok (.aload_n 0, 1) := by decide +kernel
theorem dX11_explore_172 : decode cX11_explore 172 = .ok (.invokevirtual 162, 3) := by decide +kernel
theorem dX11_explore_175 : decode cX11_explore 175 = .ok (.ifCond .ne 23, 3) := by decide +kernel
theorem dX11_explore_178 : decode cX11_explore 178 = .ok (.aload_n 0, 1) := by decide +kernel
theorem dX11_explore_179 : decode cX11_explore 179 = .ok (.getfield 94, 3) := by decide +kernel
theorem dX11_explore_182 : decode cX11_explore 182 = .ok (.iload_n 1, 1) := by decide +kernel
theorem dX11_explore_183 : decode cX11_explore 183 = .ok (.if_icmp .ne 7, 3) := by decide +kernel
theorem dX11_explore_186 : decode cX11_explore 186 = .ok (.iconst (-1), 1) := by decide +kernel
theorem dX11_explore_187 : decode cX11_explore 187 = .ok (.iload_n 1, 1) := by decide +kernel
theorem dX11_explore_188 : decode cX11_explore 188 = .ok (.isub, 1) := by decide +kernel
theorem dX11_explore_189 : decode cX11_explore 189 = .ok (.ireturn, 1) := by decide +kernel
theorem dX11_explore_190 : decode cX11_explore 190 = .ok (.aload_n 0, 1) := by decide +kernel
theorem dX11_explore_191 : decode cX11_explore 191 = .ok (.iload_n 2, 1) := by decide +kernel
theorem dX11_explore_192 : decode cX11_explore 192 = .ok (.iload_n 3, 1) := by decide +kernel
theorem dX11_explore_193 : decode cX11_explore 193 = .ok (.iload 4, 2) := by decide +kernel
theorem dX11_explore_195 : decode cX11_explore 195 = .ok (.invokevirtual 152, 3) := by decide +kernel
theorem dX11_explore_198 : decode cX11_explore 198 = .ok (.iinc 4 1, 3) := by decide +kernel
theorem dX11_explore_201 : decode cX11_explore 201 = .ok (.goto (-60), 3) := by decide +kernel
theorem dX11_explore_204 : decode cX11_explore 204 = .ok (.iinc 3 1, 3) := by decide +kernel
theorem dX11_explore_207 : decode cX11_explore 207 = .ok (.goto (-88), 3) := by decide +kernel
theorem dX11_explore_210 : decode cX11_explore 210 = .ok (.iinc 2 1, 3) := by decide +kernel
theorem dX11_explore_213 : decode cX11_explore 213 = .ok (.goto (-104), 3) := by decide +kernel
theorem dX11_explore_216 : decode cX11_explore 216 = .ok (.aload_n 0, 1) := by decide +kernel
theorem dX11_explore_217 : decode cX11_explore 217 = .ok (.getfield 94, 3) := by decide +kernel
theorem dX11_explore_220 : decode cX11_explore 220 = .ok (.ireturn, 1) := by decide +kernel
theorem dX11_isState_0 : decode cX11_isState 0 = .ok (.iload_n 1, 1) := by decide +kernel
theorem dX11_isState_1 : decode cX11_isState 1 = .ok (.iconst 0, 1) := by decide +kernel
theorem dX11_isState_2 : decode cX11_isState 2 = .ok (.aload_n 0, 1) := by decide +kernel
theorem dX11_isState_3 : decode cX11_isState 3 = .ok (.getfield 94, 3) := by decide +kernel
theorem dX11_isState_6 : decode cX11_isState 6 = .ok (.iconst 1, 1) := by decide +kernel
theorem dX11_isState_7 : decode cX11_isState 7 = .ok (.isub, 1) := by decide +kernel
theorem dX11_isState_8 : decode cX11_isState 8 = .ok (.invokestatic 86, 3) := by decide +kernel
theorem dX11_isState_11 : decode cX11_isState 11 = .ok (.ireturn, 1) := by decide +kernel
theorem dX11_state_0 : decode cX11_state 0 = .ok (.aload_n 0, 1) := by decide +kernel
theorem dX11_state_1 : decode cX11_state 1 = .ok (.getfield 37, 3) := by decide +kernel
theorem dX11_state_4 : decode cX11_state 4 = .ok (.ifCond .eq 6, 3) := by decide +kernel
theorem dX11_state_7 : decode cX11_state 7 = .ok (.bipush (-103), 2) := by decide +kernel
theorem dX11_state_9 : decode cX11_state 9 = .ok (.ireturn, 1) := by decide +kernel
theorem dX11_state_10 : decode cX11_state 10 = .ok (.aload_n 0, 1) := by decide +kernel
theorem dX11_state_11 : decode cX11_state 11 = .ok (.iload_n 1, 1) := by decide +kernel
theorem dX11_state_12 : decode cX11_state 12 = .ok (.invokevirtual 165, 3) := by decide +kernel
theorem dX11_state_15 : decode cX11_state 15 = .ok (.ifCond .ne 6, 3) := by decide +kernel
theorem dX11_state_18 : decode cX11_state 18 = .ok (.bipush (-101), 2) := by decide +kernel
theorem dX11_state_20 : decode cX11_state 20 = .ok (.ireturn, 1) := by decide +kernel
theorem dX11_state_21 : decode cX11_state 21 = .ok (.iload_n 2, 1) := by decide +kernel
theorem dX11_state_22 : decode cX11_state 22 = .ok (.iconst 0, 1) := by decide +kernel
theorem dX11_state_23 : decode cX11_state 23 = .ok (.bipush 6, 2) := by decide +kernel
theorem dX11_state_25 : decode cX11_state 25 = .ok (.invokestatic 86, 3) := by decide +kernel
theorem dX11_state_28 : decode cX11_state 28 = .ok (.ifCond .eq 12, 3) := by decide +kernel
theorem dX11_state_31 : decode cX11_state 31 = .ok (.aload_n 0, 1) := by decide +kernel
theorem dX11_state_32 : decode cX11_state 32 = .ok (.iload_n 1, 1) := by decide +kernel
theorem dX11_state_33 : decode cX11_state 33 = .ok (.iload_n 2, 1) := by decide +kernel
theorem dX11_state_34 : decode cX11_state 34 = .ok (.invokevirtual 168, 3) := by decide +kernel
theorem dX11_state_37 : decode cX11_state 37 = .ok (.goto 5, 3) := by decide +kernel
theorem dX11_state_40 : decode cX11_state 40 = .ok (.bipush (-102), 2) := by decide +kernel
theorem dX11_state_42 : decode cX11_state 42 = .ok (.ireturn, 1) := by decide +kernel
theorem dX11_tells_0 : decode cX11_tells 0 = .ok (.iload_n 2, 1) := by decide +kernel
theorem dX11_tells_1 : decode cX11_tells 1 = .ok (.iconst 3, 1) := by decide +kernel
theorem dX11_tells_2 : decode cX11_tells 2 = .ok (.if_icmp .ge 16, 3) := by decide +kernel
theorem dX11_tells_5 : decode cX11_tells 5 = .ok (.aload_n 0, 1) := by decide +kernel
theorem dX11_tells_6 : decode cX11_tells 6 = .ok (.getfield 41, 3) := by decide +kernel
theorem dX11_tells_9 : decode cX11_tells 9 = .ok (.iconst 3, 1) := by decide +kernel
theorem dX11_tells_10 : decode cX11_tells 10 = .ok (.iload_n 1, 1) := by decide +kernel
theorem dX11_tells_11 : decode cX11_tells 11 = .ok (.imul, 1) := by decide +kernel
theorem dX11_tells_12 : decode cX11_tells 12 = .ok (.iload_n 2, 1) := by decide +kernel
theorem dX11_tells_13 : decode cX11_tells 13 = .ok (.iadd, 1) := by decide +kernel
theorem dX11_tells_14 : decode cX11_tells 14 = .ok (.iaload, 1) := by decide +kernel
theorem dX11_tells_15 : decode cX11_tells 15 = .ok (.goto 51, 3) := by decide +kernel
theorem dX11_tells_18 : decode cX11_tells 18 = .ok (.iload_n 2, 1) := by decide +kernel
theorem dX11_tells_19 : decode cX11_tells 19 = .ok (.iconst 3, 1) := by decide +kernel
theorem dX11_tells_20 : decode cX11_tells 20 = .ok (.if_icmp .ne 12, 3) := by decide +kernel
theorem dX11_tells_23 : decode cX11_tells 23 = .ok (.aload_n 0, 1) := by decide +kernel
theorem dX11_tells_24 : decode cX11_tells 24 = .ok (.getfield 47, 3) := by decide +kernel
theorem dX11_tells_27 : decode cX11_tells 27 = .ok (.iload_n 1, 1) := by decide +kernel
theorem dX11_tells_28 : decode cX11_tells 28 = .ok (.iaload, 1) := by decide +kernel
theorem dX11_tells_29 : decode cX11_tells 29 = .ok (.goto 37, 3) := by decide +kernel
theorem dX11_tells_32 : decode cX11_tells 32 = .ok (.iload_n 2, 1) := by decide +kernel
theorem dX11_tells_33 : decode cX11_tells 33 = .ok (.iconst 4, 1) := by decide +kernel
theorem dX11_tells_34 : decode cX11_tells 34 = .ok (.if_icmp .ne 12, 3) := by decide +kernel
theorem dX11_tells_37 : decode cX11_tells 37 = .ok (.aload_n 0, 1) := by decide +kernel
theorem dX11_tells_38 : decode cX11_tells 38 = .ok (.getfield 50, 3) := by decide +kernel
theorem dX11_tells_41 : decode cX11_tells 41 = .ok (.iload_n 1, 1) := by decide +kernel
theorem dX11_tells_42 : decode cX11_tells 42 = .ok (.iaload, 1) := by decide +kernel
theorem dX11_tells_43 : decode cX11_tells 43 = .ok (.goto 23, 3) := by decide +kernel
theorem dX11_tells_46 : decode cX11_tells 46 = .ok (.iload_n 2, 1) := by decide +kernel
theorem dX11_tells_47 : decode cX11_tells 47 = .ok (.iconst 5, 1) := by decide +kernel
theorem dX11_tells_48 : decode cX11_tells 48 = .ok (.if_icmp .ne 12, 3) := by decide +kernel
theorem dX11_tells_51 : decode cX11_tells 51 = .ok (.aload_n 0, 1) := by decide +kernel
theorem dX11_tells_52 : decode cX11_tells 52 = .ok (.getfield 53, 3) := by decide +kernel
theorem dX11_tells_55 : decode cX11_tells 55 = .ok (.iload_n 1, 1) := by decide +kernel
theorem dX11_tells_56 : decode cX11_tells 56 = .ok (.iaload, 1) := by decide +kernel
theorem dX11_tells_57 : decode cX11_tells 57 = .ok (.goto 9, 3) := by decide +kernel
theorem dX11_tells_60 : decode cX11_tells 60 = .ok (.aload_n 0, 1) := by decide +kernel
theorem dX11_tells_61 : decode cX11_tells 61 = .ok (.getfield 56, 3) := by decide +kernel
theorem dX11_tells_64 : decode cX11_tells 64 = .ok (.iload_n 1, 1) := by decide +kernel
theorem dX11_tells_65 : decode cX11_tells 65 = .ok (.iaload, 1) := by decide +kernel
theorem dX11_tells_66 : decode cX11_tells 66 = .ok (.ireturn, 1) := by decide +kernel
theorem dX11_bound_0 : decode cX11_bound 0 = .ok (.aload_n 0, 1) := by decide +kernel
theorem dX11_bound_1 : decode cX11_bound 1 = .ok (.getfield 37, 3) := by decide +kernel
theorem dX11_bound_4 : decode cX11_bound 4 = .ok (.ifCond .eq 6, 3) := by decide +kernel
theorem dX11_bound_7 : decode cX11_bound 7 = .ok (.ldc 171, 2) := by decide +kernel
theorem dX11_bound_9 : decode cX11_bound 9 = .ok (.ireturn, 1) := by decide +kernel
theorem dX11_bound_10 : decode cX11_bound 10 = .ok (.aload_n 0, 1) := by decide +kernel
theorem dX11_bound_11 : decode cX11_bound 11 = .ok (.iload_n 1, 1) := by decide +kernel
theorem dX11_bound_12 : decode cX11_bound 12 = .ok (.invokevirtual 165, 3) := by decide +kernel
theorem dX11_bound_15 : decode cX11_bound 15 = .ok (.ifCond .eq 21, 3) := by decide +kernel
theorem dX11_bound_18 : decode cX11_bound 18 = .ok (.iload_n 2, 1) := by decide +kernel
theorem dX11_bound_19 : decode cX11_bound 19 = .ok (.iconst 0, 1) := by decide +kernel
theorem dX11_bound_20 : decode cX11_bound 20 = .ok (.iconst 3, 1) := by decide +kernel
theorem dX11_bound_21 : decode cX11_bound 21 = .ok (.invokestatic 86, 3) := by decide +kernel
theorem dX11_bound_24 : decode cX11_bound 24 = .ok (.ifCond .eq 12, 3) := by decide +kernel
theorem dX11_bound_27 : decode cX11_bound 27 = .ok (.iload_n 3, 1) := by decide +kernel
theorem dX11_bound_28 : decode cX11_bound 28 = .ok (.iconst 0, 1) := by decide +kernel
theorem dX11_bound_29 : decode cX11_bound 29 = .ok (.iconst 3, 1) := by decide +kernel
theorem dX11_bound_30 : decode cX11_bound 30 = .ok (.invokestatic 86, 3) := by decide +kernel
theorem dX11_bound_33 : decode cX11_bound 33 = .ok (.ifCond .ne 6, 3) := by decide +kernel
theorem dX11_bound_36 : decode cX11_bound 36 = .ok (.ldc 172, 2) := by decide +kernel
theorem dX11_bound_38 : decode cX11_bound 38 = .ok (.ireturn, 1) := by decide +kernel
theorem dX11_bound_39 : decode cX11_bound 39 = .ok (.aload_n 0, 1) := by decide +kernel
theorem dX11_bound_40 : decode cX11_bound 40 = .ok (.getfield 44, 3) := by decide +kernel
theorem dX11_bound_43 : decode cX11_bound 43 = .ok (.bipush 16, 2) := by decide +kernel
theorem dX11_bound_45 : decode cX11_bound 45 = .ok (.iload_n 1, 1) := by decide +kernel
theorem dX11_bound_46 : decode cX11_bound 46 = .ok (.imul, 1) := by decide +kernel
theorem dX11_bound_47 : decode cX11_bound 47 = .ok (.iconst 4, 1) := by decide +kernel
theorem dX11_bound_48 : decode cX11_bound 48 = .ok (.iload_n 2, 1) := by decide +kernel
theorem dX11_bound_49 : decode cX11_bound 49 = .ok (.imul, 1) := by decide +kernel
theorem dX11_bound_50 : decode cX11_bound 50 = .ok (.iadd, 1) := by decide +kernel
theorem dX11_bound_51 : decode cX11_bound 51 = .ok (.iload_n 3, 1) := by decide +kernel
theorem dX11_bound_52 : decode cX11_bound 52 = .ok (.iadd, 1) := by decide +kernel
theorem dX11_bound_53 : decode cX11_bound 53 = .ok (.iaload, 1) := by decide +kernel
theorem dX11_bound_54 : decode cX11_bound 54 = .ok (.ireturn, 1) := by decide +kernel
theorem dX11_reach_0 : decode cX11_reach 0 = .ok (.aload_n 0, 1) := by decide +kernel
theorem dX11_reach_1 : decode cX11_reach 1 = .ok (.getfield 37, 3) := by decide +kernel
theorem dX11_reach_4 : decode cX11_reach 4 = .ok (.ifCond .eq 6, 3) := by decide +kernel
theorem dX11_reach_7 : decode cX11_reach 7 = .ok (.bipush (-103), 2) := by decide +kernel
theorem dX11_reach_9 : decode cX11_reach 9 = .ok (.ireturn, 1) := by decide +kernel
theorem dX11_reach_10 : decode cX11_reach 10 = .ok (.iload_n 1, 1) := by decide +kernel
theorem dX11_reach_11 : decode cX11_reach 11 = .ok (.iconst (-1), 1) := by decide +kernel
theorem dX11_reach_12 : decode cX11_reach 12 = .ok (.iconst 5, 1) := by decide +kernel
theorem dX11_reach_13 : decode cX11_reach 13 = .ok (.invokestatic 86, 3) := by decide +kernel
theorem dX11_reach_16 : decode cX11_reach 16 = .ok (.ifCond .eq 21, 3) := by decide +kernel
theorem dX11_reach_19 : decode cX11_reach 19 = .ok (.iload_n 2, 1) := by decide +kernel
theorem dX11_reach_20 : decode cX11_reach 20 = .ok (.iconst (-1), 1) := by decide +kernel
theorem dX11_reach_21 : decode cX11_reach 21 = .ok (.iconst 5, 1) := by decide +kernel
theorem dX11_reach_22 : decode cX11_reach 22 = .ok (.invokestatic 86, 3) := by decide +kernel
theorem dX11_reach_25 : decode cX11_reach 25 = .ok (.ifCond .eq 12, 3) := by decide +kernel
theorem dX11_reach_28 : decode cX11_reach 28 = .ok (.iload_n 3, 1) := by decide +kernel
theorem dX11_reach_29 : decode cX11_reach 29 = .ok (.iconst (-1), 1) := by decide +kernel
theorem dX11_reach_30 : decode cX11_reach 30 = .ok (.iconst 5, 1) := by decide +kernel
theorem dX11_reach_31 : decode cX11_reach 31 = .ok (.invokestatic 86, 3) := by decide +kernel
theorem dX11_reach_34 : decode cX11_reach 34 = .ok (.ifCond .ne 6, 3) := by decide +kernel
theorem dX11_reach_37 : decode cX11_reach 37 = .ok (.bipush (-102), 2) := by decide +kernel
theorem dX11_reach_39 : decode cX11_reach 39 = .ok (.ireturn, 1) := by decide +kernel
theorem dX11_reach_40 : decode cX11_reach 40 = .ok (.iconst 0, 1) := by decide +kernel
theorem dX11_reach_41 : decode cX11_reach 41 = .ok (.istore 4, 2) := by decide +kernel
theorem dX11_reach_43 : decode cX11_reach 43 = .ok (.iload 4, 2) := by decide +kernel
theorem dX11_reach_45 : decode cX11_reach 45 = .ok (.aload_n 0, 1) := by decide +kernel
theorem dX11_reach_46 : decode cX11_reach 46 = .ok (.getfield 94, 3) := by decide +kernel
theorem dX11_reach_49 : decode cX11_reach 49 = .ok (.if_icmp .ge 67, 3) := by decide +kernel
theorem dX11_reach_52 : decode cX11_reach 52 = .ok (.iload_n 1, 1) := by decide +kernel
theorem dX11_reach_53 : decode cX11_reach 53 = .ok (.ifCond .lt 16, 3) := by decide +kernel
theorem dX11_reach_56 : decode cX11_reach 56 = .ok (.aload_n 0, 1) := by decide +kernel
theorem dX11_reach_57 : decode cX11_reach 57 = .ok (.getfield 41, 3) := by decide +kernel
theorem dX11_reach_60 : decode cX11_reach 60 = .ok (.iconst 3, 1) := by decide +kernel
theorem dX11_reach_61 : decode cX11_reach 61 = .ok (.iload 4, 2) := by decide +kernel
theorem dX11_reach_63 : decode cX11_reach 63 = .ok (.imul, 1) := by decide +kernel
theorem dX11_reach_64 : decode cX11_reach 64 = .ok (.iaload, 1) := by decide +kernel
theorem dX11_reach_65 : decode cX11_reach 65 = .ok (.iload_n 1, 1) := by decide +kernel
theorem dX11_reach_66 : decode cX11_reach 66 = .ok (.if_icmp .ne 44, 3) := by decide +kernel
theorem dX11_reach_69 : decode cX11_reach 69 = .ok (.iload_n 2, 1) := by decide +kernel
theorem dX11_reach_70 : decode cX11_reach 70 = .ok (.ifCond .lt 18, 3) := by decide +kernel
theorem dX11_reach_73 : decode cX11_reach 73 = .ok (.aload_n 0, 1) := by decide +kernel
theorem dX11_reach_74 : decode cX11_reach 74 = .ok (.getfield 41, 3) := by decide +kernel
theorem dX11_reach_77 : decode cX11_reach 77 = .ok (.iconst 3, 1) := by decide +kernel
theorem dX11_reach_78 : decode cX11_reach 78 = .ok (.iload 4, 2) := by decide +kernel
theorem dX11_reach_80 : decode cX11_reach 80 = .ok (.imul, 1) := by decide +kernel
theorem dX11_reach_81 : decode cX11_reach 81 = .ok (.iconst 1, 1) := by decide +kernel
theorem dX11_reach_82 : decode cX11_reach 82 = .ok (.iadd, 1) := by decide +kernel
theorem dX11_reach_83 : decode cX11_reach 83 = .ok (.iaload, 1) := by decide +kernel
theorem dX11_reach_84 : decode cX11_reach 84 = .ok (.iload_n 2, 1) := by decide +kernel
theorem dX11_reach_85 : decode cX11_reach 85 = .ok (.if_icmp .ne 25, 3) := by decide +kernel
theorem dX11_reach_88 : decode cX11_reach 88 = .ok (.iload_n 3, 1) := by decide +kernel
theorem dX11_reach_89 : decode cX11_reach 89 = .ok (.ifCond .lt 18, 3) := by decide +kernel
theorem dX11_reach_92 : decode cX11_reach 92 = .ok (.aload_n 0, 1) := by decide +kernel
theorem dX11_reach_93 : decode cX11_reach 93 = .ok (.getfield 41, 3) := by decide +kernel
theorem dX11_reach_96 : decode cX11_reach 96 = .ok (.iconst 3, 1) := by decide +kernel
theorem dX11_reach_97 : decode cX11_reach 97 = .ok (.iload 4, 2) := by decide +kernel
theorem dX11_reach_99 : decode cX11_reach 99 = .ok (.imul, 1) := by decide +kernel
theorem dX11_reach_100 : decode cX11_reach 100 = .ok (.iconst 2, 1) := by decide +kernel
theorem dX11_reach_101 : decode cX11_reach 101 = .ok (.iadd, 1) := by decide +kernel
theorem dX11_reach_102 : decode cX11_reach 102 = .ok (.iaload, 1) := by decide +kernel
theorem dX11_reach_103 : decode cX11_reach 103 = .ok (.iload_n 3, 1) := by decide +kernel
theorem dX11_reach_104 : decode cX11_reach 104 = .ok (.if_icmp .ne 6, 3) := by decide +kernel
theorem dX11_reach_107 : decode cX11_reach 107 = .ok (.iload 4, 2) := by decide +kernel
theorem dX11_reach_109 : decode cX11_reach 109 = .ok (.ireturn, 1) := by decide +kernel
theorem dX11_reach_110 : decode cX11_reach 110 = .ok (.iinc 4 1, 3) := by decide +kernel
theorem dX11_reach_113 : decode cX11_reach 113 = .ok (.goto (-70), 3) := by decide +kernel
theorem dX11_reach_116 : decode cX11_reach 116 = .ok (.iconst (-1), 1) := by decide +kernel
theorem dX11_reach_117 : decode cX11_reach 117 = .ok (.ireturn, 1) := by decide +kernel
theorem dX11_holds_0 : decode cX11_holds 0 = .ok (.iconst 1, 1) := by decide +kernel
theorem dX11_holds_1 : decode cX11_holds 1 = .ok (.istore_n 2, 1) := by decide +kernel
theorem dX11_holds_2 : decode cX11_holds 2 = .ok (.iconst 0, 1) := by decide +kernel
theorem dX11_holds_3 : decode cX11_holds 3 = .ok (.istore_n 3, 1) := by decide +kernel
theorem dX11_holds_4 : decode cX11_holds 4 = .ok (.iload_n 3, 1) := by decide +kernel
theorem dX11_holds_5 : decode cX11_holds 5 = .ok (.iconst 4, 1) := by decide +kernel
theorem dX11_holds_6 : decode cX11_holds 6 = .ok (.if_icmp .ge 101, 3) := by decide +kernel
theorem dX11_holds_9 : decode cX11_holds 9 = .ok (.iconst 0, 1) := by decide +kernel
theorem dX11_holds_10 : decode cX11_holds 10 = .ok (.istore 4, 2) := by decide +kernel
theorem dX11_holds_12 : decode cX11_holds 12 = .ok (.iload 4, 2) := by decide +kernel
theorem dX11_holds_14 : decode cX11_holds 14 = .ok (.iconst 4, 1) := by decide +kernel
theorem dX11_holds_15 : decode cX11_holds 15 = .ok (.if_icmp .ge 86, 3) := by decide +kernel
theorem dX11_holds_18 : decode cX11_holds 18 = .ok (.aload_n 0, 1) := by decide +kernel
theorem dX11_holds_19 : decode cX11_holds 19 = .ok (.getfield 44, 3) := by decide +kernel
theorem dX11_holds_22 : decode cX11_holds 22 = .ok (.bipush 16, 2) := by decide +kernel
theorem dX11_holds_24 : decode cX11_holds 24 = .ok (.iload_n 1, 1) := by decide +kernel
theorem dX11_holds_25 : decode cX11_holds 25 = .ok (.imul, 1) := by decide +kernel
theorem dX11_holds_26 : decode cX11_holds 26 = .ok (.iconst 4, 1) := by decide +kernel
theorem dX11_holds_27 : decode cX11_holds 27 = .ok (.iload_n 3, 1) := by decide +kernel
theorem dX11_holds_28 : decode cX11_holds 28 = .ok (.imul, 1) := by decide +kernel
theorem dX11_holds_29 : decode cX11_holds 29 = .ok (.iadd, 1) := by decide +kernel
theorem dX11_holds_30 : decode cX11_holds 30 = .ok (.iload 4, 2) := by decide +kernel
theorem dX11_holds_32 : decode cX11_holds 32 = .ok (.iadd, 1) := by decide +kernel
theorem dX11_holds_33 : decode cX11_holds 33 = .ok (.iaload, 1) := by decide +kernel
theorem dX11_holds_34 : decode cX11_holds 34 = .ok (.istore 5, 2) := by decide +kernel
theorem dX11_holds_36 : decode cX11_holds 36 = .ok (.aload_n 0, 1) := by decide +kernel
theorem dX11_holds_37 : decode cX11_holds 37 = .ok (.getfield 68, 3) := by decide +kernel
theorem dX11_holds_40 : decode cX11_holds 40 = .ok (.iload_n 3, 1) := by decide +kernel
theorem dX11_holds_41 : decode cX11_holds 41 = .ok (.iaload, 1) := by decide +kernel
theorem dX11_holds_42 : decode cX11_holds 42 = .ok (.aload_n 0, 1) := by decide +kernel
theorem dX11_holds_43 : decode cX11_holds 43 = .ok (.getfield 68, 3) := by decide +kernel
theorem dX11_holds_46 : decode cX11_holds 46 = .ok (.iload 4, 2) := by decide +kernel
theorem dX11_holds_48 : decode cX11_holds 48 = .ok (.iaload, 1) := by decide +kernel
theorem dX11_holds_49 : decode cX11_holds 49 = .ok (.isub, 1) := by decide +kernel
theorem dX11_holds_50 : decode cX11_holds 50 = .ok (.bipush 64, 2) := by decide +kernel
theorem dX11_holds_52 : decode cX11_holds 52 = .ok (.iload 5, 2) := by decide +kernel
theorem dX11_holds_54 : decode cX11_holds 54 = .ok (.iconst 1, 1) := by decide +kernel
theorem dX11_holds_55 : decode cX11_holds 55 = .ok (.ishr, 1) := by decide +kernel
theorem dX11_holds_56 : decode cX11_holds 56 = .ok (.imul, 1) := by decide +kernel
theorem dX11_holds_57 : decode cX11_holds 57 = .ok (.isub, 1) := by decide +kernel
theorem dX11_holds_58 : decode cX11_holds 58 = .ok (.istore 6, 2) := by decide +kernel
theorem dX11_holds_60 : decode cX11_holds 60 = .ok (.iload_n 2, 1) := by decide +kernel
theorem dX11_holds_61 : decode cX11_holds 61 = .ok (.ifCond .eq 32, 3) := by decide +kernel
theorem dX11_holds_64 : decode cX11_holds 64 = .ok (.iload 5, 2) := by decide +kernel
theorem dX11_holds_66 : decode cX11_holds 66 = .ok (.ldc 113, 2) := by decide +kernel
theorem dX11_holds_68 : decode cX11_holds 68 = .ok (.if_icmp .eq 21, 3) := by decide +kernel
theorem dX11_holds_71 : decode cX11_holds 71 = .ok (.iload 6, 2) := by decide +kernel
theorem dX11_holds_73 : decode cX11_holds 73 = .ok (.ifCond .lt 16, 3) := by decide +kernel
theorem dX11_holds_76 : decode cX11_holds 76 = .ok (.iload 6, 2) := by decide +kernel
theorem dX11_holds_78 : decode cX11_holds 78 = .ok (.ifCond .ne 15, 3) := by decide +kernel
theorem dX11_holds_81 : decode cX11_holds 81 = .ok (.iload 5, 2) := by decide +kernel
theorem dX11_holds_83 : decode cX11_holds 83 = .ok (.iconst 1, 1) := by decide +kernel
theorem dX11_holds_84 : decode cX11_holds 84 = .ok (.iand, 1) := by decide +kernel
theorem dX11_holds_85 : decode cX11_holds 85 = .ok (.iconst 1, 1) := by decide +kernel
theorem dX11_holds_86 : decode cX11_holds 86 = .ok (.if_icmp .ne 7, 3) := by decide +kernel
theorem dX11_holds_89 : decode cX11_holds 89 = .ok (.iconst 1, 1) := by decide +kernel
theorem dX11_holds_90 : decode cX11_holds 90 = .ok (.goto 4, 3) := by decide +kernel
theorem dX11_holds_93 : decode cX11_holds 93 = .ok (.iconst 0, 1) := by decide +kernel
theorem dX11_holds_94 : decode cX11_holds 94 = .ok (.istore_n 2, 1) := by decide +kernel
theorem dX11_holds_95 : decode cX11_holds 95 = .ok (.iinc 4 1, 3) := by decide +kernel
theorem dX11_holds_98 : decode cX11_holds 98 = .ok (.goto (-86), 3) := by decide +kernel
theorem dX11_holds_101 : decode cX11_holds 101 = .ok (.iinc 3 1, 3) := by decide +kernel
theorem dX11_holds_104 : decode cX11_holds 104 = .ok (.goto (-100), 3) := by decide +kernel
theorem dX11_holds_107 : decode cX11_holds 107 = .ok (.iload_n 2, 1) := by decide +kernel
theorem dX11_holds_108 : decode cX11_holds 108 = .ok (.ireturn, 1) := by decide +kernel
theorem dX11_has_0 : decode cX11_has 0 = .ok (.aload_n 0, 1) := by decide +kernel
theorem dX11_has_1 : decode cX11_has 1 = .ok (.getfield 37, 3) := by decide +kernel
theorem dX11_has_4 : decode cX11_has 4 = .ok (.ifCond .eq 6, 3) := by decide +kernel
theorem dX11_has_7 : decode cX11_has 7 = .ok (.bipush (-103), 2) := by decide +kernel
theorem dX11_has_9 : decode cX11_has 9 = .ok (.ireturn, 1) := by decide +kernel
theorem dX11_has_10 : decode cX11_has 10 = .ok (.aload_n 0, 1) := by decide +kernel
theorem dX11_has_11 : decode cX11_has 11 = .ok (.iload_n 1, 1) := by decide +kernel
theorem dX11_has_12 : decode cX11_has 12 = .ok (.invokevirtual 165, 3) := by decide +kernel
theorem dX11_has_15 : decode cX11_has 15 = .ok (.ifCond .ne 6, 3) := by decide +kernel
theorem dX11_has_18 : decode cX11_has 18 = .ok (.bipush (-101), 2) := by decide +kernel
theorem dX11_has_20 : decode cX11_has 20 = .ok (.ireturn, 1) := by decide +kernel
theorem dX11_has_21 : decode cX11_has 21 = .ok (.iload_n 2, 1) := by decide +kernel
theorem dX11_has_22 : decode cX11_has 22 = .ok (.iconst 0, 1) := by decide +kernel
theorem dX11_has_23 : decode cX11_has 23 = .ok (.ldc 173, 2) := by decide +kernel
theorem dX11_has_25 : decode cX11_has 25 = .ok (.invokestatic 86, 3) := by decide +kernel
theorem dX11_has_28 : decode cX11_has 28 = .ok (.ifCond .eq 24, 3) := by decide +kernel
theorem dX11_has_31 : decode cX11_has 31 = .ok (.iload_n 3, 1) := by decide +kernel
theorem dX11_has_32 : decode cX11_has 32 = .ok (.iconst 0, 1) := by decide +kernel
theorem dX11_has_33 : decode cX11_has 33 = .ok (.ldc 173, 2) := by decide +kernel
theorem dX11_has_35 : decode cX11_has 35 = .ok (.invokestatic 86, 3) := by decide +kernel
theorem dX11_has_38 : decode cX11_has 38 = .ok (.ifCond .eq 14, 3) := by decide +kernel
theorem dX11_has_41 : decode cX11_has 41 = .ok (.iload 4, 2) := by decide +kernel
theorem dX11_has_43 : decode cX11_has 43 = .ok (.iconst 0, 1) := by decide +kernel
theorem dX11_has_44 : decode cX11_has 44 = .ok (.ldc 173, 2) := by decide +kernel
theorem dX11_has_46 : decode cX11_has 46 = .ok (.invokestatic 86, 3) := by decide +kernel
theorem dX11_has_49 : decode cX11_has 49 = .ok (.ifCond .ne 6, 3) := by decide +kernel
theorem dX11_has_52 : decode cX11_has 52 = .ok (.bipush (-102), 2) := by decide +kernel
theorem dX11_has_54 : decode cX11_has 54 = .ok (.ireturn, 1) := by decide +kernel
theorem dX11_has_55 : decode cX11_has 55 = .ok (.aload_n 0, 1) := by decide +kernel
theorem dX11_has_56 : decode cX11_has 56 = .ok (.getfield 68, 3) := by decide +kernel
theorem dX11_has_59 : decode cX11_has 59 = .ok (.iconst 0, 1) := by decide +kernel
theorem dX11_has_60 : decode cX11_has 60 = .ok (.iconst 0, 1) := by decide +kernel
theorem dX11_has_61 : decode cX11_has 61 = .ok (.iastore, 1) := by decide +kernel
theorem dX11_has_62 : decode cX11_has 62 = .ok (.aload_n 0, 1) := by decide +kernel
theorem dX11_has_63 : decode cX11_has 63 = .ok (.getfield 68, 3) := by decide +kernel
theorem dX11_has_66 : decode cX11_has 66 = .ok (.iconst 1, 1) := by decide +kernel
theorem dX11_has_67 : decode cX11_has 67 = .ok (.iload_n 2, 1) := by decide +kernel
theorem dX11_has_68 : decode cX11_has 68 = .ok (.iastore, 1) := by decide +kernel
theorem dX11_has_69 : decode cX11_has 69 = .ok (.aload_n 0, 1) := by decide +kernel
theorem dX11_has_70 : decode cX11_has 70 = .ok (.getfield 68, 3) := by decide +kernel
theorem dX11_has_73 : decode cX11_has 73 = .ok (.iconst 2, 1) := by decide +kernel
theorem dX11_has_74 : decode cX11_has 74 = .ok (.iload_n 3, 1) := by decide +kernel
theorem dX11_has_75 : decode cX11_has 75 = .ok (.iastore, 1) := by decide +kernel
theorem dX11_has_76 : decode cX11_has 76 = .ok (.aload_n 0, 1) := by decide +kernel
theorem dX11_has_77 : decode cX11_has 77 = .ok (.getfield 68, 3) := by decide +kernel
theorem dX11_has_80 : decode cX11_has 80 = .ok (.iconst 3, 1) := by decide +kernel
theorem dX11_has_81 : decode cX11_has 81 = .ok (.iload 4, 2) := by decide +kernel
theorem dX11_has_83 : decode cX11_has 83 = .ok (.iastore, 1) := by decide +kernel
theorem dX11_has_84 : decode cX11_has 84 = .ok (.aload_n 0, 1) := by decide +kernel
theorem dX11_has_85 : decode cX11_has 85 = .ok (.iload_n 1, 1) := by decide +kernel
theorem dX11_has_86 : decode cX11_has 86 = .ok (.invokevirtual 174, 3) := by decide +kernel
theorem dX11_has_89 : decode cX11_has 89 = .ok (.ifCond .eq 7, 3) := by decide +kernel
theorem dX11_has_92 : decode cX11_has 92 = .ok (.iconst 1, 1) := by decide +kernel
theorem dX11_has_93 : decode cX11_has 93 = .ok (.goto 4, 3) := by decide +kernel
theorem dX11_has_96 : decode cX11_has 96 = .ok (.iconst 0, 1) := by decide +kernel
theorem dX11_has_97 : decode cX11_has 97 = .ok (.ireturn, 1) := by decide +kernel
theorem dX11_layOut_0 : decode cX11_layOut 0 = .ok (.iload_n 1, 1) := by decide +kernel
theorem dX11_layOut_1 : decode cX11_layOut 1 = .ok (.istore_n 2, 1) := by decide +kernel
theorem dX11_layOut_2 : decode cX11_layOut 2 = .ok (.aload_n 0, 1) := by decide +kernel
theorem dX11_layOut_3 : decode cX11_layOut 3 = .ok (.getfield 56, 3) := by decide +kernel
theorem dX11_layOut_6 : decode cX11_layOut 6 = .ok (.iload_n 1, 1) := by decide +kernel
theorem dX11_layOut_7 : decode cX11_layOut 7 = .ok (.iaload, 1) := by decide +kernel
theorem dX11_layOut_8 : decode cX11_layOut 8 = .ok (.istore_n 3, 1) := by decide +kernel
theorem dX11_layOut_9 : decode cX11_layOut 9 = .ok (.iload_n 3, 1) := by decide +kernel
theorem dX11_layOut_10 : decode cX11_layOut 10 = .ok (.ifCond .lt 23, 3) := by decide +kernel
theorem dX11_layOut_13 : decode cX11_layOut 13 = .ok (.aload_n 0, 1) := by decide +kernel
theorem dX11_layOut_14 : decode cX11_layOut 14 = .ok (.getfield 71, 3) := by decide +kernel
theorem dX11_layOut_17 : decode cX11_layOut 17 = .ok (.iload_n 3, 1) := by decide +kernel
theorem dX11_layOut_18 : decode cX11_layOut 18 = .ok (.iload_n 2, 1) := by decide +kernel
theorem dX11_layOut_19 : decode cX11_layOut 19 = .ok (.iastore, 1) := by decide +kernel
theorem dX11_layOut_20 : decode cX11_layOut 20 = .ok (.aload_n 0, 1) := by decide +kernel
theorem dX11_layOut_21 : decode cX11_layOut 21 = .ok (.getfield 47, 3) := by decide +kernel
theorem dX11_layOut_24 : decode cX11_layOut 24 = .ok (.iload_n 2, 1) := by decide +kernel
theorem dX11_layOut_25 : decode cX11_layOut 25 = .ok (.iaload, 1) := by decide +kernel
theorem dX11_layOut_26 : decode cX11_layOut 26 = .ok (.istore_n 2, 1) := by decide +kernel
theorem dX11_layOut_27 : decode cX11_layOut 27 = .ok (.iinc 3 (-1), 3) := by decide +kernel
theorem dX11_layOut_30 : decode cX11_layOut 30 = .ok (.goto (-21), 3) := by decide +kernel
theorem dX11_layOut_33 : decode cX11_layOut 33 = .ok (.aload_n 0, 1) := by decide +kernel
theorem dX11_layOut_34 : decode cX11_layOut 34 = .ok (.getfield 56, 3) := by decide +kernel
theorem dX11_layOut_37 : decode cX11_layOut 37 = .ok (.iload_n 1, 1) := by decide +kernel
theorem dX11_layOut_38 : decode cX11_layOut 38 = .ok (.iaload, 1) := by decide +kernel
theorem dX11_layOut_39 : decode cX11_layOut 39 = .ok (.ireturn, 1) := by decide +kernel
theorem dX11_way_0 : decode cX11_way 0 = .ok (.aload_n 0, 1) := by decide +kernel
theorem dX11_way_1 : decode cX11_way 1 = .ok (.getfield 37, 3) := by decide +kernel
theorem dX11_way_4 : decode cX11_way 4 = .ok (.ifCond .eq 6, 3) := by decide +kernel
theorem dX11_way_7 : decode cX11_way 7 = .ok (.bipush (-103), 2) := by decide +kernel
theorem dX11_way_9 : decode cX11_way 9 = .ok (.ireturn, 1) := by decide +kernel
theorem dX11_way_10 : decode cX11_way 10 = .ok (.aload_n 0, 1) := by decide +kernel
theorem dX11_way_11 : decode cX11_way 11 = .ok (.iload_n 1, 1) := by decide +kernel
theorem dX11_way_12 : decode cX11_way 12 = .ok (.invokevirtual 165, 3) := by decide +kernel
theorem dX11_way_15 : decode cX11_way 15 = .ok (.ifCond .eq 19, 3) := by decide +kernel
theorem dX11_way_18 : decode cX11_way 18 = .ok (.iload_n 2, 1) := by decide +kernel
theorem dX11_way_19 : decode cX11_way 19 = .ok (.iconst 0, 1) := by decide +kernel
theorem dX11_way_20 : decode cX11_way 20 = .ok (.aload_n 0, 1) := by decide +kernel
theorem dX11_way_21 : decode cX11_way 21 = .ok (.getfield 56, 3) := by decide +kernel
theorem dX11_way_24 : decode cX11_way 24 = .ok (.iload_n 1, 1) := by decide +kernel
theorem dX11_way_25 : decode cX11_way 25 = .ok (.iaload, 1) := by decide +kernel
theorem dX11_way_26 : decode cX11_way 26 = .ok (.iconst 1, 1) := by decide +kernel
theorem dX11_way_27 : decode cX11_way 27 = .ok (.isub, 1) := by decide +kernel
theorem dX11_way_28 : decode cX11_way 28 = .ok (.invokestatic 86, 3) := by decide +kernel
theorem dX11_way_31 : decode cX11_way 31 = .ok (.ifCond .ne 6, 3) := by decide +kernel
theorem dX11_way_34 : decode cX11_way 34 = .ok (.bipush (-101), 2) := by decide +kernel
theorem dX11_way_36 : decode cX11_way 36 = .ok (.ireturn, 1) := by decide +kernel
theorem dX11_way_37 : decode cX11_way 37 = .ok (.iload_n 3, 1) := by decide +kernel
theorem dX11_way_38 : decode cX11_way 38 = .ok (.iconst 0, 1) := by decide +kernel
theorem dX11_way_39 : decode cX11_way 39 = .ok (.iconst 1, 1) := by decide +kernel
theorem dX11_way_40 : decode cX11_way 40 = .ok (.invokestatic 86, 3) := by decide +kernel
theorem dX11_way_43 : decode cX11_way 43 = .ok (.ifCond .ne 6, 3) := by decide +kernel
theorem dX11_way_46 : decode cX11_way 46 = .ok (.bipush (-102), 2) := by decide +kernel
theorem dX11_way_48 : decode cX11_way 48 = .ok (.ireturn, 1) := by decide +kernel
theorem dX11_way_49 : decode cX11_way 49 = .ok (.aload_n 0, 1) := by decide +kernel
theorem dX11_way_50 : decode cX11_way 50 = .ok (.iload_n 1, 1) := by decide +kernel
theorem dX11_way_51 : decode cX11_way 51 = .ok (.invokevirtual 177, 3) := by decide +kernel
theorem dX11_way_54 : decode cX11_way 54 = .ok (.pop, 1) := by decide +kernel
theorem dX11_way_55 : decode cX11_way 55 = .ok (.iload_n 3, 1) := by decide +kernel
theorem dX11_way_56 : decode cX11_way 56 = .ok (.ifCond .ne 19, 3) := by decide +kernel
theorem dX11_way_59 : decode cX11_way 59 = .ok (.aload_n 0, 1) := by decide +kernel
theorem dX11_way_60 : decode cX11_way 60 = .ok (.getfield 50, 3) := by decide +kernel
theorem dX11_way_63 : decode cX11_way 63 = .ok (.aload_n 0, 1) := by decide +kernel
theorem dX11_way_64 : decode cX11_way 64 = .ok (.getfield 71, 3) := by decide +kernel
theorem dX11_way_67 : decode cX11_way 67 = .ok (.iload_n 2, 1) := by decide +kernel
theorem dX11_way_68 : decode cX11_way 68 = .ok (.iconst 1, 1) := by decide +kernel
theorem dX11_way_69 : decode cX11_way 69 = .ok (.iadd, 1) := by decide +kernel
theorem dX11_way_70 : decode cX11_way 70 = .ok (.iaload, 1) := by decide +kernel
theorem dX11_way_71 : decode cX11_way 71 = .ok (.iaload, 1) := by decide +kernel
theorem dX11_way_72 : decode cX11_way 72 = .ok (.goto 16, 3) := by decide +kernel
theorem dX11_way_75 : decode cX11_way 75 = .ok (.aload_n 0, 1) := by decide +kernel
theorem dX11_way_76 : decode cX11_way 76 = .ok (.getfield 53, 3) := by decide +kernel
theorem dX11_way_79 : decode cX11_way 79 = .ok (.aload_n 0, 1) := by decide +kernel
theorem dX11_way_80 : decode cX11_way 80 = .ok (.getfield 71, 3) := by decide +kernel
theorem dX11_way_83 : decode cX11_way 83 = .ok (.iload_n 2, 1) := by decide +kernel
theorem dX11_way_84 : decode cX11_way 84 = .ok (.iconst 1, 1) := by decide +kernel
theorem dX11_way_85 : decode cX11_way 85 = .ok (.iadd, 1) := by decide +kernel
theorem dX11_way_86 : decode cX11_way 86 = .ok (.iaload, 1) := by decide +kernel
theorem dX11_way_87 : decode cX11_way 87 = .ok (.iaload, 1) := by decide +kernel
theorem dX11_way_88 : decode cX11_way 88 = .ok (.ireturn, 1) := by decide +kernel
theorem dX11_behind_0 : decode cX11_behind 0 = .ok (.aload_n 0, 1) := by decide +kernel
theorem dX11_behind_1 : decode cX11_behind 1 = .ok (.getfield 74, 3) := by decide +kernel
theorem dX11_behind_4 : decode cX11_behind 4 = .ok (.iload_n 1, 1) := by decide +kernel
theorem dX11_behind_5 : decode cX11_behind 5 = .ok (.iaload, 1) := by decide +kernel
theorem dX11_behind_6 : decode cX11_behind 6 = .ok (.aload_n 0, 1) := by decide +kernel
theorem dX11_behind_7 : decode cX11_behind 7 = .ok (.getfield 74, 3) := by decide +kernel
theorem dX11_behind_10 : decode cX11_behind 10 = .ok (.iload_n 2, 1) := by decide +kernel
theorem dX11_behind_11 : decode cX11_behind 11 = .ok (.iaload, 1) := by decide +kernel
theorem dX11_behind_12 : decode cX11_behind 12 = .ok (.iload_n 3, 1) := by decide +kernel
theorem dX11_behind_13 : decode cX11_behind 13 = .ok (.iadd, 1) := by decide +kernel
theorem dX11_behind_14 : decode cX11_behind 14 = .ok (.if_icmp .ge 22, 3) := by decide +kernel
theorem dX11_behind_17 : decode cX11_behind 17 = .ok (.aload_n 0, 1) := by decide +kernel
theorem dX11_behind_18 : decode cX11_behind 18 = .ok (.getfield 74, 3) := by decide +kernel
theorem dX11_behind_21 : decode cX11_behind 21 = .ok (.iload_n 1, 1) := by decide +kernel
theorem dX11_behind_22 : decode cX11_behind 22 = .ok (.aload_n 0, 1) := by decide +kernel
theorem dX11_behind_23 : decode cX11_behind 23 = .ok (.getfield 74, 3) := by decide +kernel
theorem dX11_behind_26 : decode cX11_behind 26 = .ok (.iload_n 2, 1) := by decide +kernel
theorem dX11_behind_27 : decode cX11_behind 27 = .ok (.iaload, 1) := by decide +kernel
theorem dX11_behind_28 : decode cX11_behind 28 = .ok (.iload_n 3, 1) := by decide +kernel
theorem dX11_behind_29 : decode cX11_behind 29 = .ok (.iadd, 1) := by decide +kernel
theorem dX11_behind_30 : decode cX11_behind 30 = .ok (.iastore, 1) := by decide +kernel
theorem dX11_behind_31 : decode cX11_behind 31 = .ok (.aload_n 0, 1) := by decide +kernel
theorem dX11_behind_32 : decode cX11_behind 32 = .ok (.iconst 1, 1) := by decide +kernel
theorem dX11_behind_33 : decode cX11_behind 33 = .ok (.putfield 180, 3) := by decide +kernel
theorem dX11_behind_36 : decode cX11_behind 36 = .ok (.return_, 1) := by decide +kernel
theorem dX11_ask_0 : decode cX11_ask 0 = .ok (.iload_n 3, 1) := by decide +kernel
theorem dX11_ask_1 : decode cX11_ask 1 = .ok (.iconst 3, 1) := by decide +kernel
theorem dX11_ask_2 : decode cX11_ask 2 = .ok (.if_icmp .ge 24, 3) := by decide +kernel
theorem dX11_ask_5 : decode cX11_ask 5 = .ok (.aload_n 0, 1) := by decide +kernel
theorem dX11_ask_6 : decode cX11_ask 6 = .ok (.iload_n 2, 1) := by decide +kernel
theorem dX11_ask_7 : decode cX11_ask 7 = .ok (.iload_n 1, 1) := by decide +kernel
theorem dX11_ask_8 : decode cX11_ask 8 = .ok (.bipush (-64), 2) := by decide +kernel
theorem dX11_ask_10 : decode cX11_ask 10 = .ok (.iload 4, 2) := by decide +kernel
theorem dX11_ask_12 : decode cX11_ask 12 = .ok (.imul, 1) := by decide +kernel
theorem dX11_ask_13 : decode cX11_ask 13 = .ok (.iload_n 3, 1) := by decide +kernel
theorem dX11_ask_14 : decode cX11_ask 14 = .ok (.ifCond .ne 7, 3) := by decide +kernel
theorem dX11_ask_17 : decode cX11_ask 17 = .ok (.iconst 1, 1) := by decide +kernel
theorem dX11_ask_18 : decode cX11_ask 18 = .ok (.goto 4, 3) := by decide +kernel
theorem dX11_ask_21 : decode cX11_ask 21 = .ok (.iconst 0, 1) := by decide +kernel
theorem dX11_ask_22 : decode cX11_ask 22 = .ok (.iadd, 1) := by decide +kernel
theorem dX11_ask_23 : decode cX11_ask 23 = .ok (.invokevirtual 183, 3) := by decide +kernel
theorem dX11_ask_26 : decode cX11_ask 26 = .ok (.iload_n 3, 1) := by decide +kernel
theorem dX11_ask_27 : decode cX11_ask 27 = .ok (.iconst 1, 1) := by decide +kernel
theorem dX11_ask_28 : decode cX11_ask 28 = .ok (.if_icmp .le 25, 3) := by decide +kernel
theorem dX11_ask_31 : decode cX11_ask 31 = .ok (.aload_n 0, 1) := by decide +kernel
theorem dX11_ask_32 : decode cX11_ask 32 = .ok (.iload_n 1, 1) := by decide +kernel
theorem dX11_ask_33 : decode cX11_ask 33 = .ok (.iload_n 2, 1) := by decide +kernel
theorem dX11_ask_34 : decode cX11_ask 34 = .ok (.bipush 64, 2) := by decide +kernel
theorem dX11_ask_36 : decode cX11_ask 36 = .ok (.iload 4, 2) := by decide +kernel
theorem dX11_ask_38 : decode cX11_ask 38 = .ok (.imul, 1) := by decide +kernel
theorem dX11_ask_39 : decode cX11_ask 39 = .ok (.iload_n 3, 1) := by decide +kernel
theorem dX11_ask_40 : decode cX11_ask 40 = .ok (.iconst 4, 1) := by decide +kernel
theorem dX11_ask_41 : decode cX11_ask 41 = .ok (.if_icmp .ne 7, 3) := by decide +kernel
theorem dX11_ask_44 : decode cX11_ask 44 = .ok (.iconst 1, 1) := by decide +kernel
theorem dX11_ask_45 : decode cX11_ask 45 = .ok (.goto 4, 3) := by decide +kernel
theorem dX11_ask_48 : decode cX11_ask 48 = .ok (.iconst 0, 1) := by decide +kernel
theorem dX11_ask_49 : decode cX11_ask 49 = .ok (.iadd, 1) := by decide +kernel
theorem dX11_ask_50 : decode cX11_ask 50 = .ok (.invokevirtual 183, 3) := by decide +kernel
theorem dX11_ask_53 : decode cX11_ask 53 = .ok (.return_, 1) := by decide +kernel
theorem dX11_setAt_0 : decode cX11_setAt 0 = .ok (.iload_n 2, 1) := by decide +kernel
theorem dX11_setAt_1 : decode cX11_setAt 1 = .ok (.istore_n 3, 1) := by decide +kernel
theorem dX11_setAt_2 : decode cX11_setAt 2 = .ok (.iload_n 3, 1) := by decide +kernel
theorem dX11_setAt_3 : decode cX11_setAt 3 = .ok (.ifCond .le 68, 3) := by decide +kernel
theorem dX11_setAt_6 : decode cX11_setAt 6 = .ok (.aload_n 0, 1) := by decide +kernel
theorem dX11_setAt_7 : decode cX11_setAt 7 = .ok (.getfield 22, 3) := by decide +kernel
theorem dX11_setAt_10 : decode cX11_setAt 10 = .ok (.aload_n 0, 1) := by decide +kernel
theorem dX11_setAt_11 : decode cX11_setAt 11 = .ok (.getfield 50, 3) := by decide +kernel
theorem dX11_setAt_14 : decode cX11_setAt 14 = .ok (.aload_n 0, 1) := by decide +kernel
theorem dX11_setAt_15 : decode cX11_setAt 15 = .ok (.getfield 71, 3) := by decide +kernel
theorem dX11_setAt_18 : decode cX11_setAt 18 = .ok (.iload_n 3, 1) := by decide +kernel
theorem dX11_setAt_19 : decode cX11_setAt 19 = .ok (.iaload, 1) := by decide +kernel
theorem dX11_setAt_20 : decode cX11_setAt 20 = .ok (.iaload, 1) := by decide +kernel
theorem dX11_setAt_21 : decode cX11_setAt 21 = .ok (.iaload, 1) := by decide +kernel
theorem dX11_setAt_22 : decode cX11_setAt 22 = .ok (.aload_n 0, 1) := by decide +kernel
theorem dX11_setAt_23 : decode cX11_setAt 23 = .ok (.getfield 53, 3) := by decide +kernel
theorem dX11_setAt_26 : decode cX11_setAt 26 = .ok (.aload_n 0, 1) := by decide +kernel
theorem dX11_setAt_27 : decode cX11_setAt 27 = .ok (.getfield 71, 3) := by decide +kernel
theorem dX11_setAt_30 : decode cX11_setAt 30 = .ok (.iload_n 3, 1) := by decide +kernel
theorem dX11_setAt_31 : decode cX11_setAt 31 = .ok (.iaload, 1) := by decide +kernel
theorem dX11_setAt_32 : decode cX11_setAt 32 = .ok (.iaload, 1) := by decide +kernel
theorem dX11_setAt_33 : decode cX11_setAt 33 = .ok (.iconst (-1), 1) := by decide +kernel
theorem dX11_setAt_34 : decode cX11_setAt 34 = .ok (.if_icmp .ne 7, 3) := by decide +kernel
theorem dX11_setAt_37 : decode cX11_setAt 37 = .ok (.iconst 0, 1) := by decide +kernel
theorem dX11_setAt_38 : decode cX11_setAt 38 = .ok (.goto 19, 3) := by decide +kernel
theorem dX11_setAt_41 : decode cX11_setAt 41 = .ok (.aload_n 0, 1) := by decide +kernel
theorem dX11_setAt_42 : decode cX11_setAt 42 = .ok (.getfield 22, 3) := by decide +kernel
theorem dX11_setAt_45 : decode cX11_setAt 45 = .ok (.aload_n 0, 1) := by decide +kernel
theorem dX11_setAt_46 : decode cX11_setAt 46 = .ok (.getfield 53, 3) := by decide +kernel
theorem dX11_setAt_49 : decode cX11_setAt 49 = .ok (.aload_n 0, 1) := by decide +kernel
theorem dX11_setAt_50 : decode cX11_setAt 50 = .ok (.getfield 71, 3) := by decide +kernel
theorem dX11_setAt_53 : decode cX11_setAt 53 = .ok (.iload_n 3, 1) := by decide +kernel
theorem dX11_setAt_54 : decode cX11_setAt 54 = .ok (.iaload, 1) := by decide +kernel
theorem dX11_setAt_55 : decode cX11_setAt 55 = .ok (.iaload, 1) := by decide +kernel
theorem dX11_setAt_56 : decode cX11_setAt 56 = .ok (.iaload, 1) := by decide +kernel
theorem dX11_setAt_57 : decode cX11_setAt 57 = .ok (.ior, 1) := by decide +kernel
theorem dX11_setAt_58 : decode cX11_setAt 58 = .ok (.iload_n 1, 1) := by decide +kernel
theorem dX11_setAt_59 : decode cX11_setAt 59 = .ok (.ishr, 1) := by decide +kernel
theorem dX11_setAt_60 : decode cX11_setAt 60 = .ok (.iconst 1, 1) := by decide +kernel
theorem dX11_setAt_61 : decode cX11_setAt 61 = .ok (.iand, 1) := by decide +kernel
theorem dX11_setAt_62 : decode cX11_setAt 62 = .ok (.ifCond .ne 9, 3) := by decide +kernel
theorem dX11_setAt_65 : decode cX11_setAt 65 = .ok (.iinc 3 (-1), 3) := by decide +kernel
theorem dX11_setAt_68 : decode cX11_setAt 68 = .ok (.goto (-66), 3) := by decide +kernel
theorem dX11_setAt_71 : decode cX11_setAt 71 = .ok (.iload_n 3, 1) := by decide +kernel
theorem dX11_setAt_72 : decode cX11_setAt 72 = .ok (.ireturn, 1) := by decide +kernel
theorem dX11_askGuards_0 : decode cX11_askGuards 0 = .ok (.iconst 0, 1) := by decide +kernel
theorem dX11_askGuards_1 : decode cX11_askGuards 1 = .ok (.istore_n 3, 1) := by decide +kernel
theorem dX11_askGuards_2 : decode cX11_askGuards 2 = .ok (.iload_n 3, 1) := by decide +kernel
theorem dX11_askGuards_3 : decode cX11_askGuards 3 = .ok (.aload_n 0, 1) := by decide +kernel
theorem dX11_askGuards_4 : decode cX11_askGuards 4 = .ok (.getfield 25, 3) := by decide +kernel
theorem dX11_askGuards_7 : decode cX11_askGuards 7 = .ok (.iload_n 2, 1) := by decide +kernel
theorem dX11_askGuards_8 : decode cX11_askGuards 8 = .ok (.iaload, 1) := by decide +kernel
theorem dX11_askGuards_9 : decode cX11_askGuards 9 = .ok (.if_icmp .ge 56, 3) := by decide +kernel
theorem dX11_askGuards_12 : decode cX11_askGuards 12 = .ok (.bipush 6, 2) := by decide +kernel
theorem dX11_askGuards_14 : decode cX11_askGuards 14 = .ok (.iload_n 2, 1) := by decide +kernel
theorem dX11_askGuards_15 : decode cX11_askGuards 15 = .ok (.imul, 1) := by decide +kernel
theorem dX11_askGuards_16 : decode cX11_askGuards 16 = .ok (.iconst 3, 1) := by decide +kernel
theorem dX11_askGuards_17 : decode cX11_askGuards 17 = .ok (.iload_n 3, 1) := by decide +kernel
theorem dX11_askGuards_18 : decode cX11_askGuards 18 = .ok (.imul, 1) := by decide +kernel
theorem dX11_askGuards_19 : decode cX11_askGuards 19 = .ok (.iadd, 1) := by decide +kernel
theorem dX11_askGuards_20 : decode cX11_askGuards 20 = .ok (.istore 4, 2) := by decide +kernel
theorem dX11_askGuards_22 : decode cX11_askGuards 22 = .ok (.aload_n 0, 1) := by decide +kernel
theorem dX11_askGuards_23 : decode cX11_askGuards 23 = .ok (.iload_n 1, 1) := by decide +kernel
theorem dX11_askGuards_24 : decode cX11_askGuards 24 = .ok (.aload_n 0, 1) := by decide +kernel
theorem dX11_askGuards_25 : decode cX11_askGuards 25 = .ok (.aload_n 0, 1) := by decide +kernel
theorem dX11_askGuards_26 : decode cX11_askGuards 26 = .ok (.getfield 28, 3) := by decide +kernel
theorem dX11_askGuards_29 : decode cX11_askGuards 29 = .ok (.iload 4, 2) := by decide +kernel
theorem dX11_askGuards_31 : decode cX11_askGuards 31 = .ok (.iaload, 1) := by decide +kernel
theorem dX11_askGuards_32 : decode cX11_askGuards 32 = .ok (.iload_n 1, 1) := by decide +kernel
theorem dX11_askGuards_33 : decode cX11_askGuards 33 = .ok (.iconst 1, 1) := by decide +kernel
theorem dX11_askGuards_34 : decode cX11_askGuards 34 = .ok (.isub, 1) := by decide +kernel
theorem dX11_askGuards_35 : decode cX11_askGuards 35 = .ok (.invokevirtual 186, 3) := by decide +kernel
theorem dX11_askGuards_38 : decode cX11_askGuards 38 = .ok (.aload_n 0, 1) := by decide +kernel
theorem dX11_askGuards_39 : decode cX11_askGuards 39 = .ok (.getfield 28, 3) := by decide +kernel
theorem dX11_askGuards_42 : decode cX11_askGuards 42 = .ok (.iload 4, 2) := by decide +kernel
theorem dX11_askGuards_44 : decode cX11_askGuards 44 = .ok (.iconst 1, 1) := by decide +kernel
theorem dX11_askGuards_45 : decode cX11_askGuards 45 = .ok (.iadd, 1) := by decide +kernel
theorem dX11_askGuards_46 : decode cX11_askGuards 46 = .ok (.iaload, 1) := by decide +kernel
theorem dX11_askGuards_47 : decode cX11_askGuards 47 = .ok (.aload_n 0, 1) := by decide +kernel
theorem dX11_askGuards_48 : decode cX11_askGuards 48 = .ok (.getfield 28, 3) := by decide +kernel
theorem dX11_askGuards_51 : decode cX11_askGuards 51 = .ok (.iload 4, 2) := by decide +kernel
theorem dX11_askGuards_53 : decode cX11_askGuards 53 = .ok (.iconst 2, 1) := by decide +kernel
theorem dX11_askGuards_54 : decode cX11_askGuards 54 = .ok (.iadd, 1) := by decide +kernel
theorem dX11_askGuards_55 : decode cX11_askGuards 55 = .ok (.iaload, 1) := by decide +kernel
theorem dX11_askGuards_56 : decode cX11_askGuards 56 = .ok (.invokevirtual 189, 3) := by decide +kernel
theorem dX11_askGuards_59 : decode cX11_askGuards 59 = .ok (.iinc 3 1, 3) := by decide +kernel
theorem dX11_askGuards_62 : decode cX11_askGuards 62 = .ok (.goto (-60), 3) := by decide +kernel
theorem dX11_askGuards_65 : decode cX11_askGuards 65 = .ok (.return_, 1) := by decide +kernel
theorem dX11_askLimits_0 : decode cX11_askLimits 0 = .ok (.iconst 0, 1) := by decide +kernel
theorem dX11_askLimits_1 : decode cX11_askLimits 1 = .ok (.istore 4, 2) := by decide +kernel
theorem dX11_askLimits_3 : decode cX11_askLimits 3 = .ok (.iload 4, 2) := by decide +kernel
theorem dX11_askLimits_5 : decode cX11_askLimits 5 = .ok (.iconst 3, 1) := by decide +kernel
theorem dX11_askLimits_6 : decode cX11_askLimits 6 = .ok (.if_icmp .ge 96, 3) := by decide +kernel
theorem dX11_askLimits_9 : decode cX11_askLimits 9 = .ok (.bipush 6, 2) := by decide +kernel
theorem dX11_askLimits_11 : decode cX11_askLimits 11 = .ok (.iload 4, 2) := by decide +kernel
theorem dX11_askLimits_13 : decode cX11_askLimits 13 = .ok (.imul, 1) := by decide +kernel
theorem dX11_askLimits_14 : decode cX11_askLimits 14 = .ok (.aload_n 0, 1) := by decide +kernel
theorem dX11_askLimits_15 : decode cX11_askLimits 15 = .ok (.getfield 41, 3) := by decide +kernel
theorem dX11_askLimits_18 : decode cX11_askLimits 18 = .ok (.iconst 3, 1) := by decide +kernel
theorem dX11_askLimits_19 : decode cX11_askLimits 19 = .ok (.iload_n 1, 1) := by decide +kernel
theorem dX11_askLimits_20 : decode cX11_askLimits 20 = .ok (.imul, 1) := by decide +kernel
theorem dX11_askLimits_21 : decode cX11_askLimits 21 = .ok (.iload 4, 2) := by decide +kernel
theorem dX11_askLimits_23 : decode cX11_askLimits 23 = .ok (.iadd, 1) := by decide +kernel
theorem dX11_askLimits_24 : decode cX11_askLimits 24 = .ok (.iaload, 1) := by decide +kernel
theorem dX11_askLimits_25 : decode cX11_askLimits 25 = .ok (.iadd, 1) := by decide +kernel
theorem dX11_askLimits_26 : decode cX11_askLimits 26 = .ok (.istore 5, 2) := by decide +kernel
theorem dX11_askLimits_28 : decode cX11_askLimits 28 = .ok (.iconst 0, 1) := by decide +kernel
theorem dX11_askLimits_29 : decode cX11_askLimits 29 = .ok (.istore 6, 2) := by decide +kernel
theorem dX11_askLimits_31 : decode cX11_askLimits 31 = .ok (.iload 6, 2) := by decide +kernel
theorem dX11_askLimits_33 : decode cX11_askLimits 33 = .ok (.aload_n 0, 1) := by decide +kernel
theorem dX11_askLimits_34 : decode cX11_askLimits 34 = .ok (.getfield 31, 3) := by decide +kernel
theorem dX11_askLimits_37 : decode cX11_askLimits 37 = .ok (.iload 5, 2) := by decide +kernel
theorem dX11_askLimits_39 : decode cX11_askLimits 39 = .ok (.iaload, 1) := by decide +kernel
theorem dX11_askLimits_40 : decode cX11_askLimits 40 = .ok (.if_icmp .ge 56, 3) := by decide +kernel
theorem dX11_askLimits_43 : decode cX11_askLimits 43 = .ok (.bipush 6, 2) := by decide +kernel
theorem dX11_askLimits_45 : decode cX11_askLimits 45 = .ok (.iload 5, 2) := by decide +kernel
theorem dX11_askLimits_47 : decode cX11_askLimits 47 = .ok (.imul, 1) := by decide +kernel
theorem dX11_askLimits_48 : decode cX11_askLimits 48 = .ok (.iconst 3, 1) := by decide +kernel
theorem dX11_askLimits_49 : decode cX11_askLimits 49 = .ok (.iload 6, 2) := by decide +kernel
theorem dX11_askLimits_51 : decode cX11_askLimits 51 = .ok (.imul, 1) := by decide +kernel
theorem dX11_askLimits_52 : decode cX11_askLimits 52 = .ok (.iadd, 1) := by decide +kernel
theorem dX11_askLimits_53 : decode cX11_askLimits 53 = .ok (.istore 7, 2) := by decide +kernel
theorem dX11_askLimits_55 : decode cX11_askLimits 55 = .ok (.aload_n 0, 1) := by decide +kernel
theorem dX11_askLimits_56 : decode cX11_askLimits 56 = .ok (.iload_n 2, 1) := by decide +kernel
theorem dX11_askLimits_57 : decode cX11_askLimits 57 = .ok (.aload_n 0, 1) := by decide +kernel
theorem dX11_askLimits_58 : decode cX11_askLimits 58 = .ok (.aload_n 0, 1) := by decide +kernel
theorem dX11_askLimits_59 : decode cX11_askLimits 59 = .ok (.getfield 34, 3) := by decide +kernel
theorem dX11_askLimits_62 : decode cX11_askLimits 62 = .ok (.iload 7, 2) := by decide +kernel
theorem dX11_askLimits_64 : decode cX11_askLimits 64 = .ok (.iaload, 1) := by decide +kernel
theorem dX11_askLimits_65 : decode cX11_askLimits 65 = .ok (.iload_n 3, 1) := by decide +kernel
theorem dX11_askLimits_66 : decode cX11_askLimits 66 = .ok (.invokevirtual 186, 3) := by decide +kernel
theorem dX11_askLimits_69 : decode cX11_askLimits 69 = .ok (.aload_n 0, 1) := by decide +kernel
theorem dX11_askLimits_70 : decode cX11_askLimits 70 = .ok (.getfield 34, 3) := by decide +kernel
theorem dX11_askLimits_73 : decode cX11_askLimits 73 = .ok (.iload 7, 2) := by decide +kernel
theorem dX11_askLimits_75 : decode cX11_askLimits 75 = .ok (.iconst 1, 1) := by decide +kernel
theorem dX11_askLimits_76 : decode cX11_askLimits 76 = .ok (.iadd, 1) := by decide +kernel
theorem dX11_askLimits_77 : decode cX11_askLimits 77 = .ok (.iaload, 1) := by decide +kernel
theorem dX11_askLimits_78 : decode cX11_askLimits 78 = .ok (.aload_n 0, 1) := by decide +kernel
theorem dX11_askLimits_79 : decode cX11_askLimits 79 = .ok (.getfield 34, 3) := by decide +kernel
theorem dX11_askLimits_82 : decode cX11_askLimits 82 = .ok (.iload 7, 2) := by decide +kernel
theorem dX11_askLimits_84 : decode cX11_askLimits 84 = .ok (.iconst 2, 1) := by decide +kernel
theorem dX11_askLimits_85 : decode cX11_askLimits 85 = .ok (.iadd, 1) := by decide +kernel
theorem dX11_askLimits_86 : decode cX11_askLimits 86 = .ok (.iaload, 1) := by decide +kernel
theorem dX11_askLimits_87 : decode cX11_askLimits 87 = .ok (.invokevirtual 189, 3) := by decide +kernel
theorem dX11_askLimits_90 : decode cX11_askLimits 90 = .ok (.iinc 6 1, 3) := by decide +kernel
theorem dX11_askLimits_93 : decode cX11_askLimits 93 = .ok (.goto (-62), 3) := by decide +kernel
theorem dX11_askLimits_96 : decode cX11_askLimits 96 = .ok (.iinc 4 1, 3) := by decide +kernel
theorem dX11_askLimits_99 : decode cX11_askLimits 99 = .ok (.goto (-96), 3) := by decide +kernel
theorem dX11_askLimits_102 : decode cX11_askLimits 102 = .ok (.return_, 1) := by decide +kernel
theorem dX11_timeAll_0 : decode cX11_timeAll 0 = .ok (.iconst 0, 1) := by decide +kernel
theorem dX11_timeAll_1 : decode cX11_timeAll 1 = .ok (.istore_n 2, 1) := by decide +kernel
theorem dX11_timeAll_2 : decode cX11_timeAll 2 = .ok (.iload_n 2, 1) := by decide +kernel
theorem dX11_timeAll_3 : decode cX11_timeAll 3 = .ok (.bipush 42, 2) := by decide +kernel
theorem dX11_timeAll_5 : decode cX11_timeAll 5 = .ok (.if_icmp .ge 16, 3) := by decide +kernel
theorem dX11_timeAll_8 : decode cX11_timeAll 8 = .ok (.aload_n 0, 1) := by decide +kernel
theorem dX11_timeAll_9 : decode cX11_timeAll 9 = .ok (.getfield 74, 3) := by decide +kernel
theorem dX11_timeAll_12 : decode cX11_timeAll 12 = .ok (.iload_n 2, 1) := by decide +kernel
theorem dX11_timeAll_13 : decode cX11_timeAll 13 = .ok (.iconst 0, 1) := by decide +kernel
theorem dX11_timeAll_14 : decode cX11_timeAll 14 = .ok (.iastore, 1) := by decide +kernel
theorem dX11_timeAll_15 : decode cX11_timeAll 15 = .ok (.iinc 2 1, 3) := by decide +kernel
theorem dX11_timeAll_18 : decode cX11_timeAll 18 = .ok (.goto (-16), 3) := by decide +kernel
theorem dX11_timeAll_21 : decode cX11_timeAll 21 = .ok (.aload_n 0, 1) := by decide +kernel
theorem dX11_timeAll_22 : decode cX11_timeAll 22 = .ok (.iconst 1, 1) := by decide +kernel
theorem dX11_timeAll_23 : decode cX11_timeAll 23 = .ok (.putfield 180, 3) := by decide +kernel
theorem dX11_timeAll_26 : decode cX11_timeAll 26 = .ok (.iconst 0, 1) := by decide +kernel
theorem dX11_timeAll_27 : decode cX11_timeAll 27 = .ok (.istore_n 2, 1) := by decide +kernel
theorem dX11_timeAll_28 : decode cX11_timeAll 28 = .ok (.aload_n 0, 1) := by decide +kernel
theorem dX11_timeAll_29 : decode cX11_timeAll 29 = .ok (.getfield 180, 3) := by decide +kernel
theorem dX11_timeAll_32 : decode cX11_timeAll 32 = .ok (.ifCond .eq 118, 3) := by decide +kernel
theorem dX11_timeAll_35 : decode cX11_timeAll 35 = .ok (.iload_n 2, 1) := by decide +kernel
theorem dX11_timeAll_36 : decode cX11_timeAll 36 = .ok (.sipush 2000, 3) := by decide +kernel
theorem dX11_timeAll_39 : decode cX11_timeAll 39 = .ok (.if_icmp .ge 111, 3) := by decide +kernel
theorem dX11_timeAll_42 : decode cX11_timeAll 42 = .ok (.aload_n 0, 1) := by decide +kernel
theorem dX11_timeAll_43 : decode cX11_timeAll 43 = .ok (.iconst 0, 1) := by decide +kernel
theorem dX11_timeAll_44 : decode cX11_timeAll 44 = .ok (.putfield 180, 3) := by decide +kernel
theorem dX11_timeAll_47 : decode cX11_timeAll 47 = .ok (.iconst 1, 1) := by decide +kernel
theorem dX11_timeAll_48 : decode cX11_timeAll 48 = .ok (.istore_n 3, 1) := by decide +kernel
theorem dX11_timeAll_49 : decode cX11_timeAll 49 = .ok (.iload_n 3, 1) := by decide +kernel
theorem dX11_timeAll_50 : decode cX11_timeAll 50 = .ok (.iload_n 1, 1) := by decide +kernel
theorem dX11_timeAll_51 : decode cX11_timeAll 51 = .ok (.if_icmp .gt 93, 3) := by decide +kernel
theorem dX11_timeAll_54 : decode cX11_timeAll 54 = .ok (.aload_n 0, 1) := by decide +kernel
theorem dX11_timeAll_55 : decode cX11_timeAll 55 = .ok (.iload_n 3, 1) := by decide +kernel
theorem dX11_timeAll_56 : decode cX11_timeAll 56 = .ok (.iload_n 3, 1) := by decide +kernel
theorem dX11_timeAll_57 : decode cX11_timeAll 57 = .ok (.iconst 1, 1) := by decide +kernel
theorem dX11_timeAll_58 : decode cX11_timeAll 58 = .ok (.isub, 1) := by decide +kernel
theorem dX11_timeAll_59 : decode cX11_timeAll 59 = .ok (.iconst 0, 1) := by decide +kernel
theorem dX11_timeAll_60 : decode cX11_timeAll 60 = .ok (.invokevirtual 183, 3) := by decide +kernel
theorem dX11_timeAll_63 : decode cX11_timeAll 63 = .ok (.aload_n 0, 1) := by decide +kernel
theorem dX11_timeAll_64 : decode cX11_timeAll 64 = .ok (.iload_n 3, 1) := by decide +kernel
theorem dX11_timeAll_65 : decode cX11_timeAll 65 = .ok (.aload_n 0, 1) := by decide +kernel
theorem dX11_timeAll_66 : decode cX11_timeAll 66 = .ok (.getfield 50, 3) := by decide +kernel
theorem dX11_timeAll_69 : decode cX11_timeAll 69 = .ok (.aload_n 0, 1) := by decide +kernel
theorem dX11_timeAll_70 : decode cX11_timeAll 70 = .ok (.getfield 71, 3) := by decide +kernel
theorem dX11_timeAll_73 : decode cX11_timeAll 73 = .ok (.iload_n 3, 1) := by decide +kernel
theorem dX11_timeAll_74 : decode cX11_timeAll 74 = .ok (.iaload, 1) := by decide +kernel
theorem dX11_timeAll_75 : decode cX11_timeAll 75 = .ok (.iaload, 1) := by decide +kernel
theorem dX11_timeAll_76 : decode cX11_timeAll 76 = .ok (.invokevirtual 193, 3) := by decide +kernel
theorem dX11_timeAll_79 : decode cX11_timeAll 79 = .ok (.aload_n 0, 1) := by decide +kernel
theorem dX11_timeAll_80 : decode cX11_timeAll 80 = .ok (.getfield 53, 3) := by decide +kernel
theorem dX11_timeAll_83 : decode cX11_timeAll 83 = .ok (.aload_n 0, 1) := by decide +kernel
theorem dX11_timeAll_84 : decode cX11_timeAll 84 = .ok (.getfield 71, 3) := by decide +kernel
theorem dX11_timeAll_87 : decode cX11_timeAll 87 = .ok (.iload_n 3, 1) := by decide +kernel
theorem dX11_timeAll_88 : decode cX11_timeAll 88 = .ok (.iaload, 1) := by decide +kernel
theorem dX11_timeAll_89 : decode cX11_timeAll 89 = .ok (.iaload, 1) := by decide +kernel
theorem dX11_timeAll_90 : decode cX11_timeAll 90 = .ok (.iconst (-1), 1) := by decide +kernel
theorem dX11_timeAll_91 : decode cX11_timeAll 91 = .ok (.if_icmp .eq 19, 3) := by decide +kernel
theorem dX11_timeAll_94 : decode cX11_timeAll 94 = .ok (.aload_n 0, 1) := by decide +kernel
theorem dX11_timeAll_95 : decode cX11_timeAll 95 = .ok (.iload_n 3, 1) := by decide +kernel
theorem dX11_timeAll_96 : decode cX11_timeAll 96 = .ok (.aload_n 0, 1) := by decide +kernel
theorem dX11_timeAll_97 : decode cX11_timeAll 97 = .ok (.getfield 53, 3) := by decide +kernel
theorem dX11_timeAll_100 : decode cX11_timeAll 100 = .ok (.aload_n 0, 1) := by decide +kernel
theorem dX11_timeAll_101 : decode cX11_timeAll 101 = .ok (.getfield 71, 3) := by decide +kernel
theorem dX11_timeAll_104 : decode cX11_timeAll 104 = .ok (.iload_n 3, 1) := by decide +kernel
theorem dX11_timeAll_105 : decode cX11_timeAll 105 = .ok (.iaload, 1) := by decide +kernel
theorem dX11_timeAll_106 : decode cX11_timeAll 106 = .ok (.iaload, 1) := by decide +kernel
theorem dX11_timeAll_107 : decode cX11_timeAll 107 = .ok (.invokevirtual 193, 3) := by decide +kernel
theorem dX11_timeAll_110 : decode cX11_timeAll 110 = .ok (.aload_n 0, 1) := by decide +kernel
theorem dX11_timeAll_111 : decode cX11_timeAll 111 = .ok (.aload_n 0, 1) := by decide +kernel
theorem dX11_timeAll_112 : decode cX11_timeAll 112 = .ok (.getfield 71, 3) := by decide +kernel
theorem dX11_timeAll_115 : decode cX11_timeAll 115 = .ok (.iload_n 3, 1) := by decide +kernel
theorem dX11_timeAll_116 : decode cX11_timeAll 116 = .ok (.iconst 1, 1) := by decide +kernel
theorem dX11_timeAll_117 : decode cX11_timeAll 117 = .ok (.isub, 1) := by decide +kernel
theorem dX11_timeAll_118 : decode cX11_timeAll 118 = .ok (.iaload, 1) := by decide +kernel
theorem dX11_timeAll_119 : decode cX11_timeAll 119 = .ok (.iload_n 3, 1) := by decide +kernel
theorem dX11_timeAll_120 : decode cX11_timeAll 120 = .ok (.iload_n 3, 1) := by decide +kernel
theorem dX11_timeAll_121 : decode cX11_timeAll 121 = .ok (.iconst 1, 1) := by decide +kernel
theorem dX11_timeAll_122 : decode cX11_timeAll 122 = .ok (.isub, 1) := by decide +kernel
theorem dX11_timeAll_123 : decode cX11_timeAll 123 = .ok (.invokevirtual 197, 3) := by decide +kernel
theorem dX11_timeAll_126 : decode cX11_timeAll 126 = .ok (.aload_n 0, 1) := by decide +kernel
theorem dX11_timeAll_127 : decode cX11_timeAll 127 = .ok (.aload_n 0, 1) := by decide +kernel
theorem dX11_timeAll_128 : decode cX11_timeAll 128 = .ok (.getfield 71, 3) := by decide +kernel
theorem dX11_timeAll_131 : decode cX11_timeAll 131 = .ok (.iload_n 3, 1) := by decide +kernel
theorem dX11_timeAll_132 : decode cX11_timeAll 132 = .ok (.iaload, 1) := by decide +kernel
theorem dX11_timeAll_133 : decode cX11_timeAll 133 = .ok (.iload_n 3, 1) := by decide +kernel
theorem dX11_timeAll_134 : decode cX11_timeAll 134 = .ok (.iload_n 3, 1) := by decide +kernel
theorem dX11_timeAll_135 : decode cX11_timeAll 135 = .ok (.invokevirtual 197, 3) := by decide +kernel
theorem dX11_timeAll_138 : decode cX11_timeAll 138 = .ok (.iinc 3 1, 3) := by decide +kernel
theorem dX11_timeAll_141 : decode cX11_timeAll 141 = .ok (.goto (-92), 3) := by decide +kernel
theorem dX11_timeAll_144 : decode cX11_timeAll 144 = .ok (.iinc 2 1, 3) := by decide +kernel
theorem dX11_timeAll_147 : decode cX11_timeAll 147 = .ok (.goto (-119), 3) := by decide +kernel
theorem dX11_timeAll_150 : decode cX11_timeAll 150 = .ok (.return_, 1) := by decide +kernel
theorem dX11_moment_0 : decode cX11_moment 0 = .ok (.aload_n 0, 1) := by decide +kernel
theorem dX11_moment_1 : decode cX11_moment 1 = .ok (.getfield 37, 3) := by decide +kernel
theorem dX11_moment_4 : decode cX11_moment 4 = .ok (.ifCond .eq 6, 3) := by decide +kernel
theorem dX11_moment_7 : decode cX11_moment 7 = .ok (.bipush (-103), 2) := by decide +kernel
theorem dX11_moment_9 : decode cX11_moment 9 = .ok (.ireturn, 1) := by decide +kernel
theorem dX11_moment_10 : decode cX11_moment 10 = .ok (.aload_n 0, 1) := by decide +kernel
theorem dX11_moment_11 : decode cX11_moment 11 = .ok (.iload_n 1, 1) := by decide +kernel
theorem dX11_moment_12 : decode cX11_moment 12 = .ok (.invokevirtual 165, 3) := by decide +kernel
theorem dX11_moment_15 : decode cX11_moment 15 = .ok (.ifCond .eq 19, 3) := by decide +kernel
theorem dX11_moment_18 : decode cX11_moment 18 = .ok (.iload_n 2, 1) := by decide +kernel
theorem dX11_moment_19 : decode cX11_moment 19 = .ok (.iconst 0, 1) := by decide +kernel
theorem dX11_moment_20 : decode cX11_moment 20 = .ok (.aload_n 0, 1) := by decide +kernel
theorem dX11_moment_21 : decode cX11_moment 21 = .ok (.getfield 56, 3) := by decide +kernel
theorem dX11_moment_24 : decode cX11_moment 24 = .ok (.iload_n 1, 1) := by decide +kernel
theorem dX11_moment_25 : decode cX11_moment 25 = .ok (.iaload, 1) := by decide +kernel
theorem dX11_moment_26 : decode cX11_moment 26 = .ok (.iconst 1, 1) := by decide +kernel
theorem dX11_moment_27 : decode cX11_moment 27 = .ok (.isub, 1) := by decide +kernel
theorem dX11_moment_28 : decode cX11_moment 28 = .ok (.invokestatic 86, 3) := by decide +kernel
theorem dX11_moment_31 : decode cX11_moment 31 = .ok (.ifCond .ne 6, 3) := by decide +kernel
theorem dX11_moment_34 : decode cX11_moment 34 = .ok (.bipush (-101), 2) := by decide +kernel
theorem dX11_moment_36 : decode cX11_moment 36 = .ok (.ireturn, 1) := by decide +kernel
theorem dX11_moment_37 : decode cX11_moment 37 = .ok (.aload_n 0, 1) := by decide +kernel
theorem dX11_moment_38 : decode cX11_moment 38 = .ok (.aload_n 0, 1) := by decide +kernel
theorem dX11_moment_39 : decode cX11_moment 39 = .ok (.iload_n 1, 1) := by decide +kernel
theorem dX11_moment_40 : decode cX11_moment 40 = .ok (.invokevirtual 177, 3) := by decide +kernel
theorem dX11_moment_43 : decode cX11_moment 43 = .ok (.invokevirtual 200, 3) := by decide +kernel
theorem dX11_moment_46 : decode cX11_moment 46 = .ok (.aload_n 0, 1) := by decide +kernel
theorem dX11_moment_47 : decode cX11_moment 47 = .ok (.getfield 74, 3) := by decide +kernel
theorem dX11_moment_50 : decode cX11_moment 50 = .ok (.iload_n 2, 1) := by decide +kernel
theorem dX11_moment_51 : decode cX11_moment 51 = .ok (.iconst 1, 1) := by decide +kernel
theorem dX11_moment_52 : decode cX11_moment 52 = .ok (.iadd, 1) := by decide +kernel
theorem dX11_moment_53 : decode cX11_moment 53 = .ok (.iaload, 1) := by decide +kernel
theorem dX11_moment_54 : decode cX11_moment 54 = .ok (.ireturn, 1) := by decide +kernel
theorem dX11_greatest_0 : decode cX11_greatest 0 = .ok (.iload_n 1, 1) := by decide +kernel
theorem dX11_greatest_1 : decode cX11_greatest 1 = .ok (.invokestatic 110, 3) := by decide +kernel
theorem dX11_greatest_4 : decode cX11_greatest 4 = .ok (.ifCond .eq 11, 3) := by decide +kernel
theorem dX11_greatest_7 : decode cX11_greatest 7 = .ok (.aload_n 0, 1) := by decide +kernel
theorem dX11_greatest_8 : decode cX11_greatest 8 = .ok (.iload_n 1, 1) := by decide +kernel
theorem dX11_greatest_9 : decode cX11_greatest 9 = .ok (.invokevirtual 129, 3) := by decide +kernel
theorem dX11_greatest_12 : decode cX11_greatest 12 = .ok (.goto 5, 3) := by decide +kernel
theorem dX11_greatest_15 : decode cX11_greatest 15 = .ok (.bipush (-101), 2) := by decide +kernel
theorem dX11_greatest_17 : decode cX11_greatest 17 = .ok (.ireturn, 1) := by decide +kernel
theorem dX11_passes_0 : decode cX11_passes 0 = .ok (.iload_n 0, 1) := by decide +kernel
theorem dX11_passes_1 : decode cX11_passes 1 = .ok (.bipush 64, 2) := by decide +kernel
theorem dX11_passes_3 : decode cX11_passes 3 = .ok (.iload_n 2, 1) := by decide +kernel
theorem dX11_passes_4 : decode cX11_passes 4 = .ok (.imul, 1) := by decide +kernel
theorem dX11_passes_5 : decode cX11_passes 5 = .ok (.isub, 1) := by decide +kernel
theorem dX11_passes_6 : decode cX11_passes 6 = .ok (.istore_n 3, 1) := by decide +kernel
theorem dX11_passes_7 : decode cX11_passes 7 = .ok (.iload_n 1, 1) := by decide +kernel
theorem dX11_passes_8 : decode cX11_passes 8 = .ok (.ifCond .ne 15, 3) := by decide +kernel
theorem dX11_passes_11 : decode cX11_passes 11 = .ok (.iload_n 3, 1) := by decide +kernel
theorem dX11_passes_12 : decode cX11_passes 12 = .ok (.ifCond .ge 7, 3) := by decide +kernel
theorem dX11_passes_15 : decode cX11_passes 15 = .ok (.iconst 1, 1) := by decide +kernel
theorem dX11_passes_16 : decode cX11_passes 16 = .ok (.goto 67, 3) := by decide +kernel
theorem dX11_passes_19 : decode cX11_passes 19 = .ok (.iconst 0, 1) := by decide +kernel
theorem dX11_passes_20 : decode cX11_passes 20 = .ok (.goto 63, 3) := by decide +kernel
theorem dX11_passes_23 : decode cX11_passes 23 = .ok (.iload_n 1, 1) := by decide +kernel
theorem dX11_passes_24 : decode cX11_passes 24 = .ok (.iconst 1, 1) := by decide +kernel
theorem dX11_passes_25 : decode cX11_passes 25 = .ok (.if_icmp .ne 15, 3) := by decide +kernel
theorem dX11_passes_28 : decode cX11_passes 28 = .ok (.iload_n 3, 1) := by decide +kernel
theorem dX11_passes_29 : decode cX11_passes 29 = .ok (.ifCond .gt 7, 3) := by decide +kernel
theorem dX11_passes_32 : decode cX11_passes 32 = .ok (.iconst 1, 1) := by decide +kernel
theorem dX11_passes_33 : decode cX11_passes 33 = .ok (.goto 50, 3) := by decide +kernel
theorem dX11_passes_36 : decode cX11_passes 36 = .ok (.iconst 0, 1) := by decide +kernel
theorem dX11_passes_37 : decode cX11_passes 37 = .ok (.goto 46, 3) := by decide +kernel
theorem dX11_passes_40 : decode cX11_passes 40 = .ok (.iload_n 1, 1) := by decide +kernel
theorem dX11_passes_41 : decode cX11_passes 41 = .ok (.iconst 2, 1) := by decide +kernel
theorem dX11_passes_42 : decode cX11_passes 42 = .ok (.if_icmp .ne 15, 3) := by decide +kernel
theorem dX11_passes_45 : decode cX11_passes 45 = .ok (.iload_n 3, 1) := by decide +kernel
theorem dX11_passes_46 : decode cX11_passes 46 = .ok (.ifCond .ne 7, 3) := by decide +kernel
theorem dX11_passes_49 : decode cX11_passes 49 = .ok (.iconst 1, 1) := by decide +kernel
theorem dX11_passes_50 : decode cX11_passes 50 = .ok (.goto 33, 3) := by decide +kernel
theorem dX11_passes_53 : decode cX11_passes 53 = .ok (.iconst 0, 1) := by decide +kernel
theorem dX11_passes_54 : decode cX11_passes 54 = .ok (.goto 29, 3) := by decide +kernel
theorem dX11_passes_57 : decode cX11_passes 57 = .ok (.iload_n 1, 1) := by decide +kernel
theorem dX11_passes_58 : decode cX11_passes 58 = .ok (.iconst 3, 1) := by decide +kernel
theorem dX11_passes_59 : decode cX11_passes 59 = .ok (.if_icmp .ne 15, 3) := by decide +kernel
theorem dX11_passes_62 : decode cX11_passes 62 = .ok (.iload_n 3, 1) := by decide +kernel
theorem dX11_passes_63 : decode cX11_passes 63 = .ok (.ifCond .lt 7, 3) := by decide +kernel
theorem dX11_passes_66 : decode cX11_passes 66 = .ok (.iconst 1, 1) := by decide +kernel
theorem dX11_passes_67 : decode cX11_passes 67 = .ok (.goto 16, 3) := by decide +kernel
theorem dX11_passes_70 : decode cX11_passes 70 = .ok (.iconst 0, 1) := by decide +kernel
theorem dX11_passes_71 : decode cX11_passes 71 = .ok (.goto 12, 3) := by decide +kernel
theorem dX11_passes_74 : decode cX11_passes 74 = .ok (.iload_n 3, 1) := by decide +kernel
theorem dX11_passes_75 : decode cX11_passes 75 = .ok (.ifCond .le 7, 3) := by decide +kernel
theorem dX11_passes_78 : decode cX11_passes 78 = .ok (.iconst 1, 1) := by decide +kernel
theorem dX11_passes_79 : decode cX11_passes 79 = .ok (.goto 4, 3) := by decide +kernel
theorem dX11_passes_82 : decode cX11_passes 82 = .ok (.iconst 0, 1) := by decide +kernel
theorem dX11_passes_83 : decode cX11_passes 83 = .ok (.ireturn, 1) := by decide +kernel
theorem dX11_areKept_0 : decode cX11_areKept 0 = .ok (.iconst 1, 1) := by decide +kernel
theorem dX11_areKept_1 : decode cX11_areKept 1 = .ok (.istore_n 1, 1) := by decide +kernel
theorem dX11_areKept_2 : decode cX11_areKept 2 = .ok (.iconst 0, 1) := by decide +kernel
theorem dX11_areKept_3 : decode cX11_areKept 3 = .ok (.istore_n 2, 1) := by decide +kernel
theorem dX11_areKept_4 : decode cX11_areKept 4 = .ok (.iload_n 2, 1) := by decide +kernel
theorem dX11_areKept_5 : decode cX11_areKept 5 = .ok (.iconst 3, 1) := by decide +kernel
theorem dX11_areKept_6 : decode cX11_areKept 6 = .ok (.if_icmp .ge 98, 3) := by decide +kernel
theorem dX11_areKept_9 : decode cX11_areKept 9 = .ok (.bipush 6, 2) := by decide +kernel
theorem dX11_areKept_11 : decode cX11_areKept 11 = .ok (.iload_n 2, 1) := by decide +kernel
theorem dX11_areKept_12 : decode cX11_areKept 12 = .ok (.imul, 1) := by decide +kernel
theorem dX11_areKept_13 : decode cX11_areKept 13 = .ok (.aload_n 0, 1) := by decide +kernel
theorem dX11_areKept_14 : decode cX11_areKept 14 = .ok (.getfield 65, 3) := by decide +kernel
theorem dX11_areKept_17 : decode cX11_areKept 17 = .ok (.iload_n 2, 1) := by decide +kernel
theorem dX11_areKept_18 : decode cX11_areKept 18 = .ok (.iaload, 1) := by decide +kernel
theorem dX11_areKept_19 : decode cX11_areKept 19 = .ok (.iadd, 1) := by decide +kernel
theorem dX11_areKept_20 : decode cX11_areKept 20 = .ok (.istore_n 3, 1) := by decide +kernel
theorem dX11_areKept_21 : decode cX11_areKept 21 = .ok (.iconst 0, 1) := by decide +kernel
theorem dX11_areKept_22 : decode cX11_areKept 22 = .ok (.istore 4, 2) := by decide +kernel
theorem dX11_areKept_24 : decode cX11_areKept 24 = .ok (.iload 4, 2) := by decide +kernel
theorem dX11_areKept_26 : decode cX11_areKept 26 = .ok (.aload_n 0, 1) := by decide +kernel
theorem dX11_areKept_27 : decode cX11_areKept 27 = .ok (.getfield 31, 3) := by decide +kernel
theorem dX11_areKept_30 : decode cX11_areKept 30 = .ok (.iload_n 3, 1) := by decide +kernel
theorem dX11_areKept_31 : decode cX11_areKept 31 = .ok (.iaload, 1) := by decide +kernel
theorem dX11_areKept_32 : decode cX11_areKept 32 = .ok (.if_icmp .ge 66, 3) := by decide +kernel
theorem dX11_areKept_35 : decode cX11_areKept 35 = .ok (.bipush 6, 2) := by decide +kernel
theorem dX11_areKept_37 : decode cX11_areKept 37 = .ok (.iload_n 3, 1) := by decide +kernel
theorem dX11_areKept_38 : decode cX11_areKept 38 = .ok (.imul, 1) := by decide +kernel
theorem dX11_areKept_39 : decode cX11_areKept 39 = .ok (.iconst 3, 1) := by decide +kernel
theorem dX11_areKept_40 : decode cX11_areKept 40 = .ok (.iload 4, 2) := by decide +kernel
theorem dX11_areKept_42 : decode cX11_areKept 42 = .ok (.imul, 1) := by decide +kernel
theorem dX11_areKept_43 : decode cX11_areKept 43 = .ok (.iadd, 1) := by decide +kernel
theorem dX11_areKept_44 : decode cX11_areKept 44 = .ok (.istore 5, 2) := by decide +kernel
theorem dX11_areKept_46 : decode cX11_areKept 46 = .ok (.iload_n 1, 1) := by decide +kernel
theorem dX11_areKept_47 : decode cX11_areKept 47 = .ok (.ifCond .eq 43, 3) := by decide +kernel
theorem dX11_areKept_50 : decode cX11_areKept 50 = .ok (.aload_n 0, 1) := by decide +kernel
theorem dX11_areKept_51 : decode cX11_areKept 51 = .ok (.getfield 68, 3) := by decide +kernel
theorem dX11_areKept_54 : decode cX11_areKept 54 = .ok (.aload_n 0, 1) := by decide +kernel
theorem dX11_areKept_55 : decode cX11_areKept 55 = .ok (.getfield 34, 3) := by decide +kernel
theorem dX11_areKept_58 : decode cX11_areKept 58 = .ok (.iload 5, 2) := by decide +kernel
theorem dX11_areKept_60 : decode cX11_areKept 60 = .ok (.iaload, 1) := by decide +kernel
theorem dX11_areKept_61 : decode cX11_areKept 61 = .ok (.iaload, 1) := by decide +kernel
theorem dX11_areKept_62 : decode cX11_areKept 62 = .ok (.aload_n 0, 1) := by decide +kernel
theorem dX11_areKept_63 : decode cX11_areKept 63 = .ok (.getfield 34, 3) := by decide +kernel
theorem dX11_areKept_66 : decode cX11_areKept 66 = .ok (.iload 5, 2) := by decide +kernel
theorem dX11_areKept_68 : decode cX11_areKept 68 = .ok (.iconst 1, 1) := by decide +kernel
theorem dX11_areKept_69 : decode cX11_areKept 69 = .ok (.iadd, 1) := by decide +kernel
theorem dX11_areKept_70 : decode cX11_areKept 70 = .ok (.iaload, 1) := by decide +kernel
theorem dX11_areKept_71 : decode cX11_areKept 71 = .ok (.aload_n 0, 1) := by decide +kernel
theorem dX11_areKept_72 : decode cX11_areKept 72 = .ok (.getfield 34, 3) := by decide +kernel
theorem dX11_areKept_75 : decode cX11_areKept 75 = .ok (.iload 5, 2) := by decide +kernel
theorem dX11_areKept_77 : decode cX11_areKept 77 = .ok (.iconst 2, 1) := by decide +kernel
theorem dX11_areKept_78 : decode cX11_areKept 78 = .ok (.iadd, 1) := by decide +kernel
theorem dX11_areKept_79 : decode cX11_areKept 79 = .ok (.iaload, 1) := by decide +kernel
theorem dX11_areKept_80 : decode cX11_areKept 80 = .ok (.invokestatic 203, 3) := by decide +kernel
theorem dX11_areKept_83 : decode cX11_areKept 83 = .ok (.ifCond .eq 7, 3) := by decide +kernel
theorem dX11_areKept_86 : decode cX11_areKept 86 = .ok (.iconst 1, 1) := by decide +kernel
theorem dX11_areKept_87 : decode cX11_areKept 87 = .ok (.goto 4, 3) := by decide +kernel
theorem dX11_areKept_90 : decode cX11_areKept 90 = .ok (.iconst 0, 1) := by decide +kernel
theorem dX11_areKept_91 : decode cX11_areKept 91 = .ok (.istore_n 1, 1) := by decide +kernel
theorem dX11_areKept_92 : decode cX11_areKept 92 = .ok (.iinc 4 1, 3) := by decide +kernel
theorem dX11_areKept_95 : decode cX11_areKept 95 = .ok (.goto (-71), 3) := by decide +kernel
theorem dX11_areKept_98 : decode cX11_areKept 98 = .ok (.iinc 2 1, 3) := by decide +kernel
theorem dX11_areKept_101 : decode cX11_areKept 101 = .ok (.goto (-97), 3) := by decide +kernel
theorem dX11_areKept_104 : decode cX11_areKept 104 = .ok (.iload_n 1, 1) := by decide +kernel
theorem dX11_areKept_105 : decode cX11_areKept 105 = .ok (.ireturn, 1) := by decide +kernel
theorem dX11_look_0 : decode cX11_look 0 = .ok (.iconst 0, 1) := by decide +kernel
theorem dX11_look_1 : decode cX11_look 1 = .ok (.istore_n 1, 1) := by decide +kernel
theorem dX11_look_2 : decode cX11_look 2 = .ok (.iload_n 1, 1) := by decide +kernel
theorem dX11_look_3 : decode cX11_look 3 = .ok (.iconst 3, 1) := by decide +kernel
theorem dX11_look_4 : decode cX11_look 4 = .ok (.if_icmp .ge 21, 3) := by decide +kernel
theorem dX11_look_7 : decode cX11_look 7 = .ok (.aload_n 0, 1) := by decide +kernel
theorem dX11_look_8 : decode cX11_look 8 = .ok (.getfield 65, 3) := by decide +kernel
theorem dX11_look_11 : decode cX11_look 11 = .ok (.iload_n 1, 1) := by decide +kernel
theorem dX11_look_12 : decode cX11_look 12 = .ok (.aload_n 0, 1) := by decide +kernel
theorem dX11_look_13 : decode cX11_look 13 = .ok (.getfield 77, 3) := by decide +kernel
theorem dX11_look_16 : decode cX11_look 16 = .ok (.iload_n 1, 1) := by decide +kernel
theorem dX11_look_17 : decode cX11_look 17 = .ok (.iaload, 1) := by decide +kernel
theorem dX11_look_18 : decode cX11_look 18 = .ok (.iastore, 1) := by decide +kernel
theorem dX11_look_19 : decode cX11_look 19 = .ok (.iinc 1 1, 3) := by decide +kernel
theorem dX11_look_22 : decode cX11_look 22 = .ok (.goto (-20), 3) := by decide +kernel
theorem dX11_look_25 : decode cX11_look 25 = .ok (.iconst 0, 1) := by decide +kernel
theorem dX11_look_26 : decode cX11_look 26 = .ok (.istore_n 1, 1) := by decide +kernel
theorem dX11_look_27 : decode cX11_look 27 = .ok (.iload_n 1, 1) := by decide +kernel
theorem dX11_look_28 : decode cX11_look 28 = .ok (.iconst 4, 1) := by decide +kernel
theorem dX11_look_29 : decode cX11_look 29 = .ok (.if_icmp .ge 21, 3) := by decide +kernel
theorem dX11_look_32 : decode cX11_look 32 = .ok (.aload_n 0, 1) := by decide +kernel
theorem dX11_look_33 : decode cX11_look 33 = .ok (.getfield 68, 3) := by decide +kernel
theorem dX11_look_36 : decode cX11_look 36 = .ok (.iload_n 1, 1) := by decide +kernel
theorem dX11_look_37 : decode cX11_look 37 = .ok (.aload_n 0, 1) := by decide +kernel
theorem dX11_look_38 : decode cX11_look 38 = .ok (.getfield 80, 3) := by decide +kernel
theorem dX11_look_41 : decode cX11_look 41 = .ok (.iload_n 1, 1) := by decide +kernel
theorem dX11_look_42 : decode cX11_look 42 = .ok (.iaload, 1) := by decide +kernel
theorem dX11_look_43 : decode cX11_look 43 = .ok (.iastore, 1) := by decide +kernel
theorem dX11_look_44 : decode cX11_look 44 = .ok (.iinc 1 1, 3) := by decide +kernel
theorem dX11_look_47 : decode cX11_look 47 = .ok (.goto (-20), 3) := by decide +kernel
theorem dX11_look_50 : decode cX11_look 50 = .ok (.return_, 1) := by decide +kernel
theorem dX11_become_0 : decode cX11_become 0 = .ok (.iconst 0, 1) := by decide +kernel
theorem dX11_become_1 : decode cX11_become 1 = .ok (.istore_n 1, 1) := by decide +kernel
theorem dX11_become_2 : decode cX11_become 2 = .ok (.iload_n 1, 1) := by decide +kernel
theorem dX11_become_3 : decode cX11_become 3 = .ok (.iconst 3, 1) := by decide +kernel
theorem dX11_become_4 : decode cX11_become 4 = .ok (.if_icmp .ge 21, 3) := by decide +kernel
theorem dX11_become_7 : decode cX11_become 7 = .ok (.aload_n 0, 1) := by decide +kernel
theorem dX11_become_8 : decode cX11_become 8 = .ok (.getfield 77, 3) := by decide +kernel
theorem dX11_become_11 : decode cX11_become 11 = .ok (.iload_n 1, 1) := by decide +kernel
theorem dX11_become_12 : decode cX11_become 12 = .ok (.aload_n 0, 1) := by decide +kernel
theorem dX11_become_13 : decode cX11_become 13 = .ok (.getfield 65, 3) := by decide +kernel
theorem dX11_become_16 : decode cX11_become 16 = .ok (.iload_n 1, 1) := by decide +kernel
theorem dX11_become_17 : decode cX11_become 17 = .ok (.iaload, 1) := by decide +kernel
theorem dX11_become_18 : decode cX11_become 18 = .ok (.iastore, 1) := by decide +kernel
theorem dX11_become_19 : decode cX11_become 19 = .ok (.iinc 1 1, 3) := by decide +kernel
theorem dX11_become_22 : decode cX11_become 22 = .ok (.goto (-20), 3) := by decide +kernel
theorem dX11_become_25 : decode cX11_become 25 = .ok (.iconst 0, 1) := by decide +kernel
theorem dX11_become_26 : decode cX11_become 26 = .ok (.istore_n 1, 1) := by decide +kernel
theorem dX11_become_27 : decode cX11_become 27 = .ok (.iload_n 1, 1) := by decide +kernel
theorem dX11_become_28 : decode cX11_become 28 = .ok (.iconst 4, 1) := by decide +kernel
theorem dX11_become_29 : decode cX11_become 29 = .ok (.if_icmp .ge 21, 3) := by decide +kernel
theorem dX11_become_32 : decode cX11_become 32 = .ok (.aload_n 0, 1) := by decide +kernel
theorem dX11_become_33 : decode cX11_become 33 = .ok (.getfield 80, 3) := by decide +kernel
theorem dX11_become_36 : decode cX11_become 36 = .ok (.iload_n 1, 1) := by decide +kernel
theorem dX11_become_37 : decode cX11_become 37 = .ok (.aload_n 0, 1) := by decide +kernel
theorem dX11_become_38 : decode cX11_become 38 = .ok (.getfield 68, 3) := by decide +kernel
theorem dX11_become_41 : decode cX11_become 41 = .ok (.iload_n 1, 1) := by decide +kernel
theorem dX11_become_42 : decode cX11_become 42 = .ok (.iaload, 1) := by decide +kernel
theorem dX11_become_43 : decode cX11_become 43 = .ok (.iastore, 1) := by decide +kernel
theorem dX11_become_44 : decode cX11_become 44 = .ok (.iinc 1 1, 3) := by decide +kernel
theorem dX11_become_47 : decode cX11_become 47 = .ok (.goto (-20), 3) := by decide +kernel
theorem dX11_become_50 : decode cX11_become 50 = .ok (.return_, 1) := by decide +kernel
theorem dX11_begin_0 : decode cX11_begin 0 = .ok (.iconst 0, 1) := by decide +kernel
theorem dX11_begin_1 : decode cX11_begin 1 = .ok (.istore_n 1, 1) := by decide +kernel
theorem dX11_begin_2 : decode cX11_begin 2 = .ok (.iload_n 1, 1) := by decide +kernel
theorem dX11_begin_3 : decode cX11_begin 3 = .ok (.iconst 3, 1) := by decide +kernel
theorem dX11_begin_4 : decode cX11_begin 4 = .ok (.if_icmp .ge 16, 3) := by decide +kernel
theorem dX11_begin_7 : decode cX11_begin 7 = .ok (.aload_n 0, 1) := by decide +kernel
theorem dX11_begin_8 : decode cX11_begin 8 = .ok (.getfield 65, 3) := by decide +kernel
theorem dX11_begin_11 : decode cX11_begin 11 = .ok (.iload_n 1, 1) := by decide +kernel
theorem dX11_begin_12 : decode cX11_begin 12 = .ok (.iconst 0, 1) := by decide +kernel
theorem dX11_begin_13 : decode cX11_begin 13 = .ok (.iastore, 1) := by decide +kernel
theorem dX11_begin_14 : decode cX11_begin 14 = .ok (.iinc 1 1, 3) := by decide +kernel
theorem dX11_begin_17 : decode cX11_begin 17 = .ok (.goto (-15), 3) := by decide +kernel
theorem dX11_begin_20 : decode cX11_begin 20 = .ok (.iconst 0, 1) := by decide +kernel
theorem dX11_begin_21 : decode cX11_begin 21 = .ok (.istore_n 1, 1) := by decide +kernel
theorem dX11_begin_22 : decode cX11_begin 22 = .ok (.iload_n 1, 1) := by decide +kernel
theorem dX11_begin_23 : decode cX11_begin 23 = .ok (.iconst 4, 1) := by decide +kernel
theorem dX11_begin_24 : decode cX11_begin 24 = .ok (.if_icmp .ge 16, 3) := by decide +kernel
theorem dX11_begin_27 : decode cX11_begin 27 = .ok (.aload_n 0, 1) := by decide +kernel
theorem dX11_begin_28 : decode cX11_begin 28 = .ok (.getfield 68, 3) := by decide +kernel
theorem dX11_begin_31 : decode cX11_begin 31 = .ok (.iload_n 1, 1) := by decide +kernel
theorem dX11_begin_32 : decode cX11_begin 32 = .ok (.iconst 0, 1) := by decide +kernel
theorem dX11_begin_33 : decode cX11_begin 33 = .ok (.iastore, 1) := by decide +kernel
theorem dX11_begin_34 : decode cX11_begin 34 = .ok (.iinc 1 1, 3) := by decide +kernel
theorem dX11_begin_37 : decode cX11_begin 37 = .ok (.goto (-15), 3) := by decide +kernel
theorem dX11_begin_40 : decode cX11_begin 40 = .ok (.aload_n 0, 1) := by decide +kernel
theorem dX11_begin_41 : decode cX11_begin 41 = .ok (.aload_n 0, 1) := by decide +kernel
theorem dX11_begin_42 : decode cX11_begin 42 = .ok (.invokevirtual 206, 3) := by decide +kernel
theorem dX11_begin_45 : decode cX11_begin 45 = .ok (.putfield 83, 3) := by decide +kernel
theorem dX11_begin_48 : decode cX11_begin 48 = .ok (.aload_n 0, 1) := by decide +kernel
theorem dX11_begin_49 : decode cX11_begin 49 = .ok (.invokevirtual 209, 3) := by decide +kernel
theorem dX11_begin_52 : decode cX11_begin 52 = .ok (.aload_n 0, 1) := by decide +kernel
theorem dX11_begin_53 : decode cX11_begin 53 = .ok (.iconst 0, 1) := by decide +kernel
theorem dX11_begin_54 : decode cX11_begin 54 = .ok (.putfield 212, 3) := by decide +kernel
theorem dX11_begin_57 : decode cX11_begin 57 = .ok (.aload_n 0, 1) := by decide +kernel
theorem dX11_begin_58 : decode cX11_begin 58 = .ok (.iconst 0, 1) := by decide +kernel
theorem dX11_begin_59 : decode cX11_begin 59 = .ok (.putfield 215, 3) := by decide +kernel
theorem dX11_begin_62 : decode cX11_begin 62 = .ok (.aload_n 0, 1) := by decide +kernel
theorem dX11_begin_63 : decode cX11_begin 63 = .ok (.getfield 83, 3) := by decide +kernel
theorem dX11_begin_66 : decode cX11_begin 66 = .ok (.ifCond .eq 7, 3) := by decide +kernel
theorem dX11_begin_69 : decode cX11_begin 69 = .ok (.iconst 1, 1) := by decide +kernel
theorem dX11_begin_70 : decode cX11_begin 70 = .ok (.goto 4, 3) := by decide +kernel
theorem dX11_begin_73 : decode cX11_begin 73 = .ok (.iconst 0, 1) := by decide +kernel
theorem dX11_begin_74 : decode cX11_begin 74 = .ok (.ireturn, 1) := by decide +kernel
theorem dX11_pass_0 : decode cX11_pass 0 = .ok (.iload_n 1, 1) := by decide +kernel
theorem dX11_pass_1 : decode cX11_pass 1 = .ok (.iconst 1, 1) := by decide +kernel
theorem dX11_pass_2 : decode cX11_pass 2 = .ok (.ldc 218, 2) := by decide +kernel
theorem dX11_pass_4 : decode cX11_pass 4 = .ok (.invokestatic 86, 3) := by decide +kernel
theorem dX11_pass_7 : decode cX11_pass 7 = .ok (.ifCond .ne 6, 3) := by decide +kernel
theorem dX11_pass_10 : decode cX11_pass 10 = .ok (.bipush (-102), 2) := by decide +kernel
theorem dX11_pass_12 : decode cX11_pass 12 = .ok (.ireturn, 1) := by decide +kernel
theorem dX11_pass_13 : decode cX11_pass 13 = .ok (.aload_n 0, 1) := by decide +kernel
theorem dX11_pass_14 : decode cX11_pass 14 = .ok (.getfield 83, 3) := by decide +kernel
theorem dX11_pass_17 : decode cX11_pass 17 = .ok (.ifCond .ne 6, 3) := by decide +kernel
theorem dX11_pass_20 : decode cX11_pass 20 = .ok (.bipush (-103), 2) := by decide +kernel
theorem dX11_pass_22 : decode cX11_pass 22 = .ok (.ireturn, 1) := by decide +kernel
theorem dX11_pass_23 : decode cX11_pass 23 = .ok (.aload_n 0, 1) := by decide +kernel
theorem dX11_pass_24 : decode cX11_pass 24 = .ok (.invokevirtual 219, 3) := by decide +kernel
theorem dX11_pass_27 : decode cX11_pass 27 = .ok (.iconst 0, 1) := by decide +kernel
theorem dX11_pass_28 : decode cX11_pass 28 = .ok (.istore_n 2, 1) := by decide +kernel
theorem dX11_pass_29 : decode cX11_pass 29 = .ok (.iconst 1, 1) := by decide +kernel
theorem dX11_pass_30 : decode cX11_pass 30 = .ok (.istore_n 3, 1) := by decide +kernel
theorem dX11_pass_31 : decode cX11_pass 31 = .ok (.iload_n 3, 1) := by decide +kernel
theorem dX11_pass_32 : decode cX11_pass 32 = .ok (.iconst 4, 1) := by decide +kernel
theorem dX11_pass_33 : decode cX11_pass 33 = .ok (.if_icmp .ge 40, 3) := by decide +kernel
theorem dX11_pass_36 : decode cX11_pass 36 = .ok (.aload_n 0, 1) := by decide +kernel
theorem dX11_pass_37 : decode cX11_pass 37 = .ok (.getfield 68, 3) := by decide +kernel
theorem dX11_pass_40 : decode cX11_pass 40 = .ok (.iload_n 3, 1) := by decide +kernel
theorem dX11_pass_41 : decode cX11_pass 41 = .ok (.dup2, 1) := by decide +kernel
theorem dX11_pass_42 : decode cX11_pass 42 = .ok (.iaload, 1) := by decide +kernel
theorem dX11_pass_43 : decode cX11_pass 43 = .ok (.iload_n 1, 1) := by decide +kernel
theorem dX11_pass_44 : decode cX11_pass 44 = .ok (.iadd, 1) := by decide +kernel
theorem dX11_pass_45 : decode cX11_pass 45 = .ok (.iastore, 1) := by decide +kernel
theorem dX11_pass_46 : decode cX11_pass 46 = .ok (.iload_n 2, 1) := by decide +kernel
theorem dX11_pass_47 : decode cX11_pass 47 = .ok (.ifCond .ne 14, 3) := by decide +kernel
theorem dX11_pass_50 : decode cX11_pass 50 = .ok (.aload_n 0, 1) := by decide +kernel
theorem dX11_pass_51 : decode cX11_pass 51 = .ok (.getfield 68, 3) := by decide +kernel
theorem dX11_pass_54 : decode cX11_pass 54 = .ok (.iload_n 3, 1) := by decide +kernel
theorem dX11_pass_55 : decode cX11_pass 55 = .ok (.iaload, 1) := by decide +kernel
theorem dX11_pass_56 : decode cX11_pass 56 = .ok (.ldc 173, 2) := by decide +kernel
theorem dX11_pass_58 : decode cX11_pass 58 = .ok (.if_icmp .le 7, 3) := by decide +kernel
theorem dX11_pass_61 : decode cX11_pass 61 = .ok (.iconst 1, 1) := by decide +kernel
theorem dX11_pass_62 : decode cX11_pass 62 = .ok (.goto 4, 3) := by decide +kernel
theorem dX11_pass_65 : decode cX11_pass 65 = .ok (.iconst 0, 1) := by decide +kernel
theorem dX11_pass_66 : decode cX11_pass 66 = .ok (.istore_n 2, 1) := by decide +kernel
theorem dX11_pass_67 : decode cX11_pass 67 = .ok (.iinc 3 1, 3) := by decide +kernel
theorem dX11_pass_70 : decode cX11_pass 70 = .ok (.goto (-39), 3) := by decide +kernel
theorem dX11_pass_73 : decode cX11_pass 73 = .ok (.iload_n 2, 1) := by decide +kernel
theorem dX11_pass_74 : decode cX11_pass 74 = .ok (.ifCond .eq 6, 3) := by decide +kernel
theorem dX11_pass_77 : decode cX11_pass 77 = .ok (.bipush (-103), 2) := by decide +kernel
theorem dX11_pass_79 : decode cX11_pass 79 = .ok (.ireturn, 1) := by decide +kernel
theorem dX11_pass_80 : decode cX11_pass 80 = .ok (.aload_n 0, 1) := by decide +kernel
theorem dX11_pass_81 : decode cX11_pass 81 = .ok (.invokevirtual 206, 3) := by decide +kernel
theorem dX11_pass_84 : decode cX11_pass 84 = .ok (.ifCond .ne 5, 3) := by decide +kernel
theorem dX11_pass_87 : decode cX11_pass 87 = .ok (.iconst 0, 1) := by decide +kernel
theorem dX11_pass_88 : decode cX11_pass 88 = .ok (.ireturn, 1) := by decide +kernel
theorem dX11_pass_89 : decode cX11_pass 89 = .ok (.aload_n 0, 1) := by decide +kernel
theorem dX11_pass_90 : decode cX11_pass 90 = .ok (.invokevirtual 209, 3) := by decide +kernel
theorem dX11_pass_93 : decode cX11_pass 93 = .ok (.aload_n 0, 1) := by decide +kernel
theorem dX11_pass_94 : decode cX11_pass 94 = .ok (.dup, 1) := by decide +kernel
theorem dX11_pass_95 : decode cX11_pass 95 = .ok (.getfield 212, 3) := by decide +kernel
theorem dX11_pass_98 : decode cX11_pass 98 = .ok (.iload_n 1, 1) := by decide +kernel
theorem dX11_pass_99 : decode cX11_pass 99 = .ok (.iadd, 1) := by decide +kernel
theorem dX11_pass_100 : decode cX11_pass 100 = .ok (.putfield 212, 3) := by decide +kernel
theorem dX11_pass_103 : decode cX11_pass 103 = .ok (.iconst 1, 1) := by decide +kernel
theorem dX11_pass_104 : decode cX11_pass 104 = .ok (.ireturn, 1) := by decide +kernel
theorem dX11_isOpen_0 : decode cX11_isOpen 0 = .ok (.aload_n 0, 1) := by decide +kernel
theorem dX11_isOpen_1 : decode cX11_isOpen 1 = .ok (.getfield 65, 3) := by decide +kernel
theorem dX11_isOpen_4 : decode cX11_isOpen 4 = .ok (.aload_n 0, 1) := by decide +kernel
theorem dX11_isOpen_5 : decode cX11_isOpen 5 = .ok (.getfield 7, 3) := by decide +kernel
theorem dX11_isOpen_8 : decode cX11_isOpen 8 = .ok (.iload_n 1, 1) := by decide +kernel
theorem dX11_isOpen_9 : decode cX11_isOpen 9 = .ok (.iaload, 1) := by decide +kernel
theorem dX11_isOpen_10 : decode cX11_isOpen 10 = .ok (.iaload, 1) := by decide +kernel
theorem dX11_isOpen_11 : decode cX11_isOpen 11 = .ok (.aload_n 0, 1) := by decide +kernel
theorem dX11_isOpen_12 : decode cX11_isOpen 12 = .ok (.getfield 13, 3) := by decide +kernel
theorem dX11_isOpen_15 : decode cX11_isOpen 15 = .ok (.iload_n 1, 1) := by decide +kernel
theorem dX11_isOpen_16 : decode cX11_isOpen 16 = .ok (.iaload, 1) := by decide +kernel
theorem dX11_isOpen_17 : decode cX11_isOpen 17 = .ok (.if_icmp .ne 7, 3) := by decide +kernel
theorem dX11_isOpen_20 : decode cX11_isOpen 20 = .ok (.iconst 1, 1) := by decide +kernel
theorem dX11_isOpen_21 : decode cX11_isOpen 21 = .ok (.goto 4, 3) := by decide +kernel
theorem dX11_isOpen_24 : decode cX11_isOpen 24 = .ok (.iconst 0, 1) := by decide +kernel
theorem dX11_isOpen_25 : decode cX11_isOpen 25 = .ok (.istore_n 2, 1) := by decide +kernel
theorem dX11_isOpen_26 : decode cX11_isOpen 26 = .ok (.iconst 0, 1) := by decide +kernel
theorem dX11_isOpen_27 : decode cX11_isOpen 27 = .ok (.istore_n 3, 1) := by decide +kernel
theorem dX11_isOpen_28 : decode cX11_isOpen 28 = .ok (.iload_n 3, 1) := by decide +kernel
theorem dX11_isOpen_29 : decode cX11_isOpen 29 = .ok (.aload_n 0, 1) := by decide +kernel
theorem dX11_isOpen_30 : decode cX11_isOpen 30 = .ok (.getfield 25, 3) := by decide +kernel
theorem dX11_isOpen_33 : decode cX11_isOpen 33 = .ok (.iload_n 1, 1) := by decide +kernel
theorem dX11_isOpen_34 : decode cX11_isOpen 34 = .ok (.iaload, 1) := by decide +kernel
theorem dX11_isOpen_35 : decode cX11_isOpen 35 = .ok (.if_icmp .ge 65, 3) := by decide +kernel
theorem dX11_isOpen_38 : decode cX11_isOpen 38 = .ok (.bipush 6, 2) := by decide +kernel
theorem dX11_isOpen_40 : decode cX11_isOpen 40 = .ok (.iload_n 1, 1) := by decide +kernel
theorem dX11_isOpen_41 : decode cX11_isOpen 41 = .ok (.imul, 1) := by decide +kernel
theorem dX11_isOpen_42 : decode cX11_isOpen 42 = .ok (.iconst 3, 1) := by decide +kernel
theorem dX11_isOpen_43 : decode cX11_isOpen 43 = .ok (.iload_n 3, 1) := by decide +kernel
theorem dX11_isOpen_44 : decode cX11_isOpen 44 = .ok (.imul, 1) := by decide +kernel
theorem dX11_isOpen_45 : decode cX11_isOpen 45 = .ok (.iadd, 1) := by decide +kernel
theorem dX11_isOpen_46 : decode cX11_isOpen 46 = .ok (.istore 4, 2) := by decide +kernel
theorem dX11_isOpen_48 : decode cX11_isOpen 48 = .ok (.iload_n 2, 1) := by decide +kernel
theorem dX11_isOpen_49 : decode cX11_isOpen 49 = .ok (.ifCond .eq 43, 3) := by decide +kernel
theorem dX11_isOpen_52 : decode cX11_isOpen 52 = .ok (.aload_n 0, 1) := by decide +kernel
theorem dX11_isOpen_53 : decode cX11_isOpen 53 = .ok (.getfield 68, 3) := by decide +kernel
theorem dX11_isOpen_56 : decode cX11_isOpen 56 = .ok (.aload_n 0, 1) := by decide +kernel
theorem dX11_isOpen_57 : decode cX11_isOpen 57 = .ok (.getfield 28, 3) := by decide +kernel
theorem dX11_isOpen_60 : decode cX11_isOpen 60 = .ok (.iload 4, 2) := by decide +kernel
theorem dX11_isOpen_62 : decode cX11_isOpen 62 = .ok (.iaload, 1) := by decide +kernel
theorem dX11_isOpen_63 : decode cX11_isOpen 63 = .ok (.iaload, 1) := by decide +kernel
theorem dX11_isOpen_64 : decode cX11_isOpen 64 = .ok (.aload_n 0, 1) := by decide +kernel
theorem dX11_isOpen_65 : decode cX11_isOpen 65 = .ok (.getfield 28, 3) := by decide +kernel
theorem dX11_isOpen_68 : decode cX11_isOpen 68 = .ok (.iload 4, 2) := by decide +kernel
theorem dX11_isOpen_70 : decode cX11_isOpen 70 = .ok (.iconst 1, 1) := by decide +kernel
theorem dX11_isOpen_71 : decode cX11_isOpen 71 = .ok (.iadd, 1) := by decide +kernel
theorem dX11_isOpen_72 : decode cX11_isOpen 72 = .ok (.iaload, 1) := by decide +kernel
theorem dX11_isOpen_73 : decode cX11_isOpen 73 = .ok (.aload_n 0, 1) := by decide +kernel
theorem dX11_isOpen_74 : decode cX11_isOpen 74 = .ok (.getfield 28, 3) := by decide +kernel
theorem dX11_isOpen_77 : decode cX11_isOpen 77 = .ok (.iload 4, 2) := by decide +kernel
theorem dX11_isOpen_79 : decode cX11_isOpen 79 = .ok (.iconst 2, 1) := by decide +kernel
theorem dX11_isOpen_80 : decode cX11_isOpen 80 = .ok (.iadd, 1) := by decide +kernel
theorem dX11_isOpen_81 : decode cX11_isOpen 81 = .ok (.iaload, 1) := by decide +kernel
theorem dX11_isOpen_82 : decode cX11_isOpen 82 = .ok (.invokestatic 203, 3) := by decide +kernel
theorem dX11_isOpen_85 : decode cX11_isOpen 85 = .ok (.ifCond .eq 7, 3) := by decide +kernel
theorem dX11_isOpen_88 : decode cX11_isOpen 88 = .ok (.iconst 1, 1) := by decide +kernel
theorem dX11_isOpen_89 : decode cX11_isOpen 89 = .ok (.goto 4, 3) := by decide +kernel
theorem dX11_isOpen_92 : decode cX11_isOpen 92 = .ok (.iconst 0, 1) := by decide +kernel
theorem dX11_isOpen_93 : decode cX11_isOpen 93 = .ok (.istore_n 2, 1) := by decide +kernel
theorem dX11_isOpen_94 : decode cX11_isOpen 94 = .ok (.iinc 3 1, 3) := by decide +kernel
theorem dX11_isOpen_97 : decode cX11_isOpen 97 = .ok (.goto (-69), 3) := by decide +kernel
theorem dX11_isOpen_100 : decode cX11_isOpen 100 = .ok (.iload_n 2, 1) := by decide +kernel
theorem dX11_isOpen_101 : decode cX11_isOpen 101 = .ok (.ireturn, 1) := by decide +kernel
theorem dX11_go_0 : decode cX11_go 0 = .ok (.aload_n 0, 1) := by decide +kernel
theorem dX11_go_1 : decode cX11_go 1 = .ok (.getfield 65, 3) := by decide +kernel
theorem dX11_go_4 : decode cX11_go 4 = .ok (.aload_n 0, 1) := by decide +kernel
theorem dX11_go_5 : decode cX11_go 5 = .ok (.getfield 7, 3) := by decide +kernel
theorem dX11_go_8 : decode cX11_go 8 = .ok (.iload_n 1, 1) := by decide +kernel
theorem dX11_go_9 : decode cX11_go 9 = .ok (.iaload, 1) := by decide +kernel
theorem dX11_go_10 : decode cX11_go 10 = .ok (.aload_n 0, 1) := by decide +kernel
theorem dX11_go_11 : decode cX11_go 11 = .ok (.getfield 16, 3) := by decide +kernel
theorem dX11_go_14 : decode cX11_go 14 = .ok (.iload_n 1, 1) := by decide +kernel
theorem dX11_go_15 : decode cX11_go 15 = .ok (.iaload, 1) := by decide +kernel
theorem dX11_go_16 : decode cX11_go 16 = .ok (.iastore, 1) := by decide +kernel
theorem dX11_go_17 : decode cX11_go 17 = .ok (.iconst 1, 1) := by decide +kernel
theorem dX11_go_18 : decode cX11_go 18 = .ok (.istore_n 2, 1) := by decide +kernel
theorem dX11_go_19 : decode cX11_go 19 = .ok (.iload_n 2, 1) := by decide +kernel
theorem dX11_go_20 : decode cX11_go 20 = .ok (.iconst 4, 1) := by decide +kernel
theorem dX11_go_21 : decode cX11_go 21 = .ok (.if_icmp .ge 39, 3) := by decide +kernel
theorem dX11_go_24 : decode cX11_go 24 = .ok (.aload_n 0, 1) := by decide +kernel
theorem dX11_go_25 : decode cX11_go 25 = .ok (.getfield 68, 3) := by decide +kernel
theorem dX11_go_28 : decode cX11_go 28 = .ok (.iload_n 2, 1) := by decide +kernel
theorem dX11_go_29 : decode cX11_go 29 = .ok (.aload_n 0, 1) := by decide +kernel
theorem dX11_go_30 : decode cX11_go 30 = .ok (.getfield 22, 3) := by decide +kernel
theorem dX11_go_33 : decode cX11_go 33 = .ok (.iload_n 1, 1) := by decide +kernel
theorem dX11_go_34 : decode cX11_go 34 = .ok (.iaload, 1) := by decide +kernel
theorem dX11_go_35 : decode cX11_go 35 = .ok (.iload_n 2, 1) := by decide +kernel
theorem dX11_go_36 : decode cX11_go 36 = .ok (.ishr, 1) := by decide +kernel
theorem dX11_go_37 : decode cX11_go 37 = .ok (.iconst 1, 1) := by decide +kernel
theorem dX11_go_38 : decode cX11_go 38 = .ok (.iand, 1) := by decide +kernel
theorem dX11_go_39 : decode cX11_go 39 = .ok (.iconst 1, 1) := by decide +kernel
theorem dX11_go_40 : decode cX11_go 40 = .ok (.if_icmp .ne 7, 3) := by decide +kernel
theorem dX11_go_43 : decode cX11_go 43 = .ok (.iconst 0, 1) := by decide +kernel
theorem dX11_go_44 : decode cX11_go 44 = .ok (.goto 9, 3) := by decide +kernel
theorem dX11_go_47 : decode cX11_go 47 = .ok (.aload_n 0, 1) := by decide +kernel
theorem dX11_go_48 : decode cX11_go 48 = .ok (.getfield 68, 3) := by decide +kernel
theorem dX11_go_51 : decode cX11_go 51 = .ok (.iload_n 2, 1) := by decide +kernel
theorem dX11_go_52 : decode cX11_go 52 = .ok (.iaload, 1) := by decide +kernel
theorem dX11_go_53 : decode cX11_go 53 = .ok (.iastore, 1) := by decide +kernel
theorem dX11_go_54 : decode cX11_go 54 = .ok (.iinc 2 1, 3) := by decide +kernel
theorem dX11_go_57 : decode cX11_go 57 = .ok (.goto (-38), 3) := by decide +kernel
theorem dX11_go_60 : decode cX11_go 60 = .ok (.return_, 1) := by decide +kernel
theorem dX11_move_0 : decode cX11_move 0 = .ok (.aload_n 0, 1) := by decide +kernel
theorem dX11_move_1 : decode cX11_move 1 = .ok (.iload_n 1, 1) := by decide +kernel
theorem dX11_move_2 : decode cX11_move 2 = .ok (.invokevirtual 107, 3) := by decide +kernel
theorem dX11_move_5 : decode cX11_move 5 = .ok (.ifCond .eq 16, 3) := by decide +kernel
theorem dX11_move_8 : decode cX11_move 8 = .ok (.iload_n 2, 1) := by decide +kernel
theorem dX11_move_9 : decode cX11_move 9 = .ok (.iconst (-1), 1) := by decide +kernel
theorem dX11_move_10 : decode cX11_move 10 = .ok (.if_icmp .eq 14, 3) := by decide +kernel
theorem dX11_move_13 : decode cX11_move 13 = .ok (.aload_n 0, 1) := by decide +kernel
theorem dX11_move_14 : decode cX11_move 14 = .ok (.iload_n 2, 1) := by decide +kernel
theorem dX11_move_15 : decode cX11_move 15 = .ok (.invokevirtual 107, 3) := by decide +kernel
theorem dX11_move_18 : decode cX11_move 18 = .ok (.ifCond .ne 6, 3) := by decide +kernel
theorem dX11_move_21 : decode cX11_move 21 = .ok (.bipush (-101), 2) := by decide +kernel
theorem dX11_move_23 : decode cX11_move 23 = .ok (.ireturn, 1) := by decide +kernel
theorem dX11_move_24 : decode cX11_move 24 = .ok (.aload_n 0, 1) := by decide +kernel
theorem dX11_move_25 : decode cX11_move 25 = .ok (.iload_n 1, 1) := by decide +kernel
theorem dX11_move_26 : decode cX11_move 26 = .ok (.iload_n 2, 1) := by decide +kernel
theorem dX11_move_27 : decode cX11_move 27 = .ok (.invokevirtual 155, 3) := by decide +kernel
theorem dX11_move_30 : decode cX11_move 30 = .ok (.ifCond .ne 6, 3) := by decide +kernel
theorem dX11_move_33 : decode cX11_move 33 = .ok (.bipush (-102), 2) := by decide +kernel
theorem dX11_move_35 : decode cX11_move 35 = .ok (.ireturn, 1) := by decide +kernel
theorem dX11_move_36 : decode cX11_move 36 = .ok (.aload_n 0, 1) := by decide +kernel
theorem dX11_move_37 : decode cX11_move 37 = .ok (.getfield 83, 3) := by decide +kernel
theorem dX11_move_40 : decode cX11_move 40 = .ok (.ifCond .ne 6, 3) := by decide +kernel
theorem dX11_move_43 : decode cX11_move 43 = .ok (.bipush (-103), 2) := by decide +kernel
theorem dX11_move_45 : decode cX11_move 45 = .ok (.ireturn, 1) := by decide +kernel
theorem dX11_move_46 : decode cX11_move 46 = .ok (.aload_n 0, 1) := by decide +kernel
theorem dX11_move_47 : decode cX11_move 47 = .ok (.invokevirtual 219, 3) := by decide +kernel
theorem dX11_move_50 : decode cX11_move 50 = .ok (.aload_n 0, 1) := by decide +kernel
theorem dX11_move_51 : decode cX11_move 51 = .ok (.iload_n 1, 1) := by decide +kernel
theorem dX11_move_52 : decode cX11_move 52 = .ok (.invokevirtual 222, 3) := by decide +kernel
theorem dX11_move_55 : decode cX11_move 55 = .ok (.ifCond .eq 16, 3) := by decide +kernel
theorem dX11_move_58 : decode cX11_move 58 = .ok (.iload_n 2, 1) := by decide +kernel
theorem dX11_move_59 : decode cX11_move 59 = .ok (.iconst (-1), 1) := by decide +kernel
theorem dX11_move_60 : decode cX11_move 60 = .ok (.if_icmp .eq 13, 3) := by decide +kernel
theorem dX11_move_63 : decode cX11_move 63 = .ok (.aload_n 0, 1) := by decide +kernel
theorem dX11_move_64 : decode cX11_move 64 = .ok (.iload_n 2, 1) := by decide +kernel
theorem dX11_move_65 : decode cX11_move 65 = .ok (.invokevirtual 222, 3) := by decide +kernel
theorem dX11_move_68 : decode cX11_move 68 = .ok (.ifCond .ne 5, 3) := by decide +kernel
theorem dX11_move_71 : decode cX11_move 71 = .ok (.iconst 0, 1) := by decide +kernel
theorem dX11_move_72 : decode cX11_move 72 = .ok (.ireturn, 1) := by decide +kernel
theorem dX11_move_73 : decode cX11_move 73 = .ok (.aload_n 0, 1) := by decide +kernel
theorem dX11_move_74 : decode cX11_move 74 = .ok (.iload_n 1, 1) := by decide +kernel
theorem dX11_move_75 : decode cX11_move 75 = .ok (.invokevirtual 225, 3) := by decide +kernel
theorem dX11_move_78 : decode cX11_move 78 = .ok (.iload_n 2, 1) := by decide +kernel
theorem dX11_move_79 : decode cX11_move 79 = .ok (.iconst (-1), 1) := by decide +kernel
theorem dX11_move_80 : decode cX11_move 80 = .ok (.if_icmp .eq 8, 3) := by decide +kernel
theorem dX11_move_83 : decode cX11_move 83 = .ok (.aload_n 0, 1) := by decide +kernel
theorem dX11_move_84 : decode cX11_move 84 = .ok (.iload_n 2, 1) := by decide +kernel
theorem dX11_move_85 : decode cX11_move 85 = .ok (.invokevirtual 225, 3) := by decide +kernel
theorem dX11_move_88 : decode cX11_move 88 = .ok (.aload_n 0, 1) := by decide +kernel
theorem dX11_move_89 : decode cX11_move 89 = .ok (.invokevirtual 206, 3) := by decide +kernel
theorem dX11_move_92 : decode cX11_move 92 = .ok (.ifCond .ne 5, 3) := by decide +kernel
theorem dX11_move_95 : decode cX11_move 95 = .ok (.iconst 0, 1) := by decide +kernel
theorem dX11_move_96 : decode cX11_move 96 = .ok (.ireturn, 1) := by decide +kernel
theorem dX11_move_97 : decode cX11_move 97 = .ok (.aload_n 0, 1) := by decide +kernel
theorem dX11_move_98 : decode cX11_move 98 = .ok (.invokevirtual 209, 3) := by decide +kernel
theorem dX11_move_101 : decode cX11_move 101 = .ok (.aload_n 0, 1) := by decide +kernel
theorem dX11_move_102 : decode cX11_move 102 = .ok (.dup, 1) := by decide +kernel
theorem dX11_move_103 : decode cX11_move 103 = .ok (.getfield 215, 3) := by decide +kernel
theorem dX11_move_106 : decode cX11_move 106 = .ok (.iconst 1, 1) := by decide +kernel
theorem dX11_move_107 : decode cX11_move 107 = .ok (.iadd, 1) := by decide +kernel
theorem dX11_move_108 : decode cX11_move 108 = .ok (.putfield 215, 3) := by decide +kernel
theorem dX11_move_111 : decode cX11_move 111 = .ok (.iconst 1, 1) := by decide +kernel
theorem dX11_move_112 : decode cX11_move 112 = .ok (.ireturn, 1) := by decide +kernel
theorem dX11_run_0 : decode cX11_run 0 = .ok (.aload_n 0, 1) := by decide +kernel
theorem dX11_run_1 : decode cX11_run 1 = .ok (.getfield 83, 3) := by decide +kernel
theorem dX11_run_4 : decode cX11_run 4 = .ok (.ifCond .ne 6, 3) := by decide +kernel
theorem dX11_run_7 : decode cX11_run 7 = .ok (.bipush (-103), 2) := by decide +kernel
theorem dX11_run_9 : decode cX11_run 9 = .ok (.ireturn, 1) := by decide +kernel
theorem dX11_run_10 : decode cX11_run 10 = .ok (.iload_n 1, 1) := by decide +kernel
theorem dX11_run_11 : decode cX11_run 11 = .ok (.iconst 0, 1) := by decide +kernel
theorem dX11_run_12 : decode cX11_run 12 = .ok (.bipush 8, 2) := by decide +kernel
theorem dX11_run_14 : decode cX11_run 14 = .ok (.invokestatic 86, 3) := by decide +kernel
theorem dX11_run_17 : decode cX11_run 17 = .ok (.ifCond .eq 8, 3) := by decide +kernel
theorem dX11_run_20 : decode cX11_run 20 = .ok (.iload_n 1, 1) := by decide +kernel
theorem dX11_run_21 : decode cX11_run 21 = .ok (.iconst 3, 1) := by decide +kernel
theorem dX11_run_22 : decode cX11_run 22 = .ok (.if_icmp .ne 6, 3) := by decide +kernel
theorem dX11_run_25 : decode cX11_run 25 = .ok (.bipush (-102), 2) := by decide +kernel
theorem dX11_run_27 : decode cX11_run 27 = .ok (.ireturn, 1) := by decide +kernel
theorem dX11_run_28 : decode cX11_run 28 = .ok (.iload_n 1, 1) := by decide +kernel
theorem dX11_run_29 : decode cX11_run 29 = .ok (.iconst 3, 1) := by decide +kernel
theorem dX11_run_30 : decode cX11_run 30 = .ok (.if_icmp .ge 12, 3) := by decide +kernel
theorem dX11_run_33 : decode cX11_run 33 = .ok (.aload_n 0, 1) := by decide +kernel
theorem dX11_run_34 : decode cX11_run 34 = .ok (.getfield 77, 3) := by decide +kernel
theorem dX11_run_37 : decode cX11_run 37 = .ok (.iload_n 1, 1) := by decide +kernel
theorem dX11_run_38 : decode cX11_run 38 = .ok (.iaload, 1) := by decide +kernel
theorem dX11_run_39 : decode cX11_run 39 = .ok (.goto 37, 3) := by decide +kernel
theorem dX11_run_42 : decode cX11_run 42 = .ok (.iload_n 1, 1) := by decide +kernel
theorem dX11_run_43 : decode cX11_run 43 = .ok (.bipush 7, 2) := by decide +kernel
theorem dX11_run_45 : decode cX11_run 45 = .ok (.if_icmp .ge 14, 3) := by decide +kernel
theorem dX11_run_48 : decode cX11_run 48 = .ok (.aload_n 0, 1) := by decide +kernel
theorem dX11_run_49 : decode cX11_run 49 = .ok (.getfield 80, 3) := by decide +kernel
theorem dX11_run_52 : decode cX11_run 52 = .ok (.iload_n 1, 1) := by decide +kernel
theorem dX11_run_53 : decode cX11_run 53 = .ok (.iconst 3, 1) := by decide +kernel
theorem dX11_run_54 : decode cX11_run 54 = .ok (.isub, 1) := by decide +kernel
theorem dX11_run_55 : decode cX11_run 55 = .ok (.iaload, 1) := by decide +kernel
theorem dX11_run_56 : decode cX11_run 56 = .ok (.goto 20, 3) := by decide +kernel
theorem dX11_run_59 : decode cX11_run 59 = .ok (.iload_n 1, 1) := by decide +kernel
theorem dX11_run_60 : decode cX11_run 60 = .ok (.bipush 7, 2) := by decide +kernel
theorem dX11_run_62 : decode cX11_run 62 = .ok (.if_icmp .ne 10, 3) := by decide +kernel
theorem dX11_run_65 : decode cX11_run 65 = .ok (.aload_n 0, 1) := by decide +kernel
theorem dX11_run_66 : decode cX11_run 66 = .ok (.getfield 212, 3) := by decide +kernel
theorem dX11_run_69 : decode cX11_run 69 = .ok (.goto 7, 3) := by decide +kernel
theorem dX11_run_72 : decode cX11_run 72 = .ok (.aload_n 0, 1) := by decide +kernel
theorem dX11_run_73 : decode cX11_run 73 = .ok (.getfield 215, 3) := by decide +kernel
theorem dX11_run_76 : decode cX11_run 76 = .ok (.ireturn, 1) := by decide +kernel
theorem dX11_here_0 : decode cX11_here 0 = .ok (.aload_n 0, 1) := by decide +kernel
theorem dX11_here_1 : decode cX11_here 1 = .ok (.getfield 83, 3) := by decide +kernel
theorem dX11_here_4 : decode cX11_here 4 = .ok (.ifCond .eq 10, 3) := by decide +kernel
theorem dX11_here_7 : decode cX11_here 7 = .ok (.aload_n 0, 1) := by decide +kernel
theorem dX11_here_8 : decode cX11_here 8 = .ok (.getfield 37, 3) := by decide +kernel
theorem dX11_here_11 : decode cX11_here 11 = .ok (.ifCond .eq 6, 3) := by decide +kernel
theorem dX11_here_14 : decode cX11_here 14 = .ok (.bipush (-103), 2) := by decide +kernel
theorem dX11_here_16 : decode cX11_here 16 = .ok (.ireturn, 1) := by decide +kernel
theorem dX11_here_17 : decode cX11_here 17 = .ok (.aload_n 0, 1) := by decide +kernel
theorem dX11_here_18 : decode cX11_here 18 = .ok (.invokevirtual 219, 3) := by decide +kernel
theorem dX11_here_21 : decode cX11_here 21 = .ok (.iconst 0, 1) := by decide +kernel
theorem dX11_here_22 : decode cX11_here 22 = .ok (.istore_n 1, 1) := by decide +kernel
theorem dX11_here_23 : decode cX11_here 23 = .ok (.iload_n 1, 1) := by decide +kernel
theorem dX11_here_24 : decode cX11_here 24 = .ok (.aload_n 0, 1) := by decide +kernel
theorem dX11_here_25 : decode cX11_here 25 = .ok (.getfield 94, 3) := by decide +kernel
theorem dX11_here_28 : decode cX11_here 28 = .ok (.if_icmp .ge 67, 3) := by decide +kernel
theorem dX11_here_31 : decode cX11_here 31 = .ok (.iconst 1, 1) := by decide +kernel
theorem dX11_here_32 : decode cX11_here 32 = .ok (.istore_n 2, 1) := by decide +kernel
theorem dX11_here_33 : decode cX11_here 33 = .ok (.iconst 0, 1) := by decide +kernel
theorem dX11_here_34 : decode cX11_here 34 = .ok (.istore_n 3, 1) := by decide +kernel
theorem dX11_here_35 : decode cX11_here 35 = .ok (.iload_n 3, 1) := by decide +kernel
theorem dX11_here_36 : decode cX11_here 36 = .ok (.iconst 3, 1) := by decide +kernel
theorem dX11_here_37 : decode cX11_here 37 = .ok (.if_icmp .ge 38, 3) := by decide +kernel
theorem dX11_here_40 : decode cX11_here 40 = .ok (.iload_n 2, 1) := by decide +kernel
theorem dX11_here_41 : decode cX11_here 41 = .ok (.ifCond .eq 26, 3) := by decide +kernel
theorem dX11_here_44 : decode cX11_here 44 = .ok (.aload_n 0, 1) := by decide +kernel
theorem dX11_here_45 : decode cX11_here 45 = .ok (.getfield 41, 3) := by decide +kernel
theorem dX11_here_48 : decode cX11_here 48 = .ok (.iconst 3, 1) := by decide +kernel
theorem dX11_here_49 : decode cX11_here 49 = .ok (.iload_n 1, 1) := by decide +kernel
theorem dX11_here_50 : decode cX11_here 50 = .ok (.imul, 1) := by decide +kernel
theorem dX11_here_51 : decode cX11_here 51 = .ok (.iload_n 3, 1) := by decide +kernel
theorem dX11_here_52 : decode cX11_here 52 = .ok (.iadd, 1) := by decide +kernel
theorem dX11_here_53 : decode cX11_here 53 = .ok (.iaload, 1) := by decide +kernel
theorem dX11_here_54 : decode cX11_here 54 = .ok (.aload_n 0, 1) := by decide +kernel
theorem dX11_here_55 : decode cX11_here 55 = .ok (.getfield 65, 3) := by decide +kernel
theorem dX11_here_58 : decode cX11_here 58 = .ok (.iload_n 3, 1) := by decide +kernel
theorem dX11_here_59 : decode cX11_here 59 = .ok (.iaload, 1) := by decide +kernel
theorem dX11_here_60 : decode cX11_here 60 = .ok (.if_icmp .ne 7, 3) := by decide +kernel
theorem dX11_here_63 : decode cX11_here 63 = .ok (.iconst 1, 1) := by decide +kernel
theorem dX11_here_64 : decode cX11_here 64 = .ok (.goto 4, 3) := by decide +kernel
theorem dX11_here_67 : decode cX11_here 67 = .ok (.iconst 0, 1) := by decide +kernel
theorem dX11_here_68 : decode cX11_here 68 = .ok (.istore_n 2, 1) := by decide +kernel
theorem dX11_here_69 : decode cX11_here 69 = .ok (.iinc 3 1, 3) := by decide +kernel
theorem dX11_here_72 : decode cX11_here 72 = .ok (.goto (-37), 3) := by decide +kernel
theorem dX11_here_75 : decode cX11_here 75 = .ok (.iload_n 2, 1) := by decide +kernel
theorem dX11_here_76 : decode cX11_here 76 = .ok (.ifCond .eq 13, 3) := by decide +kernel
theorem dX11_here_79 : decode cX11_here 79 = .ok (.aload_n 0, 1) := by decide +kernel
theorem dX11_here_80 : decode cX11_here 80 = .ok (.iload_n 1, 1) := by decide +kernel
theorem dX11_here_81 : decode cX11_here 81 = .ok (.invokevirtual 174, 3) := by decide +kernel
theorem dX11_here_84 : decode cX11_here 84 = .ok (.ifCond .eq 5, 3) := by decide +kernel
theorem dX11_here_87 : decode cX11_here 87 = .ok (.iload_n 1, 1) := by decide +kernel
theorem dX11_here_88 : decode cX11_here 88 = .ok (.ireturn, 1) := by decide +kernel
theorem dX11_here_89 : decode cX11_here 89 = .ok (.iinc 1 1, 3) := by decide +kernel
theorem dX11_here_92 : decode cX11_here 92 = .ok (.goto (-69), 3) := by decide +kernel
theorem dX11_here_95 : decode cX11_here 95 = .ok (.iconst (-1), 1) := by decide +kernel
theorem dX11_here_96 : decode cX11_here 96 = .ok (.ireturn, 1) := by decide +kernel
theorem dX11_about_0 : decode cX11_about 0 = .ok (.aload_n 0, 1) := by decide +kernel
theorem dX11_about_1 : decode cX11_about 1 = .ok (.iload_n 1, 1) := by decide +kernel
theorem dX11_about_2 : decode cX11_about 2 = .ok (.invokevirtual 107, 3) := by decide +kernel
theorem dX11_about_5 : decode cX11_about 5 = .ok (.ifCond .ne 6, 3) := by decide +kernel
theorem dX11_about_8 : decode cX11_about 8 = .ok (.bipush (-101), 2) := by decide +kernel
theorem dX11_about_10 : decode cX11_about 10 = .ok (.ireturn, 1) := by decide +kernel
theorem dX11_about_11 : decode cX11_about 11 = .ok (.iload_n 2, 1) := by decide +kernel
theorem dX11_about_12 : decode cX11_about 12 = .ok (.tableswitch 82 0 5 #[40, 47, 54, 61, 68, 75], 40) := by decide +kernel
theorem dX11_about_52 : decode cX11_about 52 = .ok (.aload_n 0, 1) := by decide +kernel
theorem dX11_about_53 : decode cX11_about 53 = .ok (.getfield 7, 3) := by decide +kernel
theorem dX11_about_56 : decode cX11_about 56 = .ok (.iload_n 1, 1) := by decide +kernel
theorem dX11_about_57 : decode cX11_about 57 = .ok (.iaload, 1) := by decide +kernel
theorem dX11_about_58 : decode cX11_about 58 = .ok (.ireturn, 1) := by decide +kernel
theorem dX11_about_59 : decode cX11_about 59 = .ok (.aload_n 0, 1) := by decide +kernel
theorem dX11_about_60 : decode cX11_about 60 = .ok (.getfield 13, 3) := by decide +kernel
theorem dX11_about_63 : decode cX11_about 63 = .ok (.iload_n 1, 1) := by decide +kernel
theorem dX11_about_64 : decode cX11_about 64 = .ok (.iaload, 1) := by decide +kernel
theorem dX11_about_65 : decode cX11_about 65 = .ok (.ireturn, 1) := by decide +kernel
theorem dX11_about_66 : decode cX11_about 66 = .ok (.aload_n 0, 1) := by decide +kernel
theorem dX11_about_67 : decode cX11_about 67 = .ok (.getfield 16, 3) := by decide +kernel
theorem dX11_about_70 : decode cX11_about 70 = .ok (.iload_n 1, 1) := by decide +kernel
theorem dX11_about_71 : decode cX11_about 71 = .ok (.iaload, 1) := by decide +kernel
theorem dX11_about_72 : decode cX11_about 72 = .ok (.ireturn, 1) := by decide +kernel
theorem dX11_about_73 : decode cX11_about 73 = .ok (.aload_n 0, 1) := by decide +kernel
theorem dX11_about_74 : decode cX11_about 74 = .ok (.getfield 19, 3) := by decide +kernel
theorem dX11_about_77 : decode cX11_about 77 = .ok (.iload_n 1, 1) := by decide +kernel
theorem dX11_about_78 : decode cX11_about 78 = .ok (.iaload, 1) := by decide +kernel
theorem dX11_about_79 : decode cX11_about 79 = .ok (.ireturn, 1) := by decide +kernel
theorem dX11_about_80 : decode cX11_about 80 = .ok (.aload_n 0, 1) := by decide +kernel
theorem dX11_about_81 : decode cX11_about 81 = .ok (.getfield 22, 3) := by decide +kernel
theorem dX11_about_84 : decode cX11_about 84 = .ok (.iload_n 1, 1) := by decide +kernel
theorem dX11_about_85 : decode cX11_about 85 = .ok (.iaload, 1) := by decide +kernel
theorem dX11_about_86 : decode cX11_about 86 = .ok (.ireturn, 1) := by decide +kernel
theorem dX11_about_87 : decode cX11_about 87 = .ok (.aload_n 0, 1) := by decide +kernel
theorem dX11_about_88 : decode cX11_about 88 = .ok (.getfield 25, 3) := by decide +kernel
theorem dX11_about_91 : decode cX11_about 91 = .ok (.iload_n 1, 1) := by decide +kernel
theorem dX11_about_92 : decode cX11_about 92 = .ok (.iaload, 1) := by decide +kernel
theorem dX11_about_93 : decode cX11_about 93 = .ok (.ireturn, 1) := by decide +kernel
theorem dX11_about_94 : decode cX11_about 94 = .ok (.bipush (-102), 2) := by decide +kernel
theorem dX11_about_96 : decode cX11_about 96 = .ok (.ireturn, 1) := by decide +kernel
theorem dX11_moveCount_0 : decode cX11_moveCount 0 = .ok (.iconst 0, 1) := by decide +kernel
theorem dX11_moveCount_1 : decode cX11_moveCount 1 = .ok (.istore_n 1, 1) := by decide +kernel
theorem dX11_moveCount_2 : decode cX11_moveCount 2 = .ok (.iconst 0, 1) := by decide +kernel
theorem dX11_moveCount_3 : decode cX11_moveCount 3 = .ok (.istore_n 2, 1) := by decide +kernel
theorem dX11_moveCount_4 : decode cX11_moveCount 4 = .ok (.iload_n 2, 1) := by decide +kernel
theorem dX11_moveCount_5 : decode cX11_moveCount 5 = .ok (.aload_n 0, 1) := by decide +kernel
theorem dX11_moveCount_6 : decode cX11_moveCount 6 = .ok (.getfield 90, 3) := by decide +kernel
theorem dX11_moveCount_9 : decode cX11_moveCount 9 = .ok (.if_icmp .ge 42, 3) := by decide +kernel
theorem dX11_moveCount_12 : decode cX11_moveCount 12 = .ok (.iconst (-1), 1) := by decide +kernel
theorem dX11_moveCount_13 : decode cX11_moveCount 13 = .ok (.istore_n 3, 1) := by decide +kernel
theorem dX11_moveCount_14 : decode cX11_moveCount 14 = .ok (.iload_n 3, 1) := by decide +kernel
theorem dX11_moveCount_15 : decode cX11_moveCount 15 = .ok (.aload_n 0, 1) := by decide +kernel
theorem dX11_moveCount_16 : decode cX11_moveCount 16 = .ok (.getfield 90, 3) := by decide +kernel
theorem dX11_moveCount_19 : decode cX11_moveCount 19 = .ok (.if_icmp .ge 26, 3) := by decide +kernel
theorem dX11_moveCount_22 : decode cX11_moveCount 22 = .ok (.iload_n 1, 1) := by decide +kernel
theorem dX11_moveCount_23 : decode cX11_moveCount 23 = .ok (.aload_n 0, 1) := by decide +kernel
theorem dX11_moveCount_24 : decode cX11_moveCount 24 = .ok (.iload_n 2, 1) := by decide +kernel
theorem dX11_moveCount_25 : decode cX11_moveCount 25 = .ok (.iload_n 3, 1) := by decide +kernel
theorem dX11_moveCount_26 : decode cX11_moveCount 26 = .ok (.invokevirtual 155, 3) := by decide +kernel
theorem dX11_moveCount_29 : decode cX11_moveCount 29 = .ok (.ifCond .eq 7, 3) := by decide +kernel
theorem dX11_moveCount_32 : decode cX11_moveCount 32 = .ok (.iconst 1, 1) := by decide +kernel
theorem dX11_moveCount_33 : decode cX11_moveCount 33 = .ok (.goto 4, 3) := by decide +kernel
theorem dX11_moveCount_36 : decode cX11_moveCount 36 = .ok (.iconst 0, 1) := by decide +kernel
theorem dX11_moveCount_37 : decode cX11_moveCount 37 = .ok (.iadd, 1) := by decide +kernel
theorem dX11_moveCount_38 : decode cX11_moveCount 38 = .ok (.istore_n 1, 1) := by decide +kernel
theorem dX11_moveCount_39 : decode cX11_moveCount 39 = .ok (.iinc 3 1, 3) := by decide +kernel
theorem dX11_moveCount_42 : decode cX11_moveCount 42 = .ok (.goto (-28), 3) := by decide +kernel
theorem dX11_moveCount_45 : decode cX11_moveCount 45 = .ok (.iinc 2 1, 3) := by decide +kernel
theorem dX11_moveCount_48 : decode cX11_moveCount 48 = .ok (.goto (-44), 3) := by decide +kernel
theorem dX11_moveCount_51 : decode cX11_moveCount 51 = .ok (.iload_n 1, 1) := by decide +kernel
theorem dX11_moveCount_52 : decode cX11_moveCount 52 = .ok (.ireturn, 1) := by decide +kernel
theorem dX11_count_0 : decode cX11_count 0 = .ok (.iconst 0, 1) := by decide +kernel
theorem dX11_count_1 : decode cX11_count 1 = .ok (.istore_n 2, 1) := by decide +kernel
theorem dX11_count_2 : decode cX11_count 2 = .ok (.iload_n 1, 1) := by decide +kernel
theorem dX11_count_3 : decode cX11_count 3 = .ok (.tableswitch 126 0 6 #[41, 46, 71, 98, 103, 108, 121], 41) := by decide +kernel
theorem dX11_count_44 : decode cX11_count 44 = .ok (.aload_n 0, 1) := by decide +kernel
theorem dX11_count_45 : decode cX11_count 45 = .ok (.getfield 90, 3) := by decide +kernel
theorem dX11_count_48 : decode cX11_count 48 = .ok (.ireturn, 1) := by decide +kernel
theorem dX11_count_49 : decode cX11_count 49 = .ok (.iconst 0, 1) := by decide +kernel
theorem dX11_count_50 : decode cX11_count 50 = .ok (.istore_n 3, 1) := by decide +kernel
theorem dX11_count_51 : decode cX11_count 51 = .ok (.iload_n 3, 1) := by decide +kernel
theorem dX11_count_52 : decode cX11_count 52 = .ok (.bipush 18, 2) := by decide +kernel
theorem dX11_count_54 : decode cX11_count 54 = .ok (.if_icmp .ge 18, 3) := by decide +kernel
theorem dX11_count_57 : decode cX11_count 57 = .ok (.iload_n 2, 1) := by decide +kernel
theorem dX11_count_58 : decode cX11_count 58 = .ok (.aload_n 0, 1) := by decide +kernel
theorem dX11_count_59 : decode cX11_count 59 = .ok (.getfield 31, 3) := by decide +kernel
theorem dX11_count_62 : decode cX11_count 62 = .ok (.iload_n 3, 1) := by decide +kernel
theorem dX11_count_63 : decode cX11_count 63 = .ok (.iaload, 1) := by decide +kernel
theorem dX11_count_64 : decode cX11_count 64 = .ok (.iadd, 1) := by decide +kernel
theorem dX11_count_65 : decode cX11_count 65 = .ok (.istore_n 2, 1) := by decide +kernel
theorem dX11_count_66 : decode cX11_count 66 = .ok (.iinc 3 1, 3) := by decide +kernel
theorem dX11_count_69 : decode cX11_count 69 = .ok (.goto (-18), 3) := by decide +kernel
theorem dX11_count_72 : decode cX11_count 72 = .ok (.iload_n 2, 1) := by decide +kernel
theorem dX11_count_73 : decode cX11_count 73 = .ok (.ireturn, 1) := by decide +kernel
theorem dX11_count_74 : decode cX11_count 74 = .ok (.iconst 0, 1) := by decide +kernel
theorem dX11_count_75 : decode cX11_count 75 = .ok (.istore_n 3, 1) := by decide +kernel
theorem dX11_count_76 : decode cX11_count 76 = .ok (.iload_n 3, 1) := by decide +kernel
theorem dX11_count_77 : decode cX11_count 77 = .ok (.aload_n 0, 1) := by decide +kernel
theorem dX11_count_78 : decode cX11_count 78 = .ok (.getfield 90, 3) := by decide +kernel
theorem dX11_count_81 : decode cX11_count 81 = .ok (.if_icmp .ge 18, 3) := by decide +kernel
theorem dX11_count_84 : decode cX11_count 84 = .ok (.iload_n 2, 1) := by decide +kernel
theorem dX11_count_85 : decode cX11_count 85 = .ok (.aload_n 0, 1) := by decide +kernel
theorem dX11_count_86 : decode cX11_count 86 = .ok (.getfield 25, 3) := by decide +kernel
theorem dX11_count_89 : decode cX11_count 89 = .ok (.iload_n 3, 1) := by decide +kernel
theorem dX11_count_90 : decode cX11_count 90 = .ok (.iaload, 1) := by decide +kernel
theorem dX11_count_91 : decode cX11_count 91 = .ok (.iadd, 1) := by decide +kernel
theorem dX11_count_92 : decode cX11_count 92 = .ok (.istore_n 2, 1) := by decide +kernel
theorem dX11_count_93 : decode cX11_count 93 = .ok (.iinc 3 1, 3) := by decide +kernel
theorem dX11_count_96 : decode cX11_count 96 = .ok (.goto (-20), 3) := by decide +kernel
theorem dX11_count_99 : decode cX11_count 99 = .ok (.iload_n 2, 1) := by decide +kernel
theorem dX11_count_100 : decode cX11_count 100 = .ok (.ireturn, 1) := by decide +kernel
theorem dX11_count_101 : decode cX11_count 101 = .ok (.aload_n 0, 1) := by decide +kernel
theorem dX11_count_102 : decode cX11_count 102 = .ok (.getfield 94, 3) := by decide +kernel
theorem dX11_count_105 : decode cX11_count 105 = .ok (.ireturn, 1) := by decide +kernel
theorem dX11_count_106 : decode cX11_count 106 = .ok (.aload_n 0, 1) := by decide +kernel
theorem dX11_count_107 : decode cX11_count 107 = .ok (.invokevirtual 228, 3) := by decide +kernel
theorem dX11_count_110 : decode cX11_count 110 = .ok (.ireturn, 1) := by decide +kernel
theorem dX11_count_111 : decode cX11_count 111 = .ok (.aload_n 0, 1) := by decide +kernel
theorem dX11_count_112 : decode cX11_count 112 = .ok (.getfield 37, 3) := by decide +kernel
theorem dX11_count_115 : decode cX11_count 115 = .ok (.ifCond .eq 7, 3) := by decide +kernel
theorem dX11_count_118 : decode cX11_count 118 = .ok (.iconst 1, 1) := by decide +kernel
theorem dX11_count_119 : decode cX11_count 119 = .ok (.goto 4, 3) := by decide +kernel
theorem dX11_count_122 : decode cX11_count 122 = .ok (.iconst 0, 1) := by decide +kernel
theorem dX11_count_123 : decode cX11_count 123 = .ok (.ireturn, 1) := by decide +kernel
theorem dX11_count_124 : decode cX11_count 124 = .ok (.aload_n 0, 1) := by decide +kernel
theorem dX11_count_125 : decode cX11_count 125 = .ok (.getfield 149, 3) := by decide +kernel
theorem dX11_count_128 : decode cX11_count 128 = .ok (.ireturn, 1) := by decide +kernel
theorem dX11_count_129 : decode cX11_count 129 = .ok (.bipush (-102), 2) := by decide +kernel
theorem dX11_count_131 : decode cX11_count 131 = .ok (.ireturn, 1) := by decide +kernel
theorem dX11_mix_0 : decode cX11_mix 0 = .ok (.aload_n 0, 1) := by decide +kernel
theorem dX11_mix_1 : decode cX11_mix 1 = .ok (.ldc2_w 232, 3) := by decide +kernel
theorem dX11_mix_4 : decode cX11_mix 4 = .ok (.aload_n 0, 1) := by decide +kernel
theorem dX11_mix_5 : decode cX11_mix 5 = .ok (.getfield 234, 3) := by decide +kernel
theorem dX11_mix_8 : decode cX11_mix 8 = .ok (.lmul, 1) := by decide +kernel
theorem dX11_mix_9 : decode cX11_mix 9 = .ok (.lload_n 1, 1) := by decide +kernel
theorem dX11_mix_10 : decode cX11_mix 10 = .ok (.ladd, 1) := by decide +kernel
theorem dX11_mix_11 : decode cX11_mix 11 = .ok (.putfield 234, 3) := by decide +kernel
theorem dX11_mix_14 : decode cX11_mix 14 = .ok (.return_, 1) := by decide +kernel
theorem dX11_digest_0 : decode cX11_digest 0 = .ok (.aload_n 0, 1) := by decide +kernel
theorem dX11_digest_1 : decode cX11_digest 1 = .ok (.ldc2_w 238, 3) := by decide +kernel
theorem dX11_digest_4 : decode cX11_digest 4 = .ok (.putfield 234, 3) := by decide +kernel
theorem dX11_digest_7 : decode cX11_digest 7 = .ok (.iconst 0, 1) := by decide +kernel
theorem dX11_digest_8 : decode cX11_digest 8 = .ok (.istore_n 1, 1) := by decide +kernel
theorem dX11_digest_9 : decode cX11_digest 9 = .ok (.iload_n 1, 1) := by decide +kernel
theorem dX11_digest_10 : decode cX11_digest 10 = .ok (.aload_n 0, 1) := by decide +kernel
theorem dX11_digest_11 : decode cX11_digest 11 = .ok (.getfield 90, 3) := by decide +kernel
theorem dX11_digest_14 : decode cX11_digest 14 = .ok (.if_icmp .ge 70, 3) := by decide +kernel
theorem dX11_digest_17 : decode cX11_digest 17 = .ok (.iconst 0, 1) := by decide +kernel
theorem dX11_digest_18 : decode cX11_digest 18 = .ok (.istore_n 2, 1) := by decide +kernel
theorem dX11_digest_19 : decode cX11_digest 19 = .ok (.iload_n 2, 1) := by decide +kernel
theorem dX11_digest_20 : decode cX11_digest 20 = .ok (.bipush 6, 2) := by decide +kernel
theorem dX11_digest_22 : decode cX11_digest 22 = .ok (.if_icmp .ge 20, 3) := by decide +kernel
theorem dX11_digest_25 : decode cX11_digest 25 = .ok (.aload_n 0, 1) := by decide +kernel
theorem dX11_digest_26 : decode cX11_digest 26 = .ok (.aload_n 0, 1) := by decide +kernel
theorem dX11_digest_27 : decode cX11_digest 27 = .ok (.iload_n 1, 1) := by decide +kernel
theorem dX11_digest_28 : decode cX11_digest 28 = .ok (.iload_n 2, 1) := by decide +kernel
theorem dX11_digest_29 : decode cX11_digest 29 = .ok (.invokevirtual 240, 3) := by decide +kernel
theorem dX11_digest_32 : decode cX11_digest 32 = .ok (.i2l, 1) := by decide +kernel
theorem dX11_digest_33 : decode cX11_digest 33 = .ok (.invokevirtual 243, 3) := by decide +kernel
theorem dX11_digest_36 : decode cX11_digest 36 = .ok (.iinc 2 1, 3) := by decide +kernel
theorem dX11_digest_39 : decode cX11_digest 39 = .ok (.goto (-20), 3) := by decide +kernel
theorem dX11_digest_42 : decode cX11_digest 42 = .ok (.iconst 0, 1) := by decide +kernel
theorem dX11_digest_43 : decode cX11_digest 43 = .ok (.istore_n 2, 1) := by decide +kernel
theorem dX11_digest_44 : decode cX11_digest 44 = .ok (.iload_n 2, 1) := by decide +kernel
theorem dX11_digest_45 : decode cX11_digest 45 = .ok (.iconst 3, 1) := by decide +kernel
theorem dX11_digest_46 : decode cX11_digest 46 = .ok (.aload_n 0, 1) := by decide +kernel
theorem dX11_digest_47 : decode cX11_digest 47 = .ok (.getfield 25, 3) := by decide +kernel
theorem dX11_digest_50 : decode cX11_digest 50 = .ok (.iload_n 1, 1) := by decide +kernel
theorem dX11_digest_51 : decode cX11_digest 51 = .ok (.iaload, 1) := by decide +kernel
theorem dX11_digest_52 : decode cX11_digest 52 = .ok (.imul, 1) := by decide +kernel
theorem dX11_digest_53 : decode cX11_digest 53 = .ok (.if_icmp .ge 25, 3) := by decide +kernel
theorem dX11_digest_56 : decode cX11_digest 56 = .ok (.aload_n 0, 1) := by decide +kernel
theorem dX11_digest_57 : decode cX11_digest 57 = .ok (.aload_n 0, 1) := by decide +kernel
theorem dX11_digest_58 : decode cX11_digest 58 = .ok (.getfield 28, 3) := by decide +kernel
theorem dX11_digest_61 : decode cX11_digest 61 = .ok (.bipush 6, 2) := by decide +kernel
theorem dX11_digest_63 : decode cX11_digest 63 = .ok (.iload_n 1, 1) := by decide +kernel
theorem dX11_digest_64 : decode cX11_digest 64 = .ok (.imul, 1) := by decide +kernel
theorem dX11_digest_65 : decode cX11_digest 65 = .ok (.iload_n 2, 1) := by decide +kernel
theorem dX11_digest_66 : decode cX11_digest 66 = .ok (.iadd, 1) := by decide +kernel
theorem dX11_digest_67 : decode cX11_digest 67 = .ok (.iaload, 1) := by decide +kernel
theorem dX11_digest_68 : decode cX11_digest 68 = .ok (.i2l, 1) := by decide +kernel
theorem dX11_digest_69 : decode cX11_digest 69 = .ok (.invokevirtual 243, 3) := by decide +kernel
theorem dX11_digest_72 : decode cX11_digest 72 = .ok (.iinc 2 1, 3) := by decide +kernel
theorem dX11_digest_75 : decode cX11_digest 75 = .ok (.goto (-31), 3) := by decide +kernel
theorem dX11_digest_78 : decode cX11_digest 78 = .ok (.iinc 1 1, 3) := by decide +kernel
theorem dX11_digest_81 : decode cX11_digest 81 = .ok (.goto (-72), 3) := by decide +kernel
theorem dX11_digest_84 : decode cX11_digest 84 = .ok (.iconst 0, 1) := by decide +kernel
theorem dX11_digest_85 : decode cX11_digest 85 = .ok (.istore_n 1, 1) := by decide +kernel
theorem dX11_digest_86 : decode cX11_digest 86 = .ok (.iload_n 1, 1) := by decide +kernel
theorem dX11_digest_87 : decode cX11_digest 87 = .ok (.bipush 18, 2) := by decide +kernel
theorem dX11_digest_89 : decode cX11_digest 89 = .ok (.if_icmp .ge 56, 3) := by decide +kernel
theorem dX11_digest_92 : decode cX11_digest 92 = .ok (.aload_n 0, 1) := by decide +kernel
theorem dX11_digest_93 : decode cX11_digest 93 = .ok (.aload_n 0, 1) := by decide +kernel
theorem dX11_digest_94 : decode cX11_digest 94 = .ok (.getfield 31, 3) := by decide +kernel
theorem dX11_digest_97 : decode cX11_digest 97 = .ok (.iload_n 1, 1) := by decide +kernel
theorem dX11_digest_98 : decode cX11_digest 98 = .ok (.iaload, 1) := by decide +kernel
theorem dX11_digest_99 : decode cX11_digest 99 = .ok (.i2l, 1) := by decide +kernel
theorem dX11_digest_100 : decode cX11_digest 100 = .ok (.invokevirtual 243, 3) := by decide +kernel
theorem dX11_digest_103 : decode cX11_digest 103 = .ok (.iconst 0, 1) := by decide +kernel
theorem dX11_digest_104 : decode cX11_digest 104 = .ok (.istore_n 2, 1) := by decide +kernel
theorem dX11_digest_105 : decode cX11_digest 105 = .ok (.iload_n 2, 1) := by decide +kernel
theorem dX11_digest_106 : decode cX11_digest 106 = .ok (.iconst 3, 1) := by decide +kernel
theorem dX11_digest_107 : decode cX11_digest 107 = .ok (.aload_n 0, 1) := by decide +kernel
theorem dX11_digest_108 : decode cX11_digest 108 = .ok (.getfield 31, 3) := by decide +kernel
theorem dX11_digest_111 : decode cX11_digest 111 = .ok (.iload_n 1, 1) := by decide +kernel
theorem dX11_digest_112 : decode cX11_digest 112 = .ok (.iaload, 1) := by decide +kernel
theorem dX11_digest_113 : decode cX11_digest 113 = .ok (.imul, 1) := by decide +kernel
theorem dX11_digest_114 : decode cX11_digest 114 = .ok (.if_icmp .ge 25, 3) := by decide +kernel
theorem dX11_digest_117 : decode cX11_digest 117 = .ok (.aload_n 0, 1) := by decide +kernel
theorem dX11_digest_118 : decode cX11_digest 118 = .ok (.aload_n 0, 1) := by decide +kernel
theorem dX11_digest_119 : decode cX11_digest 119 = .ok (.getfield 34, 3) := by decide +kernel
theorem dX11_digest_122 : decode cX11_digest 122 = .ok (.bipush 6, 2) := by decide +kernel
theorem dX11_digest_124 : decode cX11_digest 124 = .ok (.iload_n 1, 1) := by decide +kernel
theorem dX11_digest_125 : decode cX11_digest 125 = .ok (.imul, 1) := by decide +kernel
theorem dX11_digest_126 : decode cX11_digest 126 = .ok (.iload_n 2, 1) := by decide +kernel
theorem dX11_digest_127 : decode cX11_digest 127 = .ok (.iadd, 1) := by decide +kernel
theorem dX11_digest_128 : decode cX11_digest 128 = .ok (.iaload, 1) := by decide +kernel
theorem dX11_digest_129 : decode cX11_digest 129 = .ok (.i2l, 1) := by decide +kernel
theorem dX11_digest_130 : decode cX11_digest 130 = .ok (.invokevirtual 243, 3) := by decide +kernel
theorem dX11_digest_133 : decode cX11_digest 133 = .ok (.iinc 2 1, 3) := by decide +kernel
theorem dX11_digest_136 : decode cX11_digest 136 = .ok (.goto (-31), 3) := by decide +kernel
theorem dX11_digest_139 : decode cX11_digest 139 = .ok (.iinc 1 1, 3) := by decide +kernel
theorem dX11_digest_142 : decode cX11_digest 142 = .ok (.goto (-56), 3) := by decide +kernel
theorem dX11_digest_145 : decode cX11_digest 145 = .ok (.iconst 0, 1) := by decide +kernel
theorem dX11_digest_146 : decode cX11_digest 146 = .ok (.istore_n 1, 1) := by decide +kernel
theorem dX11_digest_147 : decode cX11_digest 147 = .ok (.aload_n 0, 1) := by decide +kernel
theorem dX11_digest_148 : decode cX11_digest 148 = .ok (.getfield 37, 3) := by decide +kernel
theorem dX11_digest_151 : decode cX11_digest 151 = .ok (.ifCond .ne 72, 3) := by decide +kernel
theorem dX11_digest_154 : decode cX11_digest 154 = .ok (.iload_n 1, 1) := by decide +kernel
theorem dX11_digest_155 : decode cX11_digest 155 = .ok (.aload_n 0, 1) := by decide +kernel
theorem dX11_digest_156 : decode cX11_digest 156 = .ok (.getfield 94, 3) := by decide +kernel
theorem dX11_digest_159 : decode cX11_digest 159 = .ok (.if_icmp .ge 64, 3) := by decide +kernel
theorem dX11_digest_162 : decode cX11_digest 162 = .ok (.iconst 0, 1) := by decide +kernel
theorem dX11_digest_163 : decode cX11_digest 163 = .ok (.istore_n 2, 1) := by decide +kernel
theorem dX11_digest_164 : decode cX11_digest 164 = .ok (.iload_n 2, 1) := by decide +kernel
theorem dX11_digest_165 : decode cX11_digest 165 = .ok (.bipush 7, 2) := by decide +kernel
theorem dX11_digest_167 : decode cX11_digest 167 = .ok (.if_icmp .ge 20, 3) := by decide +kernel
theorem dX11_digest_170 : decode cX11_digest 170 = .ok (.aload_n 0, 1) := by decide +kernel
theorem dX11_digest_171 : decode cX11_digest 171 = .ok (.aload_n 0, 1) := by decide +kernel
theorem dX11_digest_172 : decode cX11_digest 172 = .ok (.iload_n 1, 1) := by decide +kernel
theorem dX11_digest_173 : decode cX11_digest 173 = .ok (.iload_n 2, 1) := by decide +kernel
theorem dX11_digest_174 : decode cX11_digest 174 = .ok (.invokevirtual 168, 3) := by decide +kernel
theorem dX11_digest_177 : decode cX11_digest 177 = .ok (.i2l, 1) := by decide +kernel
theorem dX11_digest_178 : decode cX11_digest 178 = .ok (.invokevirtual 243, 3) := by decide +kernel
theorem dX11_digest_181 : decode cX11_digest 181 = .ok (.iinc 2 1, 3) := by decide +kernel
theorem dX11_digest_184 : decode cX11_digest 184 = .ok (.goto (-20), 3) := by decide +kernel
theorem dX11_digest_187 : decode cX11_digest 187 = .ok (.iconst 0, 1) := by decide +kernel
theorem dX11_digest_188 : decode cX11_digest 188 = .ok (.istore_n 2, 1) := by decide +kernel
theorem dX11_digest_189 : decode cX11_digest 189 = .ok (.iload_n 2, 1) := by decide +kernel
theorem dX11_digest_190 : decode cX11_digest 190 = .ok (.bipush 16, 2) := by decide +kernel
theorem dX11_digest_192 : decode cX11_digest 192 = .ok (.if_icmp .ge 25, 3) := by decide +kernel
theorem dX11_digest_195 : decode cX11_digest 195 = .ok (.aload_n 0, 1) := by decide +kernel
theorem dX11_digest_196 : decode cX11_digest 196 = .ok (.aload_n 0, 1) := by decide +kernel
theorem dX11_digest_197 : decode cX11_digest 197 = .ok (.getfield 44, 3) := by decide +kernel
theorem dX11_digest_200 : decode cX11_digest 200 = .ok (.bipush 16, 2) := by decide +kernel
theorem dX11_digest_202 : decode cX11_digest 202 = .ok (.iload_n 1, 1) := by decide +kernel
theorem dX11_digest_203 : decode cX11_digest 203 = .ok (.imul, 1) := by decide +kernel
theorem dX11_digest_204 : decode cX11_digest 204 = .ok (.iload_n 2, 1) := by decide +kernel
theorem dX11_digest_205 : decode cX11_digest 205 = .ok (.iadd, 1) := by decide +kernel
theorem dX11_digest_206 : decode cX11_digest 206 = .ok (.iaload, 1) := by decide +kernel
theorem dX11_digest_207 : decode cX11_digest 207 = .ok (.i2l, 1) := by decide +kernel
theorem dX11_digest_208 : decode cX11_digest 208 = .ok (.invokevirtual 243, 3) := by decide +kernel
theorem dX11_digest_211 : decode cX11_digest 211 = .ok (.iinc 2 1, 3) := by decide +kernel
theorem dX11_digest_214 : decode cX11_digest 214 = .ok (.goto (-25), 3) := by decide +kernel
theorem dX11_digest_217 : decode cX11_digest 217 = .ok (.iinc 1 1, 3) := by decide +kernel
theorem dX11_digest_220 : decode cX11_digest 220 = .ok (.goto (-73), 3) := by decide +kernel
theorem dX11_digest_223 : decode cX11_digest 223 = .ok (.aload_n 0, 1) := by decide +kernel
theorem dX11_digest_224 : decode cX11_digest 224 = .ok (.aload_n 0, 1) := by decide +kernel
theorem dX11_digest_225 : decode cX11_digest 225 = .ok (.getfield 83, 3) := by decide +kernel
theorem dX11_digest_228 : decode cX11_digest 228 = .ok (.ifCond .eq 7, 3) := by decide +kernel
theorem dX11_digest_231 : decode cX11_digest 231 = .ok (.lconst 1, 1) := by decide +kernel
theorem dX11_digest_232 : decode cX11_digest 232 = .ok (.goto 4, 3) := by decide +kernel
theorem dX11_digest_235 : decode cX11_digest 235 = .ok (.lconst 0, 1) := by decide +kernel
theorem dX11_digest_236 : decode cX11_digest 236 = .ok (.invokevirtual 243, 3) := by decide +kernel
theorem dX11_digest_239 : decode cX11_digest 239 = .ok (.iconst 0, 1) := by decide +kernel
theorem dX11_digest_240 : decode cX11_digest 240 = .ok (.istore_n 1, 1) := by decide +kernel
theorem dX11_digest_241 : decode cX11_digest 241 = .ok (.aload_n 0, 1) := by decide +kernel
theorem dX11_digest_242 : decode cX11_digest 242 = .ok (.getfield 83, 3) := by decide +kernel
theorem dX11_digest_245 : decode cX11_digest 245 = .ok (.ifCond .eq 30, 3) := by decide +kernel
theorem dX11_digest_248 : decode cX11_digest 248 = .ok (.iload_n 1, 1) := by decide +kernel
theorem dX11_digest_249 : decode cX11_digest 249 = .ok (.bipush 9, 2) := by decide +kernel
theorem dX11_digest_251 : decode cX11_digest 251 = .ok (.if_icmp .ge 24, 3) := by decide +kernel
theorem dX11_digest_254 : decode cX11_digest 254 = .ok (.iload_n 1, 1) := by decide +kernel
theorem dX11_digest_255 : decode cX11_digest 255 = .ok (.iconst 3, 1) := by decide +kernel
theorem dX11_digest_256 : decode cX11_digest 256 = .ok (.if_icmp .eq 13, 3) := by decide +kernel
theorem dX11_digest_259 : decode cX11_digest 259 = .ok (.aload_n 0, 1) := by decide +kernel
theorem dX11_digest_260 : decode cX11_digest 260 = .ok (.aload_n 0, 1) := by decide +kernel
theorem dX11_digest_261 : decode cX11_digest 261 = .ok (.iload_n 1, 1) := by decide +kernel
theorem dX11_digest_262 : decode cX11_digest 262 = .ok (.invokevirtual 247, 3) := by decide +kernel
theorem dX11_digest_265 : decode cX11_digest 265 = .ok (.i2l, 1) := by decide +kernel
theorem dX11_digest_266 : decode cX11_digest 266 = .ok (.invokevirtual 243, 3) := by decide +kernel
theorem dX11_digest_269 : decode cX11_digest 269 = .ok (.iinc 1 1, 3) := by decide +kernel
theorem dX11_digest_272 : decode cX11_digest 272 = .ok (.goto (-31), 3) := by decide +kernel
theorem dX11_digest_275 : decode cX11_digest 275 = .ok (.aload_n 0, 1) := by decide +kernel
theorem dX11_digest_276 : decode cX11_digest 276 = .ok (.getfield 234, 3) := by decide +kernel
theorem dX11_digest_279 : decode cX11_digest 279 = .ok (.lreturn, 1) := by decide +kernel
